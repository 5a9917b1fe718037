-- PressedMenModel mayBe (IZ)Z
abbrev Y_X12_mayBe : ZM := (yX12_mayBe, cX12_mayBe, 8, (some .boolean), 3, 74)
theorem cw_X12_mayBe : z_CV Y_X12_mayBe 12 2 := ⟨⟨_, _, rfl⟩, by decide, q_1339, q_55, q_1340, q_76, ⟨by decide, by decide⟩, rfl⟩
def j_X12_mayBe_277 (n0 : Nat) (x1 : Int32) (x2 : Int32) (x3 : Int32) (x4 : Int32) (x5 : Int32) (x6 : Int32)  (S : ZH) : Option ((Int32 × Int32 × Int32 × ZH) ⊕ (ZH)) :=
  some (Sum.inl (x4, x5, (x6 + (-1)), S))
def j_X12_mayBe_253 (n0 : Nat) (x1 : Int32) (x2 : Int32) (x3 : Int32) (x4 : Int32) (x5 : Int32) (x6 : Int32) (s0 : Option Nat) (s1 : Int32) (s2 : Int32) (S : ZH) : Option ((Int32 × Int32 × Int32 × ZH) ⊕ (ZH)) :=
  (s0).bind fun a12 =>
  (zst S 43 a12 s1 (z_b s2)).bind fun S13 =>
  j_X12_mayBe_277 n0 x1 x2 x3 x4 x5 x6 S13
def j_X12_mayBe_248 (n0 : Nat) (x1 : Int32) (x2 : Int32) (x3 : Int32) (x4 : Int32) (x5 : Int32) (x6 : Int32) (s0 : Option Nat) (s1 : Int32) (S : ZH) : Option ((Int32 × Int32 × Int32 × ZH) ⊕ (ZH)) :=
  j_X12_mayBe_253 n0 x1 x2 x3 x4 x5 x6 s0 s1 (1 : Int32) S
def j_X12_mayBe_204 (n0 : Nat) (x1 : Int32) (x2 : Int32) (x3 : Int32) (x4 : Int32) (x5 : Int32) (x6 : Int32) (s0 : Option Nat) (s1 : Int32) (s2 : Int32) (S : ZH) : Option ((Int32 × Int32 × Int32 × ZH) ⊕ (ZH)) :=
  (s0).bind fun a18 =>
  (zst S 43 a18 s1 (z_b s2)).bind fun S19 =>
  j_X12_mayBe_277 n0 x1 x2 x3 x4 x5 x6 S19
def j_X12_mayBe_203 (n0 : Nat) (x1 : Int32) (x2 : Int32) (x3 : Int32) (x4 : Int32) (x5 : Int32) (x6 : Int32) (s0 : Option Nat) (s1 : Int32) (S : ZH) : Option ((Int32 × Int32 × Int32 × ZH) ⊕ (ZH)) :=
  j_X12_mayBe_204 n0 x1 x2 x3 x4 x5 x6 s0 s1 (0 : Int32) S
def j_X12_mayBe_155 (n0 : Nat) (x1 : Int32) (x2 : Int32) (x3 : Int32) (x4 : Int32) (x5 : Int32) (x6 : Int32) (s0 : Option Nat) (s1 : Int32) (s2 : Int32) (S : ZH) : Option ((Int32 × Int32 × Int32 × ZH) ⊕ (ZH)) :=
  (s0).bind fun a24 =>
  (zst S 43 a24 s1 (z_b s2)).bind fun S25 =>
  j_X12_mayBe_277 n0 x1 x2 x3 x4 x5 x6 S25
def j_X12_mayBe_118 (n0 : Nat) (x1 : Int32) (x2 : Int32) (x3 : Int32) (x4 : Int32) (x6 : Int32) (s0 : Int32) (S : ZH) : Option ((Int32 × Int32 × Int32 × ZH) ⊕ (ZH)) :=
  j_X12_mayBe_277 n0 x1 x2 x3 x4 s0 x6 S
def j_X12_mayBe_107 (n0 : Nat) (x1 : Int32) (x2 : Int32) (x3 : Int32) (x4 : Int32) (x5 : Int32) (x6 : Int32) (x7 : Int32)  (S : ZH) : Option ((Int32 × Int32 × Int32 × ZH) ⊕ (ZH)) :=
  j_X12_mayBe_118 n0 x1 x2 x3 x4 x6 (x5 + ((10 : Int32) * (x7 - (48 : Int32)))) S
def b_X12_mayBe_33 (n0 : Nat) (x1 : Int32) (x2 : Int32) (x3 : Int32) (v : Int32 × Int32 × Int32 × ZH) : Option ((Int32 × Int32 × Int32 × ZH) ⊕ (ZH)) :=
  if v.2.2.1 < 0 then (
    some (Sum.inr v.2.2.2)
  ) else (
    ((zR v.2.2.2 12 n0 20)).bind fun a4 =>
    (zld v.2.2.2 42 a4 (((60 : Int32) * x3) + v.2.2.1)).bind fun v5 =>
    (f_X12_in v5.toInt64 (48 : Int64) (57 : Int64) v.2.2.2).bind fun q6 =>
    if q6 = 0 then (
      if ¬ v5 = (33 : Int32) then (
        if ¬ v5 = (38 : Int32) then (
          if ¬ v5 = (124 : Int32) then (
            (f_X12_test n0 v5 v.2.1 x1 x2 v.2.2.2).bind fun q7 =>
            ((zR v.2.2.2 12 n0 21)).bind fun a8 =>
            (zst v.2.2.2 43 a8 v.1 (z_b q7)).bind fun S9 =>
            j_X12_mayBe_277 n0 x1 x2 x3 (v.1 + 1) v.2.1 v.2.2.1 S9
          ) else (
            ((zR v.2.2.2 12 n0 21)).bind fun a10 =>
            (zld v.2.2.2 43 a10 (v.1 + (-1))).bind fun v11 =>
            if ¬ v11 = 0 then (
              j_X12_mayBe_248 n0 x1 x2 x3 (v.1 + (-1)) v.2.1 v.2.2.1 (zR v.2.2.2 12 n0 21) ((v.1 + (-1)) - (1 : Int32)) v.2.2.2
            ) else (
              ((zR v.2.2.2 12 n0 21)).bind fun a14 =>
              (zld v.2.2.2 43 a14 ((v.1 + (-1)) - (1 : Int32))).bind fun v15 =>
              if v15 = 0 then (
                j_X12_mayBe_253 n0 x1 x2 x3 (v.1 + (-1)) v.2.1 v.2.2.1 (zR v.2.2.2 12 n0 21) ((v.1 + (-1)) - (1 : Int32)) (0 : Int32) v.2.2.2
              ) else (
                j_X12_mayBe_248 n0 x1 x2 x3 (v.1 + (-1)) v.2.1 v.2.2.1 (zR v.2.2.2 12 n0 21) ((v.1 + (-1)) - (1 : Int32)) v.2.2.2
              )
            )
          )
        ) else (
          ((zR v.2.2.2 12 n0 21)).bind fun a16 =>
          (zld v.2.2.2 43 a16 (v.1 + (-1))).bind fun v17 =>
          if v17 = 0 then (
            j_X12_mayBe_203 n0 x1 x2 x3 (v.1 + (-1)) v.2.1 v.2.2.1 (zR v.2.2.2 12 n0 21) ((v.1 + (-1)) - (1 : Int32)) v.2.2.2
          ) else (
            ((zR v.2.2.2 12 n0 21)).bind fun a20 =>
            (zld v.2.2.2 43 a20 ((v.1 + (-1)) - (1 : Int32))).bind fun v21 =>
            if v21 = 0 then (
              j_X12_mayBe_203 n0 x1 x2 x3 (v.1 + (-1)) v.2.1 v.2.2.1 (zR v.2.2.2 12 n0 21) ((v.1 + (-1)) - (1 : Int32)) v.2.2.2
            ) else (
              j_X12_mayBe_204 n0 x1 x2 x3 (v.1 + (-1)) v.2.1 v.2.2.1 (zR v.2.2.2 12 n0 21) ((v.1 + (-1)) - (1 : Int32)) (1 : Int32) v.2.2.2
            )
          )
        )
      ) else (
        ((zR v.2.2.2 12 n0 21)).bind fun a22 =>
        (zld v.2.2.2 43 a22 (v.1 - (1 : Int32))).bind fun v23 =>
        if ¬ v23 = 0 then (
          j_X12_mayBe_155 n0 x1 x2 x3 v.1 v.2.1 v.2.2.1 (zR v.2.2.2 12 n0 21) (v.1 - (1 : Int32)) (0 : Int32) v.2.2.2
        ) else (
          j_X12_mayBe_155 n0 x1 x2 x3 v.1 v.2.1 v.2.2.1 (zR v.2.2.2 12 n0 21) (v.1 - (1 : Int32)) (1 : Int32) v.2.2.2
        )
      )
    ) else (
      if v.2.2.1 ≤ 0 then (
        j_X12_mayBe_107 n0 x1 x2 x3 v.1 v.2.1 v.2.2.1 v5 v.2.2.2
      ) else (
        ((zR v.2.2.2 12 n0 20)).bind fun a26 =>
        (zld v.2.2.2 42 a26 ((((60 : Int32) * x3) + v.2.2.1) - (1 : Int32))).bind fun v27 =>
        (f_X12_in v27.toInt64 (48 : Int64) (57 : Int64) v.2.2.2).bind fun q28 =>
        if q28 = 0 then (
          j_X12_mayBe_107 n0 x1 x2 x3 v.1 v.2.1 v.2.2.1 v5 v.2.2.2
        ) else (
          j_X12_mayBe_118 n0 x1 x2 x3 v.1 v.2.2.1 (v5 - (48 : Int32)) v.2.2.2
        )
      )
    )
  )
def f_X12_mayBe (n0 : Nat) (x1 : Int32) (x2 : Int32) (S : ZH) : Option (Int32 × ZH) :=
  (f_X12_forceOf n0 (zI S 12 n0 4) S).bind fun q1 =>
  if ¬ q1 = (-9 : Int32) then (
    ((zR S 12 n0 19)).bind fun a2 =>
    (zld S 41 a2 q1).bind fun v3 =>
    (z_iter zFU (b_X12_mayBe_33 n0 x1 x2 q1) ((0 : Int32), (0 : Int32), (v3 - (1 : Int32)), S)).bind fun t29 =>
    ((zR t29 12 n0 21)).bind fun a30 =>
    (zld t29 43 a30 (0 : Int32)).bind fun v31 =>
    if z_b v31 = v31 then some (v31, t29) else none
  ) else (
    some ((0 : Int32), S)
  )
set_option maxRecDepth 20000 in
theorem k_X12_mayBe_277 {S0 : ZH} {F : ZP} {n0 : Nat} {x1 : Int32} {x2 : Int32} {x3 : Int32} {x4 : Int32} {x5 : Int32} {x6 : Int32}   {S : ZH} {z : (Int32 × Int32 × Int32 × ZH) ⊕ (ZH)} (h : j_X12_mayBe_277 n0 x1 x2 x3 x4 x5 x6 S = some z) (k : Sum.elim (fun v : Int32 × Int32 × Int32 × ZH => Wp Y_X12_mayBe S0 F 33 [(0, z_r 12 (some n0)), (1, z_i x1), (2, z_i x2), (3, z_i x3), (4, z_i v.1), (5, z_i v.2.1), (6, z_i v.2.2.1)] [] v.2.2.2) (fun t => Wp Y_X12_mayBe S0 F 283 [(0, z_r 12 (some n0))] [] t) z) : Wp Y_X12_mayBe S0 (F) 277 [(0, z_r 12 (some n0)), (1, z_i x1), (2, z_i x2), (3, z_i x3), (4, z_i x4), (5, z_i x5), (6, z_i x6)] [] S := by
  unfold j_X12_mayBe_277 at h
  refine x_iinc (v := (x6 + (-1))) (lo' := [(6, z_i (x6 + (-1))), (0, z_r 12 (some n0)), (1, z_i x1), (2, z_i x2), (3, z_i x3), (4, z_i x4), (5, z_i x5)]) 6 dX12_mayBe_277 rfl (congrArg (HAdd.hAdd x6) (by decide)) (by decide) rfl ?_
  refine x_goto (tgt := 33) dX12_mayBe_280 (by decide) ?_
  cases h
  exact x_lo [1, 2, 3, 4, 5, 6, 0] rfl k
set_option maxRecDepth 20000 in
theorem k_X12_mayBe_253 {S0 : ZH} {F : ZP} {n0 : Nat} {x1 : Int32} {x2 : Int32} {x3 : Int32} {x4 : Int32} {x5 : Int32} {x6 : Int32} {s0 : Option Nat} {s1 : Int32} {s2 : Int32}  {S : ZH} {z : (Int32 × Int32 × Int32 × ZH) ⊕ (ZH)} (h : j_X12_mayBe_253 n0 x1 x2 x3 x4 x5 x6 s0 s1 s2 S = some z) (k : Sum.elim (fun v : Int32 × Int32 × Int32 × ZH => Wp Y_X12_mayBe S0 F 33 [(0, z_r 12 (some n0)), (1, z_i x1), (2, z_i x2), (3, z_i x3), (4, z_i v.1), (5, z_i v.2.1), (6, z_i v.2.2.1)] [] v.2.2.2) (fun t => Wp Y_X12_mayBe S0 F 283 [(0, z_r 12 (some n0))] [] t) z) : Wp Y_X12_mayBe S0 (F) 253 [(0, z_r 12 (some n0)), (1, z_i x1), (2, z_i x2), (3, z_i x3), (4, z_i x4), (5, z_i x5), (6, z_i x6)] [z_i s2, z_i s1, z_r 43 s0] S := by
  unfold j_X12_mayBe_253 at h
  refine z_bnd h (fun a12 ha12 h => ?_)
  revert h
  subst ha12
  intro h
  refine x_zastore rfl ak_43 dX12_mayBe_253 h (fun S13 hS13 h => ?_)
  refine x_goto (tgt := 277) dX12_mayBe_254 (by decide) ?_
  exact x_lo [0, 1, 2, 3, 4, 5, 6] rfl (k_X12_mayBe_277 h k)
set_option maxRecDepth 20000 in
theorem k_X12_mayBe_248 {S0 : ZH} {F : ZP} {n0 : Nat} {x1 : Int32} {x2 : Int32} {x3 : Int32} {x4 : Int32} {x5 : Int32} {x6 : Int32} {s0 : Option Nat} {s1 : Int32}  {S : ZH} {z : (Int32 × Int32 × Int32 × ZH) ⊕ (ZH)} (h : j_X12_mayBe_248 n0 x1 x2 x3 x4 x5 x6 s0 s1 S = some z) (k : Sum.elim (fun v : Int32 × Int32 × Int32 × ZH => Wp Y_X12_mayBe S0 F 33 [(0, z_r 12 (some n0)), (1, z_i x1), (2, z_i x2), (3, z_i x3), (4, z_i v.1), (5, z_i v.2.1), (6, z_i v.2.2.1)] [] v.2.2.2) (fun t => Wp Y_X12_mayBe S0 F 283 [(0, z_r 12 (some n0))] [] t) z) : Wp Y_X12_mayBe S0 (F) 248 [(0, z_r 12 (some n0)), (1, z_i x1), (2, z_i x2), (3, z_i x3), (4, z_i x4), (5, z_i x5), (6, z_i x6)] [z_i s1, z_r 43 s0] S := by
  unfold j_X12_mayBe_248 at h
  refine x_iconst (v := (1 : Int32)) dX12_mayBe_248 (by decide) ?_
  refine x_goto (tgt := 253) dX12_mayBe_249 (by decide) ?_
  exact x_lo [0, 1, 2, 3, 4, 5, 6] rfl (k_X12_mayBe_253 h k)
set_option maxRecDepth 20000 in
theorem k_X12_mayBe_204 {S0 : ZH} {F : ZP} {n0 : Nat} {x1 : Int32} {x2 : Int32} {x3 : Int32} {x4 : Int32} {x5 : Int32} {x6 : Int32} {s0 : Option Nat} {s1 : Int32} {s2 : Int32}  {S : ZH} {z : (Int32 × Int32 × Int32 × ZH) ⊕ (ZH)} (h : j_X12_mayBe_204 n0 x1 x2 x3 x4 x5 x6 s0 s1 s2 S = some z) (k : Sum.elim (fun v : Int32 × Int32 × Int32 × ZH => Wp Y_X12_mayBe S0 F 33 [(0, z_r 12 (some n0)), (1, z_i x1), (2, z_i x2), (3, z_i x3), (4, z_i v.1), (5, z_i v.2.1), (6, z_i v.2.2.1)] [] v.2.2.2) (fun t => Wp Y_X12_mayBe S0 F 283 [(0, z_r 12 (some n0))] [] t) z) : Wp Y_X12_mayBe S0 (F) 204 [(0, z_r 12 (some n0)), (1, z_i x1), (2, z_i x2), (3, z_i x3), (4, z_i x4), (5, z_i x5), (6, z_i x6)] [z_i s2, z_i s1, z_r 43 s0] S := by
  unfold j_X12_mayBe_204 at h
  refine z_bnd h (fun a18 ha18 h => ?_)
  revert h
  subst ha18
  intro h
  refine x_zastore rfl ak_43 dX12_mayBe_204 h (fun S19 hS19 h => ?_)
  refine x_goto (tgt := 277) dX12_mayBe_205 (by decide) ?_
  exact x_lo [0, 1, 2, 3, 4, 5, 6] rfl (k_X12_mayBe_277 h k)
set_option maxRecDepth 20000 in
theorem k_X12_mayBe_203 {S0 : ZH} {F : ZP} {n0 : Nat} {x1 : Int32} {x2 : Int32} {x3 : Int32} {x4 : Int32} {x5 : Int32} {x6 : Int32} {s0 : Option Nat} {s1 : Int32}  {S : ZH} {z : (Int32 × Int32 × Int32 × ZH) ⊕ (ZH)} (h : j_X12_mayBe_203 n0 x1 x2 x3 x4 x5 x6 s0 s1 S = some z) (k : Sum.elim (fun v : Int32 × Int32 × Int32 × ZH => Wp Y_X12_mayBe S0 F 33 [(0, z_r 12 (some n0)), (1, z_i x1), (2, z_i x2), (3, z_i x3), (4, z_i v.1), (5, z_i v.2.1), (6, z_i v.2.2.1)] [] v.2.2.2) (fun t => Wp Y_X12_mayBe S0 F 283 [(0, z_r 12 (some n0))] [] t) z) : Wp Y_X12_mayBe S0 (F) 203 [(0, z_r 12 (some n0)), (1, z_i x1), (2, z_i x2), (3, z_i x3), (4, z_i x4), (5, z_i x5), (6, z_i x6)] [z_i s1, z_r 43 s0] S := by
  unfold j_X12_mayBe_203 at h
  refine x_iconst (v := (0 : Int32)) dX12_mayBe_203 (by decide) ?_
  exact x_lo [0, 1, 2, 3, 4, 5, 6] rfl (k_X12_mayBe_204 h k)
set_option maxRecDepth 20000 in
theorem k_X12_mayBe_155 {S0 : ZH} {F : ZP} {n0 : Nat} {x1 : Int32} {x2 : Int32} {x3 : Int32} {x4 : Int32} {x5 : Int32} {x6 : Int32} {s0 : Option Nat} {s1 : Int32} {s2 : Int32}  {S : ZH} {z : (Int32 × Int32 × Int32 × ZH) ⊕ (ZH)} (h : j_X12_mayBe_155 n0 x1 x2 x3 x4 x5 x6 s0 s1 s2 S = some z) (k : Sum.elim (fun v : Int32 × Int32 × Int32 × ZH => Wp Y_X12_mayBe S0 F 33 [(0, z_r 12 (some n0)), (1, z_i x1), (2, z_i x2), (3, z_i x3), (4, z_i v.1), (5, z_i v.2.1), (6, z_i v.2.2.1)] [] v.2.2.2) (fun t => Wp Y_X12_mayBe S0 F 283 [(0, z_r 12 (some n0))] [] t) z) : Wp Y_X12_mayBe S0 (F) 155 [(0, z_r 12 (some n0)), (1, z_i x1), (2, z_i x2), (3, z_i x3), (4, z_i x4), (5, z_i x5), (6, z_i x6)] [z_i s2, z_i s1, z_r 43 s0] S := by
  unfold j_X12_mayBe_155 at h
  refine z_bnd h (fun a24 ha24 h => ?_)
  revert h
  subst ha24
  intro h
  refine x_zastore rfl ak_43 dX12_mayBe_155 h (fun S25 hS25 h => ?_)
  refine x_goto (tgt := 277) dX12_mayBe_156 (by decide) ?_
  exact x_lo [0, 1, 2, 3, 4, 5, 6] rfl (k_X12_mayBe_277 h k)
set_option maxRecDepth 20000 in
theorem k_X12_mayBe_118 {S0 : ZH} {F : ZP} {n0 : Nat} {x1 : Int32} {x2 : Int32} {x3 : Int32} {x4 : Int32} {x6 : Int32} {s0 : Int32}  {S : ZH} {z : (Int32 × Int32 × Int32 × ZH) ⊕ (ZH)} (h : j_X12_mayBe_118 n0 x1 x2 x3 x4 x6 s0 S = some z) (k : Sum.elim (fun v : Int32 × Int32 × Int32 × ZH => Wp Y_X12_mayBe S0 F 33 [(0, z_r 12 (some n0)), (1, z_i x1), (2, z_i x2), (3, z_i x3), (4, z_i v.1), (5, z_i v.2.1), (6, z_i v.2.2.1)] [] v.2.2.2) (fun t => Wp Y_X12_mayBe S0 F 283 [(0, z_r 12 (some n0))] [] t) z) : Wp Y_X12_mayBe S0 (F) 118 [(0, z_r 12 (some n0)), (1, z_i x1), (2, z_i x2), (3, z_i x3), (4, z_i x4), (6, z_i x6)] [z_i s0] S := by
  unfold j_X12_mayBe_118 at h
  refine x_istore (lo' := [(5, z_i s0), (0, z_r 12 (some n0)), (1, z_i x1), (2, z_i x2), (3, z_i x3), (4, z_i x4), (6, z_i x6)]) dX12_mayBe_118 (by decide) rfl ?_
  refine x_goto (tgt := 277) dX12_mayBe_120 (by decide) ?_
  exact x_lo [1, 2, 3, 4, 5, 0, 6] rfl (k_X12_mayBe_277 h k)
set_option maxRecDepth 20000 in
theorem k_X12_mayBe_107 {S0 : ZH} {F : ZP} {n0 : Nat} {x1 : Int32} {x2 : Int32} {x3 : Int32} {x4 : Int32} {x5 : Int32} {x6 : Int32} {x7 : Int32}   {S : ZH} {z : (Int32 × Int32 × Int32 × ZH) ⊕ (ZH)} (h : j_X12_mayBe_107 n0 x1 x2 x3 x4 x5 x6 x7 S = some z) (k : Sum.elim (fun v : Int32 × Int32 × Int32 × ZH => Wp Y_X12_mayBe S0 F 33 [(0, z_r 12 (some n0)), (1, z_i x1), (2, z_i x2), (3, z_i x3), (4, z_i v.1), (5, z_i v.2.1), (6, z_i v.2.2.1)] [] v.2.2.2) (fun t => Wp Y_X12_mayBe S0 F 283 [(0, z_r 12 (some n0))] [] t) z) : Wp Y_X12_mayBe S0 (F) 107 [(0, z_r 12 (some n0)), (1, z_i x1), (2, z_i x2), (3, z_i x3), (4, z_i x4), (5, z_i x5), (6, z_i x6), (7, z_i x7)] [] S := by
  unfold j_X12_mayBe_107 at h
  refine x_iload 5 dX12_mayBe_107 rfl ?_
  refine x_bipush (v := (10 : Int32)) dX12_mayBe_109 (by decide) ?_
  refine x_iload 7 dX12_mayBe_111 rfl ?_
  refine x_bipush (v := (48 : Int32)) dX12_mayBe_113 (by decide) ?_
  refine x_isub dX12_mayBe_115 ?_
  refine x_imul dX12_mayBe_116 ?_
  refine x_iadd dX12_mayBe_117 ?_
  exact x_lo [0, 1, 2, 3, 4, 6] rfl (k_X12_mayBe_118 h k)
set_option maxRecDepth 20000 in
theorem l_X12_mayBe_33 {S0 : ZH} {F : ZP} {n0 : Nat} {x1 : Int32} {x2 : Int32} {x3 : Int32} {v : Int32 × Int32 × Int32 × ZH} {t : ZH} (h : z_iter zFU (b_X12_mayBe_33 n0 x1 x2 x3) v = some t) (k : (fun t => Wp Y_X12_mayBe S0 F 283 [(0, z_r 12 (some n0))] [] t) t) : Wp Y_X12_mayBe S0 F 33 [(0, z_r 12 (some n0)), (1, z_i x1), (2, z_i x2), (3, z_i x3), (4, z_i v.1), (5, z_i v.2.1), (6, z_i v.2.2.1)] [] v.2.2.2 := by
  refine z_iter_P (P := fun v : Int32 × Int32 × Int32 × ZH => Wp Y_X12_mayBe S0 F 33 [(0, z_r 12 (some n0)), (1, z_i x1), (2, z_i x2), (3, z_i x3), (4, z_i v.1), (5, z_i v.2.1), (6, z_i v.2.2.1)] [] v.2.2.2) (X := (fun t => Wp Y_X12_mayBe S0 F 283 [(0, z_r 12 (some n0))] [] t)) ?_ _ _ _ h k
  clear h k v t
  intro v r h k
  unfold b_X12_mayBe_33 at h
  refine x_iload 6 dX12_mayBe_33 rfl ?_
  refine x_if_lt (tgt := 283) dX12_mayBe_35 (by decide) h (fun h => ?_) (fun h => ?_)
  · cases h
    exact x_lo [0] rfl k
  · refine x_aload_n 0 dX12_mayBe_38 rfl rfl ?_
    refine x_getR rfl ck_12 20 (by decide) rfl q_1069 dX12_mayBe_39 ?_
    refine x_bipush (v := (60 : Int32)) dX12_mayBe_42 (by decide) ?_
    refine x_iload_n 3 dX12_mayBe_44 rfl rfl ?_
    refine x_imul dX12_mayBe_45 ?_
    refine x_iload 6 dX12_mayBe_46 rfl ?_
    refine x_iadd dX12_mayBe_48 ?_
    refine z_bnd h (fun a4 ha4 h => ?_)
    refine x_iaload ha4 ak_42 dX12_mayBe_49 h (fun v5 hv5 h => ?_)
    refine x_istore (lo' := [(7, z_i v5), (0, z_r 12 (some n0)), (1, z_i x1), (2, z_i x2), (3, z_i x3), (4, z_i v.1), (5, z_i v.2.1), (6, z_i v.2.2.1)]) dX12_mayBe_50 (by decide) rfl ?_
    refine x_iload 0 dX12_mayBe_52 rfl ?_
    refine x_i2l dX12_mayBe_54 ?_
    refine x_ldc2 dX12_mayBe_55 q_1316.1 ?_
    refine x_ldc2 dX12_mayBe_58 q_1317.1 ?_
    refine z_bnd h (fun q6 hq6 h => ?_)
    refine x_callS1 (w_X12_in hq6) cw_X12_in q_1172 ⟨by decide, by decide⟩ (Nat.le_of_ble_eq_true rfl) dX12_mayBe_61 rfl ?_
    refine x_if_eq (tgt := 123) dX12_mayBe_64 (by decide) h (fun h => ?_) (fun h => ?_)
    · refine x_iload 0 dX12_mayBe_123 rfl ?_
      refine x_bipush (v := (33 : Int32)) dX12_mayBe_125 (by decide) ?_
      refine x_ic_ne (tgt := 159) dX12_mayBe_127 (by decide) h (fun h => ?_) (fun h => ?_)
      · refine x_iload 0 dX12_mayBe_159 rfl ?_
        refine x_bipush (v := (38 : Int32)) dX12_mayBe_161 (by decide) ?_
        refine x_ic_ne (tgt := 208) dX12_mayBe_163 (by decide) h (fun h => ?_) (fun h => ?_)
        · refine x_iload 0 dX12_mayBe_208 rfl ?_
          refine x_bipush (v := (124 : Int32)) dX12_mayBe_210 (by decide) ?_
          refine x_ic_ne (tgt := 257) dX12_mayBe_212 (by decide) h (fun h => ?_) (fun h => ?_)
          · refine x_aload_n 1 dX12_mayBe_257 rfl rfl ?_
            refine x_getR rfl ck_12 21 (by decide) rfl q_1070 dX12_mayBe_258 ?_
            refine x_iload 5 dX12_mayBe_261 rfl ?_
            refine x_aload_n 1 dX12_mayBe_263 rfl rfl ?_
            refine x_iload 0 dX12_mayBe_264 rfl ?_
            refine x_iload 6 dX12_mayBe_266 rfl ?_
            refine x_iload_n 2 dX12_mayBe_268 rfl rfl ?_
            refine x_iload_n 3 dX12_mayBe_269 rfl rfl ?_
            refine z_bnd h (fun q7 hq7 h => ?_)
            refine x_callV1 rfl (w_X12_test hq7) cw_X12_test q_1341 ⟨by decide, by decide⟩ (Nat.le_of_ble_eq_true rfl) dX12_mayBe_270 rfl ?_
            refine z_bnd h (fun a8 ha8 h => ?_)
            refine x_zastore ha8 ak_43 dX12_mayBe_273 h (fun S9 hS9 h => ?_)
            refine x_iinc (v := (v.1 + 1)) (lo' := [(4, z_i (v.1 + 1)), (7, z_i v5), (0, z_r 12 (some n0)), (1, z_i x1), (2, z_i x2), (3, z_i x3), (5, z_i v.2.1), (6, z_i v.2.2.1)]) 5 dX12_mayBe_274 rfl (congrArg (HAdd.hAdd v.1) (by decide)) (by decide) rfl ?_
            exact x_lo [2, 3, 4, 5, 0, 6, 7] rfl (k_X12_mayBe_277 h k)
          · refine x_iinc (v := (v.1 + (-1))) (lo' := [(4, z_i (v.1 + (-1))), (7, z_i v5), (0, z_r 12 (some n0)), (1, z_i x1), (2, z_i x2), (3, z_i x3), (5, z_i v.2.1), (6, z_i v.2.2.1)]) 5 dX12_mayBe_215 rfl (congrArg (HAdd.hAdd v.1) (by decide)) (by decide) rfl ?_
            refine x_aload_n 2 dX12_mayBe_218 rfl rfl ?_
            refine x_getR rfl ck_12 21 (by decide) rfl q_1070 dX12_mayBe_219 ?_
            refine x_iload 0 dX12_mayBe_222 rfl ?_
            refine x_iconst (v := (1 : Int32)) dX12_mayBe_224 (by decide) ?_
            refine x_isub dX12_mayBe_225 ?_
            refine x_aload_n 2 dX12_mayBe_226 rfl rfl ?_
            refine x_getR rfl ck_12 21 (by decide) rfl q_1070 dX12_mayBe_227 ?_
            refine x_iload 0 dX12_mayBe_230 rfl ?_
            refine z_bnd h (fun a10 ha10 h => ?_)
            refine x_zaload ha10 ak_43 dX12_mayBe_232 h (fun v11 hv11 h => ?_)
            refine x_if_ne (tgt := 248) dX12_mayBe_233 (by decide) h (fun h => ?_) (fun h => ?_)
            · exact x_lo [2, 3, 4, 5, 0, 6, 7] rfl (k_X12_mayBe_248 h k)
            · refine x_aload_n 2 dX12_mayBe_236 rfl rfl ?_
              refine x_getR rfl ck_12 21 (by decide) rfl q_1070 dX12_mayBe_237 ?_
              refine x_iload 0 dX12_mayBe_240 rfl ?_
              refine x_iconst (v := (1 : Int32)) dX12_mayBe_242 (by decide) ?_
              refine x_isub dX12_mayBe_243 ?_
              refine z_bnd h (fun a14 ha14 h => ?_)
              refine x_zaload ha14 ak_43 dX12_mayBe_244 h (fun v15 hv15 h => ?_)
              refine x_if_eq (tgt := 252) dX12_mayBe_245 (by decide) h (fun h => ?_) (fun h => ?_)
              · refine x_iconst (v := (0 : Int32)) dX12_mayBe_252 (by decide) ?_
                exact x_lo [2, 3, 4, 5, 0, 6, 7] rfl (k_X12_mayBe_253 h k)
              · exact x_lo [2, 3, 4, 5, 0, 6, 7] rfl (k_X12_mayBe_248 h k)
        · refine x_iinc (v := (v.1 + (-1))) (lo' := [(4, z_i (v.1 + (-1))), (7, z_i v5), (0, z_r 12 (some n0)), (1, z_i x1), (2, z_i x2), (3, z_i x3), (5, z_i v.2.1), (6, z_i v.2.2.1)]) 5 dX12_mayBe_166 rfl (congrArg (HAdd.hAdd v.1) (by decide)) (by decide) rfl ?_
          refine x_aload_n 2 dX12_mayBe_169 rfl rfl ?_
          refine x_getR rfl ck_12 21 (by decide) rfl q_1070 dX12_mayBe_170 ?_
          refine x_iload 0 dX12_mayBe_173 rfl ?_
          refine x_iconst (v := (1 : Int32)) dX12_mayBe_175 (by decide) ?_
          refine x_isub dX12_mayBe_176 ?_
          refine x_aload_n 2 dX12_mayBe_177 rfl rfl ?_
          refine x_getR rfl ck_12 21 (by decide) rfl q_1070 dX12_mayBe_178 ?_
          refine x_iload 0 dX12_mayBe_181 rfl ?_
          refine z_bnd h (fun a16 ha16 h => ?_)
          refine x_zaload ha16 ak_43 dX12_mayBe_183 h (fun v17 hv17 h => ?_)
          refine x_if_eq (tgt := 203) dX12_mayBe_184 (by decide) h (fun h => ?_) (fun h => ?_)
          · exact x_lo [2, 3, 4, 5, 0, 6, 7] rfl (k_X12_mayBe_203 h k)
          · refine x_aload_n 2 dX12_mayBe_187 rfl rfl ?_
            refine x_getR rfl ck_12 21 (by decide) rfl q_1070 dX12_mayBe_188 ?_
            refine x_iload 0 dX12_mayBe_191 rfl ?_
            refine x_iconst (v := (1 : Int32)) dX12_mayBe_193 (by decide) ?_
            refine x_isub dX12_mayBe_194 ?_
            refine z_bnd h (fun a20 ha20 h => ?_)
            refine x_zaload ha20 ak_43 dX12_mayBe_195 h (fun v21 hv21 h => ?_)
            refine x_if_eq (tgt := 203) dX12_mayBe_196 (by decide) h (fun h => ?_) (fun h => ?_)
            · exact x_lo [2, 3, 4, 5, 0, 6, 7] rfl (k_X12_mayBe_203 h k)
            · refine x_iconst (v := (1 : Int32)) dX12_mayBe_199 (by decide) ?_
              refine x_goto (tgt := 204) dX12_mayBe_200 (by decide) ?_
              exact x_lo [2, 3, 4, 5, 0, 6, 7] rfl (k_X12_mayBe_204 h k)
      · refine x_aload_n 1 dX12_mayBe_130 rfl rfl ?_
        refine x_getR rfl ck_12 21 (by decide) rfl q_1070 dX12_mayBe_131 ?_
        refine x_iload 5 dX12_mayBe_134 rfl ?_
        refine x_iconst (v := (1 : Int32)) dX12_mayBe_136 (by decide) ?_
        refine x_isub dX12_mayBe_137 ?_
        refine x_aload_n 1 dX12_mayBe_138 rfl rfl ?_
        refine x_getR rfl ck_12 21 (by decide) rfl q_1070 dX12_mayBe_139 ?_
        refine x_iload 5 dX12_mayBe_142 rfl ?_
        refine x_iconst (v := (1 : Int32)) dX12_mayBe_144 (by decide) ?_
        refine x_isub dX12_mayBe_145 ?_
        refine z_bnd h (fun a22 ha22 h => ?_)
        refine x_zaload ha22 ak_43 dX12_mayBe_146 h (fun v23 hv23 h => ?_)
        refine x_if_ne (tgt := 154) dX12_mayBe_147 (by decide) h (fun h => ?_) (fun h => ?_)
        · refine x_iconst (v := (0 : Int32)) dX12_mayBe_154 (by decide) ?_
          exact x_lo [1, 2, 3, 4, 5, 6, 7] rfl (k_X12_mayBe_155 h k)
        · refine x_iconst (v := (1 : Int32)) dX12_mayBe_150 (by decide) ?_
          refine x_goto (tgt := 155) dX12_mayBe_151 (by decide) ?_
          exact x_lo [1, 2, 3, 4, 5, 6, 7] rfl (k_X12_mayBe_155 h k)
    · refine x_iload 7 dX12_mayBe_67 rfl ?_
      refine x_if_le (tgt := 107) dX12_mayBe_69 (by decide) h (fun h => ?_) (fun h => ?_)
      · exact x_lo [1, 2, 3, 4, 5, 6, 7, 0] rfl (k_X12_mayBe_107 h k)
      · refine x_aload_n 1 dX12_mayBe_72 rfl rfl ?_
        refine x_getR rfl ck_12 20 (by decide) rfl q_1069 dX12_mayBe_73 ?_
        refine x_bipush (v := (60 : Int32)) dX12_mayBe_76 (by decide) ?_
        refine x_iload_n 4 dX12_mayBe_78 rfl rfl ?_
        refine x_imul dX12_mayBe_79 ?_
        refine x_iload 7 dX12_mayBe_80 rfl ?_
        refine x_iadd dX12_mayBe_82 ?_
        refine x_iconst (v := (1 : Int32)) dX12_mayBe_83 (by decide) ?_
        refine x_isub dX12_mayBe_84 ?_
        refine z_bnd h (fun a26 ha26 h => ?_)
        refine x_iaload ha26 ak_42 dX12_mayBe_85 h (fun v27 hv27 h => ?_)
        refine x_i2l dX12_mayBe_86 ?_
        refine x_ldc2 dX12_mayBe_87 q_1316.1 ?_
        refine x_ldc2 dX12_mayBe_90 q_1317.1 ?_
        refine z_bnd h (fun q28 hq28 h => ?_)
        refine x_callS1 (w_X12_in hq28) cw_X12_in q_1172 ⟨by decide, by decide⟩ (Nat.le_of_ble_eq_true rfl) dX12_mayBe_93 rfl ?_
        refine x_if_eq (tgt := 107) dX12_mayBe_96 (by decide) h (fun h => ?_) (fun h => ?_)
        · exact x_lo [1, 2, 3, 4, 5, 6, 7, 0] rfl (k_X12_mayBe_107 h k)
        · refine x_iload 0 dX12_mayBe_99 rfl ?_
          refine x_bipush (v := (48 : Int32)) dX12_mayBe_101 (by decide) ?_
          refine x_isub dX12_mayBe_103 ?_
          refine x_goto (tgt := 118) dX12_mayBe_104 (by decide) ?_
          exact x_lo [1, 2, 3, 4, 5, 7] rfl (k_X12_mayBe_118 h k)
set_option maxRecDepth 20000 in
set_option maxHeartbeats 1000000 in
theorem w_X12_mayBe {n0 : Nat} {x1 : Int32} {x2 : Int32} {S : ZH} {q : Int32 × ZH} (h : f_X12_mayBe n0 x1 x2 S = some q) : MetX Y_X12_mayBe S [z_r 12 (some n0), z_i x1, z_i x2] (some (z_i q.1)) q.2 := by
  refine MetX.of (lo := [(0, z_r 12 (some n0)), (1, z_i x1), (2, z_i x2)]) rfl (by decide) (Nat.le_of_ble_eq_true rfl) ?_
  unfold f_X12_mayBe at h
  refine x_aload_n 0 dX12_mayBe_0 rfl rfl ?_
  refine x_aload_n 0 dX12_mayBe_1 rfl rfl ?_
  refine x_getI rfl ck_12 4 (by decide) rfl q_1053 dX12_mayBe_2 ?_
  refine z_bnd h (fun q1 hq1 h => ?_)
  refine x_callV1 rfl (w_X12_forceOf hq1) cw_X12_forceOf q_1325 ⟨by decide, by decide⟩ (Nat.le_of_ble_eq_true rfl) dX12_mayBe_5 rfl ?_
  refine x_istore_n (lo' := [(3, z_i q1), (0, z_r 12 (some n0)), (1, z_i x1), (2, z_i x2)]) dX12_mayBe_8 rfl (by decide) rfl ?_
  refine x_iload_n 0 dX12_mayBe_9 rfl rfl ?_
  refine x_bipush (v := (-9 : Int32)) dX12_mayBe_10 (by decide) ?_
  refine x_ic_ne (tgt := 17) dX12_mayBe_12 (by decide) h (fun h => ?_) (fun h => ?_)
  · refine x_iconst (v := (0 : Int32)) dX12_mayBe_17 (by decide) ?_
    refine x_istore (lo' := [(4, z_i (0 : Int32)), (3, z_i q1), (0, z_r 12 (some n0)), (1, z_i x1), (2, z_i x2)]) dX12_mayBe_18 (by decide) rfl ?_
    refine x_iconst (v := (0 : Int32)) dX12_mayBe_20 (by decide) ?_
    refine x_istore (lo' := [(5, z_i (0 : Int32)), (4, z_i (0 : Int32)), (3, z_i q1), (0, z_r 12 (some n0)), (1, z_i x1), (2, z_i x2)]) dX12_mayBe_21 (by decide) rfl ?_
    refine x_aload_n 3 dX12_mayBe_23 rfl rfl ?_
    refine x_getR rfl ck_12 19 (by decide) rfl q_1068 dX12_mayBe_24 ?_
    refine x_iload_n 2 dX12_mayBe_27 rfl rfl ?_
    refine z_bnd h (fun a2 ha2 h => ?_)
    refine x_iaload ha2 ak_41 dX12_mayBe_28 h (fun v3 hv3 h => ?_)
    refine x_iconst (v := (1 : Int32)) dX12_mayBe_29 (by decide) ?_
    refine x_isub dX12_mayBe_30 ?_
    refine x_istore (lo' := [(6, z_i (v3 - (1 : Int32))), (5, z_i (0 : Int32)), (4, z_i (0 : Int32)), (3, z_i q1), (0, z_r 12 (some n0)), (1, z_i x1), (2, z_i x2)]) dX12_mayBe_31 (by decide) rfl ?_
    refine z_bnd h (fun t29 ht29 h => ?_)
    refine x_lo [4, 5, 6, 3, 2, 1, 0] rfl ?_
    refine l_X12_mayBe_33 ht29 ?_
    refine x_aload_n 0 dX12_mayBe_283 rfl rfl ?_
    refine x_getR rfl ck_12 21 (by decide) rfl q_1070 dX12_mayBe_284 ?_
    refine x_iconst (v := (0 : Int32)) dX12_mayBe_287 (by decide) ?_
    refine z_bnd h (fun a30 ha30 h => ?_)
    refine x_zaload ha30 ak_43 dX12_mayBe_288 h (fun v31 hv31 h => ?_)
    exact x_zretE rfl dX12_mayBe_289 h
  · refine x_iconst (v := (0 : Int32)) dX12_mayBe_15 (by decide) ?_
    exact x_zretCE rfl (by decide) dX12_mayBe_16 h
-- PressedMenModel truly (I)Z
abbrev Y_X12_truly : ZM := (yX12_truly, cX12_truly, 4, (some .boolean), 4, 101)
theorem cw_X12_truly : z_CV Y_X12_truly 12 1 := ⟨⟨_, _, rfl⟩, by decide, q_1355, q_57, q_1356, q_76, ⟨by decide, by decide⟩, rfl⟩
def b_X12_truly_4 (n0 : Nat) (x1 : Int32) (S : ZH) (v : Int32 × Int32) : Option ((Int32 × Int32) ⊕ (Int32)) :=
  if (zI S 12 n0 15) ≤ v.2 then (
    some (Sum.inr v.1)
  ) else (
    if ¬ v.1 = 0 then (
      some (Sum.inl ((1 : Int32), (v.2 + 1)))
    ) else (
      ((zR S 12 n0 16)).bind fun a1 =>
      (zld S 39 a1 ((9 : Int32) * v.2)).bind fun v2 =>
      if ¬ v2 = x1 then (
        some (Sum.inl ((0 : Int32), (v.2 + 1)))
      ) else (
        (f_X12_covers n0 v.2 x1 (zI S 12 n0 4) S).bind fun q3 =>
        if q3 ≤ 0 then (
          some (Sum.inl ((0 : Int32), (v.2 + 1)))
        ) else (
          some (Sum.inl ((1 : Int32), (v.2 + 1)))
        )
      )
    )
  )
def f_X12_truly (n0 : Nat) (x1 : Int32) (S : ZH) : Option (Int32 × ZH) :=
  (z_iter zFU (b_X12_truly_4 n0 x1 S) ((0 : Int32), (0 : Int32))).bind fun t4 =>
  (f_X12_mayBe n0 x1 t4 S).bind fun q5 =>
  if z_b q5.1 = q5.1 then some (q5.1, q5.2) else none
set_option maxRecDepth 20000 in
theorem l_X12_truly_4 {S0 : ZH} {F : ZP} {n0 : Nat} {x1 : Int32} {S : ZH} {v : Int32 × Int32} {t : Int32} (h : z_iter zFU (b_X12_truly_4 n0 x1 S) v = some t) (k : (fun t => Wp Y_X12_truly S0 F 54 [(0, z_r 12 (some n0)), (1, z_i x1), (2, z_i t)] [] S) t) : Wp Y_X12_truly S0 F 4 [(0, z_r 12 (some n0)), (1, z_i x1), (2, z_i v.1), (3, z_i v.2)] [] S := by
  refine z_iter_P (P := fun v : Int32 × Int32 => Wp Y_X12_truly S0 F 4 [(0, z_r 12 (some n0)), (1, z_i x1), (2, z_i v.1), (3, z_i v.2)] [] S) (X := (fun t => Wp Y_X12_truly S0 F 54 [(0, z_r 12 (some n0)), (1, z_i x1), (2, z_i t)] [] S)) ?_ _ _ _ h k
  clear h k v t
  intro v r h k
  unfold b_X12_truly_4 at h
  refine x_iload_n 3 dX12_truly_4 rfl rfl ?_
  refine x_aload_n 0 dX12_truly_5 rfl rfl ?_
  refine x_getI rfl ck_12 15 (by decide) rfl q_1064 dX12_truly_6 ?_
  refine x_ic_ge (tgt := 54) dX12_truly_9 (by decide) h (fun h => ?_) (fun h => ?_)
  · cases h
    exact x_lo [0, 1, 2] rfl k
  · refine x_iload_n 2 dX12_truly_12 rfl rfl ?_
    refine x_if_ne (tgt := 42) dX12_truly_13 (by decide) h (fun h => ?_) (fun h => ?_)
    · refine x_iconst (v := (1 : Int32)) dX12_truly_42 (by decide) ?_
      refine x_goto (tgt := 47) dX12_truly_43 (by decide) ?_
      refine x_istore_n (lo' := [(2, z_i (1 : Int32)), (0, z_r 12 (some n0)), (1, z_i x1), (3, z_i v.2)]) dX12_truly_47 rfl (by decide) rfl ?_
      refine x_iinc (v := (v.2 + 1)) (lo' := [(3, z_i (v.2 + 1)), (2, z_i (1 : Int32)), (0, z_r 12 (some n0)), (1, z_i x1)]) 3 dX12_truly_48 rfl (congrArg (HAdd.hAdd v.2) (by decide)) (by decide) rfl ?_
      refine x_goto (tgt := 4) dX12_truly_51 (by decide) ?_
      cases h
      exact x_lo [2, 3, 1, 0] rfl k
    · refine x_aload_n 0 dX12_truly_16 rfl rfl ?_
      refine x_getR rfl ck_12 16 (by decide) rfl q_1065 dX12_truly_17 ?_
      refine x_bipush (v := (9 : Int32)) dX12_truly_20 (by decide) ?_
      refine x_iload_n 3 dX12_truly_22 rfl rfl ?_
      refine x_imul dX12_truly_23 ?_
      refine z_bnd h (fun a1 ha1 h => ?_)
      refine x_iaload ha1 ak_39 dX12_truly_24 h (fun v2 hv2 h => ?_)
      refine x_iload_n 1 dX12_truly_25 rfl rfl ?_
      refine x_ic_ne (tgt := 46) dX12_truly_26 (by decide) h (fun h => ?_) (fun h => ?_)
      · refine x_iconst (v := (0 : Int32)) dX12_truly_46 (by decide) ?_
        refine x_istore_n (lo' := [(2, z_i (0 : Int32)), (0, z_r 12 (some n0)), (1, z_i x1), (3, z_i v.2)]) dX12_truly_47 rfl (by decide) rfl ?_
        refine x_iinc (v := (v.2 + 1)) (lo' := [(3, z_i (v.2 + 1)), (2, z_i (0 : Int32)), (0, z_r 12 (some n0)), (1, z_i x1)]) 3 dX12_truly_48 rfl (congrArg (HAdd.hAdd v.2) (by decide)) (by decide) rfl ?_
        refine x_goto (tgt := 4) dX12_truly_51 (by decide) ?_
        cases h
        exact x_lo [2, 3, 1, 0] rfl k
      · refine x_aload_n 0 dX12_truly_29 rfl rfl ?_
        refine x_iload_n 3 dX12_truly_30 rfl rfl ?_
        refine x_iload_n 1 dX12_truly_31 rfl rfl ?_
        refine x_aload_n 0 dX12_truly_32 rfl rfl ?_
        refine x_getI rfl ck_12 4 (by decide) rfl q_1053 dX12_truly_33 ?_
        refine z_bnd h (fun q3 hq3 h => ?_)
        refine x_callV1 rfl (w_X12_covers hq3) cw_X12_covers q_1286 ⟨by decide, by decide⟩ (Nat.le_of_ble_eq_true rfl) dX12_truly_36 rfl ?_
        refine x_if_le (tgt := 46) dX12_truly_39 (by decide) h (fun h => ?_) (fun h => ?_)
        · refine x_iconst (v := (0 : Int32)) dX12_truly_46 (by decide) ?_
          refine x_istore_n (lo' := [(2, z_i (0 : Int32)), (0, z_r 12 (some n0)), (1, z_i x1), (3, z_i v.2)]) dX12_truly_47 rfl (by decide) rfl ?_
          refine x_iinc (v := (v.2 + 1)) (lo' := [(3, z_i (v.2 + 1)), (2, z_i (0 : Int32)), (0, z_r 12 (some n0)), (1, z_i x1)]) 3 dX12_truly_48 rfl (congrArg (HAdd.hAdd v.2) (by decide)) (by decide) rfl ?_
          refine x_goto (tgt := 4) dX12_truly_51 (by decide) ?_
          cases h
          exact x_lo [2, 3, 1, 0] rfl k
        · refine x_iconst (v := (1 : Int32)) dX12_truly_42 (by decide) ?_
          refine x_goto (tgt := 47) dX12_truly_43 (by decide) ?_
          refine x_istore_n (lo' := [(2, z_i (1 : Int32)), (0, z_r 12 (some n0)), (1, z_i x1), (3, z_i v.2)]) dX12_truly_47 rfl (by decide) rfl ?_
          refine x_iinc (v := (v.2 + 1)) (lo' := [(3, z_i (v.2 + 1)), (2, z_i (1 : Int32)), (0, z_r 12 (some n0)), (1, z_i x1)]) 3 dX12_truly_48 rfl (congrArg (HAdd.hAdd v.2) (by decide)) (by decide) rfl ?_
          refine x_goto (tgt := 4) dX12_truly_51 (by decide) ?_
          cases h
          exact x_lo [2, 3, 1, 0] rfl k
set_option maxRecDepth 20000 in
set_option maxHeartbeats 1000000 in
theorem w_X12_truly {n0 : Nat} {x1 : Int32} {S : ZH} {q : Int32 × ZH} (h : f_X12_truly n0 x1 S = some q) : MetX Y_X12_truly S [z_r 12 (some n0), z_i x1] (some (z_i q.1)) q.2 := by
  refine MetX.of (lo := [(0, z_r 12 (some n0)), (1, z_i x1)]) rfl (by decide) (Nat.le_of_ble_eq_true rfl) ?_
  unfold f_X12_truly at h
  refine x_iconst (v := (0 : Int32)) dX12_truly_0 (by decide) ?_
  refine x_istore_n (lo' := [(2, z_i (0 : Int32)), (0, z_r 12 (some n0)), (1, z_i x1)]) dX12_truly_1 rfl (by decide) rfl ?_
  refine x_iconst (v := (0 : Int32)) dX12_truly_2 (by decide) ?_
  refine x_istore_n (lo' := [(3, z_i (0 : Int32)), (2, z_i (0 : Int32)), (0, z_r 12 (some n0)), (1, z_i x1)]) dX12_truly_3 rfl (by decide) rfl ?_
  refine z_bnd h (fun t4 ht4 h => ?_)
  refine x_lo [2, 3, 1, 0] rfl ?_
  refine l_X12_truly_4 ht4 ?_
  refine x_aload_n 0 dX12_truly_54 rfl rfl ?_
  refine x_iload_n 1 dX12_truly_55 rfl rfl ?_
  refine x_iload_n 2 dX12_truly_56 rfl rfl ?_
  refine z_bnd h (fun q5 hq5 h => ?_)
  refine x_callV1 rfl (w_X12_mayBe hq5) cw_X12_mayBe q_1337 ⟨by decide, by decide⟩ (Nat.le_of_ble_eq_true rfl) dX12_truly_57 rfl ?_
  exact x_zretE rfl dX12_truly_60 h
-- PressedMenModel asShown (II)Z
abbrev Y_X12_asShown : ZM := (yX12_asShown, cX12_asShown, 3, (some .boolean), 4, 101)
theorem cw_X12_asShown : z_CV Y_X12_asShown 12 2 := ⟨⟨_, _, rfl⟩, by decide, q_1335, q_54, q_1336, q_76, ⟨by decide, by decide⟩, rfl⟩
def f_X12_asShown (n0 : Nat) (x1 : Int32) (x2 : Int32) (S : ZH) : Option (Int32 × ZH) :=
  if x2 = (-9 : Int32) then (
    (f_X12_mayBe n0 x1 (0 : Int32) S).bind fun q1 =>
    if z_b q1.1 = q1.1 then some (q1.1, q1.2) else none
  ) else (
    (f_X12_covers n0 x2 x1 (zI S 12 n0 4) S).bind fun q2 =>
    if q2 ≤ 0 then (
      (f_X12_mayBe n0 x1 (0 : Int32) S).bind fun q3 =>
      if z_b q3.1 = q3.1 then some (q3.1, q3.2) else none
    ) else (
      (f_X12_mayBe n0 x1 (1 : Int32) S).bind fun q4 =>
      if z_b q4.1 = q4.1 then some (q4.1, q4.2) else none
    )
  )
set_option maxRecDepth 20000 in
set_option maxHeartbeats 1000000 in
theorem w_X12_asShown {n0 : Nat} {x1 : Int32} {x2 : Int32} {S : ZH} {q : Int32 × ZH} (h : f_X12_asShown n0 x1 x2 S = some q) : MetX Y_X12_asShown S [z_r 12 (some n0), z_i x1, z_i x2] (some (z_i q.1)) q.2 := by
  refine MetX.of (lo := [(0, z_r 12 (some n0)), (1, z_i x1), (2, z_i x2)]) rfl (by decide) (Nat.le_of_ble_eq_true rfl) ?_
  unfold f_X12_asShown at h
  refine x_aload_n 0 dX12_asShown_0 rfl rfl ?_
  refine x_iload_n 1 dX12_asShown_1 rfl rfl ?_
  refine x_iload_n 2 dX12_asShown_2 rfl rfl ?_
  refine x_bipush (v := (-9 : Int32)) dX12_asShown_3 (by decide) ?_
  refine x_ic_eq (tgt := 25) dX12_asShown_5 (by decide) h (fun h => ?_) (fun h => ?_)
  · refine x_iconst (v := (0 : Int32)) dX12_asShown_25 (by decide) ?_
    refine z_bnd h (fun q1 hq1 h => ?_)
    refine x_callV1 rfl (w_X12_mayBe hq1) cw_X12_mayBe q_1337 ⟨by decide, by decide⟩ (Nat.le_of_ble_eq_true rfl) dX12_asShown_26 rfl ?_
    exact x_zretE rfl dX12_asShown_29 h
  · refine x_aload_n 0 dX12_asShown_8 rfl rfl ?_
    refine x_iload_n 2 dX12_asShown_9 rfl rfl ?_
    refine x_iload_n 1 dX12_asShown_10 rfl rfl ?_
    refine x_aload_n 0 dX12_asShown_11 rfl rfl ?_
    refine x_getI rfl ck_12 4 (by decide) rfl q_1053 dX12_asShown_12 ?_
    refine z_bnd h (fun q2 hq2 h => ?_)
    refine x_callV1 rfl (w_X12_covers hq2) cw_X12_covers q_1286 ⟨by decide, by decide⟩ (Nat.le_of_ble_eq_true rfl) dX12_asShown_15 rfl ?_
    refine x_if_le (tgt := 25) dX12_asShown_18 (by decide) h (fun h => ?_) (fun h => ?_)
    · refine x_iconst (v := (0 : Int32)) dX12_asShown_25 (by decide) ?_
      refine z_bnd h (fun q3 hq3 h => ?_)
      refine x_callV1 rfl (w_X12_mayBe hq3) cw_X12_mayBe q_1337 ⟨by decide, by decide⟩ (Nat.le_of_ble_eq_true rfl) dX12_asShown_26 rfl ?_
      exact x_zretE rfl dX12_asShown_29 h
    · refine x_iconst (v := (1 : Int32)) dX12_asShown_21 (by decide) ?_
      refine x_goto (tgt := 26) dX12_asShown_22 (by decide) ?_
      refine z_bnd h (fun q4 hq4 h => ?_)
      refine x_callV1 rfl (w_X12_mayBe hq4) cw_X12_mayBe q_1337 ⟨by decide, by decide⟩ (Nat.le_of_ble_eq_true rfl) dX12_asShown_26 rfl ?_
      exact x_zretE rfl dX12_asShown_29 h
-- PressedMenModel may (II)I
abbrev Y_X12_may : ZM := (yX12_may, cX12_may, 3, (some .int), 5, 123)
theorem cw_X12_may : z_CV Y_X12_may 12 2 := ⟨⟨_, _, rfl⟩, by decide, q_1330, q_1331, q_1332, q_76, ⟨by decide, by decide⟩, rfl⟩
def j_X12_may_29 (n0 : Nat) (x1 : Int32) (x2 : Int32)  (S : ZH) : Option (Int32 × ZH) :=
  (f_X12_asShown n0 x1 x2 S).bind fun q2 =>
  if q2.1 = 0 then (
    some ((0 : Int32), q2.2)
  ) else (
    some ((1 : Int32), q2.2)
  )
def f_X12_may (n0 : Nat) (x1 : Int32) (x2 : Int32) (S : ZH) : Option (Int32 × ZH) :=
  (f_X12_noMan n0 x1 (zsI S 12 n0 0 (0 : Int32))).bind fun q1 =>
  if ¬ q1 = 0 then (
    some ((-1 : Int32), (zsI S 12 n0 0 (0 : Int32)))
  ) else (
    if x2 = (-9 : Int32) then (
      j_X12_may_29 n0 x1 x2 (zsI S 12 n0 0 (0 : Int32))
    ) else (
      (f_X12_noPaper n0 x2 (zsI S 12 n0 0 (0 : Int32))).bind fun q3 =>
      if q3 = 0 then (
        j_X12_may_29 n0 x1 x2 (zsI S 12 n0 0 (0 : Int32))
      ) else (
        some ((-1 : Int32), (zsI S 12 n0 0 (0 : Int32)))
      )
    )
  )
set_option maxRecDepth 20000 in
theorem k_X12_may_29 {S0 : ZH} {n0 : Nat} {x1 : Int32} {x2 : Int32}  {S : ZH} {z : Int32 × ZH} (h : j_X12_may_29 n0 x1 x2 S = some z) : Wp Y_X12_may S0 (zF S0 (some (z_i z.1)) z.2) 29 [(0, z_r 12 (some n0)), (1, z_i x1), (2, z_i x2)] [] S := by
  unfold j_X12_may_29 at h
  refine x_aload_n 0 dX12_may_29 rfl rfl ?_
  refine x_iload_n 1 dX12_may_30 rfl rfl ?_
  refine x_iload_n 2 dX12_may_31 rfl rfl ?_
  refine z_bnd h (fun q2 hq2 h => ?_)
  refine x_callV1 rfl (w_X12_asShown hq2) cw_X12_asShown q_1333 ⟨by decide, by decide⟩ (Nat.le_of_ble_eq_true rfl) dX12_may_32 rfl ?_
  refine x_if_eq (tgt := 42) dX12_may_35 (by decide) h (fun h => ?_) (fun h => ?_)
  · refine x_iconst (v := (0 : Int32)) dX12_may_42 (by decide) ?_
    exact x_iretE rfl dX12_may_43 h
  · refine x_iconst (v := (1 : Int32)) dX12_may_38 (by decide) ?_
    refine x_goto (tgt := 43) dX12_may_39 (by decide) ?_
    exact x_iretE rfl dX12_may_43 h
set_option maxRecDepth 20000 in
set_option maxHeartbeats 1000000 in
theorem w_X12_may {n0 : Nat} {x1 : Int32} {x2 : Int32} {S : ZH} {q : Int32 × ZH} (h : f_X12_may n0 x1 x2 S = some q) : MetX Y_X12_may S [z_r 12 (some n0), z_i x1, z_i x2] (some (z_i q.1)) q.2 := by
  refine MetX.of (lo := [(0, z_r 12 (some n0)), (1, z_i x1), (2, z_i x2)]) rfl (by decide) (Nat.le_of_ble_eq_true rfl) ?_
  unfold f_X12_may at h
  refine x_aload_n 0 dX12_may_0 rfl rfl ?_
  refine x_iconst (v := (0 : Int32)) dX12_may_1 (by decide) ?_
  refine x_putI rfl ck_12 0 (by decide) rfl (Or.inl rfl) (by rfl) rfl q_1049 dX12_may_2 ?_
  refine x_aload_n 0 dX12_may_5 rfl rfl ?_
  refine x_iload_n 1 dX12_may_6 rfl rfl ?_
  refine z_bnd h (fun q1 hq1 h => ?_)
  refine x_callV1 rfl (w_X12_noMan hq1) cw_X12_noMan q_1206 ⟨by decide, by decide⟩ (Nat.le_of_ble_eq_true rfl) dX12_may_7 rfl ?_
  refine x_if_ne (tgt := 27) dX12_may_10 (by decide) h (fun h => ?_) (fun h => ?_)
  · refine x_iconst (v := (-1 : Int32)) dX12_may_27 (by decide) ?_
    exact x_iretE rfl dX12_may_28 h
  · refine x_iload_n 2 dX12_may_13 rfl rfl ?_
    refine x_bipush (v := (-9 : Int32)) dX12_may_14 (by decide) ?_
    refine x_ic_eq (tgt := 29) dX12_may_16 (by decide) h (fun h => ?_) (fun h => ?_)
    · exact x_lo [0, 1, 2] rfl (k_X12_may_29 h)
    · refine x_aload_n 0 dX12_may_19 rfl rfl ?_
      refine x_iload_n 2 dX12_may_20 rfl rfl ?_
      refine z_bnd h (fun q3 hq3 h => ?_)
      refine x_callV1 rfl (w_X12_noPaper hq3) cw_X12_noPaper q_1278 ⟨by decide, by decide⟩ (Nat.le_of_ble_eq_true rfl) dX12_may_21 rfl ?_
      refine x_if_eq (tgt := 29) dX12_may_24 (by decide) h (fun h => ?_) (fun h => ?_)
      · exact x_lo [0, 1, 2] rfl (k_X12_may_29 h)
      · refine x_iconst (v := (-1 : Int32)) dX12_may_27 (by decide) ?_
        exact x_iretE rfl dX12_may_28 h
-- PressedMenModel mayTruly (I)I
abbrev Y_X12_mayTruly : ZM := (yX12_mayTruly, cX12_mayTruly, 2, (some .int), 5, 124)
theorem cw_X12_mayTruly : z_CV Y_X12_mayTruly 12 1 := ⟨⟨_, _, rfl⟩, by decide, q_1350, q_1351, q_1352, q_76, ⟨by decide, by decide⟩, rfl⟩
def f_X12_mayTruly (n0 : Nat) (x1 : Int32) (S : ZH) : Option (Int32 × ZH) :=
  (f_X12_noMan n0 x1 (zsI S 12 n0 0 (0 : Int32))).bind fun q1 =>
  if q1 = 0 then (
    (f_X12_truly n0 x1 (zsI S 12 n0 0 (0 : Int32))).bind fun q2 =>
    if q2.1 = 0 then (
      some ((0 : Int32), q2.2)
    ) else (
      some ((1 : Int32), q2.2)
    )
  ) else (
    some ((-1 : Int32), (zsI S 12 n0 0 (0 : Int32)))
  )
set_option maxRecDepth 20000 in
set_option maxHeartbeats 1000000 in
theorem w_X12_mayTruly {n0 : Nat} {x1 : Int32} {S : ZH} {q : Int32 × ZH} (h : f_X12_mayTruly n0 x1 S = some q) : MetX Y_X12_mayTruly S [z_r 12 (some n0), z_i x1] (some (z_i q.1)) q.2 := by
  refine MetX.of (lo := [(0, z_r 12 (some n0)), (1, z_i x1)]) rfl (by decide) (Nat.le_of_ble_eq_true rfl) ?_
  unfold f_X12_mayTruly at h
  refine x_aload_n 0 dX12_mayTruly_0 rfl rfl ?_
  refine x_iconst (v := (0 : Int32)) dX12_mayTruly_1 (by decide) ?_
  refine x_putI rfl ck_12 0 (by decide) rfl (Or.inl rfl) (by rfl) rfl q_1049 dX12_mayTruly_2 ?_
  refine x_aload_n 0 dX12_mayTruly_5 rfl rfl ?_
  refine x_iload_n 1 dX12_mayTruly_6 rfl rfl ?_
  refine z_bnd h (fun q1 hq1 h => ?_)
  refine x_callV1 rfl (w_X12_noMan hq1) cw_X12_noMan q_1206 ⟨by decide, by decide⟩ (Nat.le_of_ble_eq_true rfl) dX12_mayTruly_7 rfl ?_
  refine x_if_eq (tgt := 17) dX12_mayTruly_10 (by decide) h (fun h => ?_) (fun h => ?_)
  · refine x_aload_n 0 dX12_mayTruly_17 rfl rfl ?_
    refine x_iload_n 1 dX12_mayTruly_18 rfl rfl ?_
    refine z_bnd h (fun q2 hq2 h => ?_)
    refine x_callV1 rfl (w_X12_truly hq2) cw_X12_truly q_1353 ⟨by decide, by decide⟩ (Nat.le_of_ble_eq_true rfl) dX12_mayTruly_19 rfl ?_
    refine x_if_eq (tgt := 29) dX12_mayTruly_22 (by decide) h (fun h => ?_) (fun h => ?_)
    · refine x_iconst (v := (0 : Int32)) dX12_mayTruly_29 (by decide) ?_
      exact x_iretE rfl dX12_mayTruly_30 h
    · refine x_iconst (v := (1 : Int32)) dX12_mayTruly_25 (by decide) ?_
      refine x_goto (tgt := 30) dX12_mayTruly_26 (by decide) ?_
      exact x_iretE rfl dX12_mayTruly_30 h
  · refine x_iconst (v := (-1 : Int32)) dX12_mayTruly_13 (by decide) ?_
    refine x_goto (tgt := 30) dX12_mayTruly_14 (by decide) ?_
    exact x_iretE rfl dX12_mayTruly_30 h
-- PressedMenModel take (II)I
abbrev Y_X12_take : ZM := (yX12_take, cX12_take, 5, (some .int), 5, 124)
theorem cw_X12_take : z_CV Y_X12_take 12 2 := ⟨⟨_, _, rfl⟩, by decide, q_1358, q_1359, q_1360, q_76, ⟨by decide, by decide⟩, rfl⟩
def j_X12_take_172 (n0 : Nat) (x1 : Int32) (s0 : Option Nat) (s1 : Int32) (s2 : Int32) (S : ZH) : Option (Int32 × ZH) :=
  (s0).bind fun a16 =>
  (zst S 44 a16 s1 s2).bind fun S17 =>
  (f_X12_go n0 x1 (20 : Int32) (zsI S17 12 n0 22 ((zI S17 12 n0 22) + (1 : Int32)))).bind fun q18 =>
  some (((zI q18 12 n0 22) - (1 : Int32)), q18)
def j_X12_take_150 (n0 : Nat) (x1 : Int32) (x4 : Int32) (s0 : Option Nat) (s1 : Int32) (s2 : Int32) (S : ZH) : Option (Int32 × ZH) :=
  (s0).bind fun a13 =>
  (zst S 44 a13 s1 s2).bind fun S14 =>
  (f_X12_truly n0 x1 S14).bind fun q15 =>
  if q15.1 = 0 then (
    j_X12_take_172 n0 x1 (zR S14 12 n0 23) (x4 + (5 : Int32)) (0 : Int32) q15.2
  ) else (
    j_X12_take_172 n0 x1 (zR S14 12 n0 23) (x4 + (5 : Int32)) (1 : Int32) q15.2
  )
def j_X12_take_66 (n0 : Nat) (x1 : Int32) (x2 : Int32) (x3 : Int32)  (S : ZH) : Option (Int32 × ZH) :=
  if ¬ (zI S 12 n0 22) = (60 : Int32) then (
    ((zR S 12 n0 23)).bind fun a4 =>
    (zst S 44 a4 ((6 : Int32) * (zI S 12 n0 22)) (zI S 12 n0 4)).bind fun S5 =>
    ((zR S5 12 n0 23)).bind fun a6 =>
    (zst S5 44 a6 (((6 : Int32) * (zI S 12 n0 22)) + (1 : Int32)) x1).bind fun S7 =>
    ((zR S7 12 n0 23)).bind fun a8 =>
    (zst S7 44 a8 (((6 : Int32) * (zI S 12 n0 22)) + (2 : Int32)) x2).bind fun S9 =>
    ((zR S9 12 n0 23)).bind fun a10 =>
    (zst S9 44 a10 (((6 : Int32) * (zI S 12 n0 22)) + (3 : Int32)) x3).bind fun S11 =>
    (f_X12_asShown n0 x1 x2 S11).bind fun q12 =>
    if q12.1 = 0 then (
      j_X12_take_150 n0 x1 ((6 : Int32) * (zI S 12 n0 22)) (zR S11 12 n0 23) (((6 : Int32) * (zI S 12 n0 22)) + (4 : Int32)) (0 : Int32) q12.2
    ) else (
      j_X12_take_150 n0 x1 ((6 : Int32) * (zI S 12 n0 22)) (zR S11 12 n0 23) (((6 : Int32) * (zI S 12 n0 22)) + (4 : Int32)) (1 : Int32) q12.2
    )
  ) else (
    some ((-4 : Int32), S)
  )
def j_X12_take_29 (n0 : Nat) (x1 : Int32) (x2 : Int32)  (S : ZH) : Option (Int32 × ZH) :=
  (f_X12_placeOf n0 x1 S).bind fun q2 =>
  (f_X12_isStreet q2 S).bind fun q3 =>
  if ¬ q3 = 0 then (
    j_X12_take_66 n0 x1 x2 q2 S
  ) else (
    (f_X12_isHere n0 q2 S).bind fun q19 =>
    if q19 = 0 then (
      some ((-3 : Int32), S)
    ) else (
      ((zR S 12 n0 10)).bind fun a20 =>
      (zld S 34 a20 (q2 - (10 : Int32))).bind fun v21 =>
      if v21 = (1 : Int32) then (
        j_X12_take_66 n0 x1 x2 q2 S
      ) else (
        some ((-3 : Int32), S)
      )
    )
  )
def f_X12_take (n0 : Nat) (x1 : Int32) (x2 : Int32) (S : ZH) : Option (Int32 × ZH) :=
  (f_X12_noMan n0 x1 (zsI S 12 n0 0 (0 : Int32))).bind fun q1 =>
  if ¬ q1 = 0 then (
    some ((-1 : Int32), (zsI S 12 n0 0 (0 : Int32)))
  ) else (
    if x2 = (-9 : Int32) then (
      j_X12_take_29 n0 x1 x2 (zsI S 12 n0 0 (0 : Int32))
    ) else (
      (f_X12_noPaper n0 x2 (zsI S 12 n0 0 (0 : Int32))).bind fun q22 =>
      if q22 = 0 then (
        j_X12_take_29 n0 x1 x2 (zsI S 12 n0 0 (0 : Int32))
      ) else (
        some ((-1 : Int32), (zsI S 12 n0 0 (0 : Int32)))
      )
    )
  )
set_option maxRecDepth 20000 in
theorem k_X12_take_172 {S0 : ZH} {n0 : Nat} {x1 : Int32} {s0 : Option Nat} {s1 : Int32} {s2 : Int32} {S : ZH} {z : Int32 × ZH} (h : j_X12_take_172 n0 x1 s0 s1 s2 S = some z) : Wp Y_X12_take S0 (zF S0 (some (z_i z.1)) z.2) 172 [(0, z_r 12 (some n0)), (1, z_i x1)] [z_i s2, z_i s1, z_r 44 s0] S := by
  unfold j_X12_take_172 at h
  refine z_bnd h (fun a16 ha16 h => ?_)
  revert h
  subst ha16
  intro h
  refine x_iastore rfl ak_44 dX12_take_172 h (fun S17 hS17 h => ?_)
  refine x_aload_n 0 dX12_take_173 rfl rfl ?_
  refine x_dup dX12_take_174 rfl ?_
  refine x_getI rfl ck_12 22 (by decide) rfl q_1071 dX12_take_175 ?_
  refine x_iconst (v := (1 : Int32)) dX12_take_178 (by decide) ?_
  refine x_iadd dX12_take_179 ?_
  refine x_putI rfl ck_12 22 (by decide) rfl (Or.inl rfl) (by rfl) rfl q_1071 dX12_take_180 ?_
  refine x_aload_n 0 dX12_take_183 rfl rfl ?_
  refine x_iload_n 1 dX12_take_184 rfl rfl ?_
  refine x_bipush (v := (20 : Int32)) dX12_take_185 (by decide) ?_
  refine z_bnd h (fun q18 hq18 h => ?_)
  refine x_callVv rfl (w_X12_go hq18) cw_X12_go q_1252 ⟨by decide, by decide⟩ (Nat.le_of_ble_eq_true rfl) dX12_take_187 rfl ?_
  refine x_aload_n 0 dX12_take_190 rfl rfl ?_
  refine x_getI rfl ck_12 22 (by decide) rfl q_1071 dX12_take_191 ?_
  refine x_iconst (v := (1 : Int32)) dX12_take_194 (by decide) ?_
  refine x_isub dX12_take_195 ?_
  exact x_iretE rfl dX12_take_196 h
set_option maxRecDepth 20000 in
theorem k_X12_take_150 {S0 : ZH} {n0 : Nat} {x1 : Int32} {x4 : Int32} {s0 : Option Nat} {s1 : Int32} {s2 : Int32} {S : ZH} {z : Int32 × ZH} (h : j_X12_take_150 n0 x1 x4 s0 s1 s2 S = some z) : Wp Y_X12_take S0 (zF S0 (some (z_i z.1)) z.2) 150 [(0, z_r 12 (some n0)), (1, z_i x1), (4, z_i x4)] [z_i s2, z_i s1, z_r 44 s0] S := by
  unfold j_X12_take_150 at h
  refine z_bnd h (fun a13 ha13 h => ?_)
  revert h
  subst ha13
  intro h
  refine x_iastore rfl ak_44 dX12_take_150 h (fun S14 hS14 h => ?_)
  refine x_aload_n 0 dX12_take_151 rfl rfl ?_
  refine x_getR rfl ck_12 23 (by decide) rfl q_1072 dX12_take_152 ?_
  refine x_iload 2 dX12_take_155 rfl ?_
  refine x_iconst (v := (5 : Int32)) dX12_take_157 (by decide) ?_
  refine x_iadd dX12_take_158 ?_
  refine x_aload_n 0 dX12_take_159 rfl rfl ?_
  refine x_iload_n 1 dX12_take_160 rfl rfl ?_
  refine z_bnd h (fun q15 hq15 h => ?_)
  refine x_callV1 rfl (w_X12_truly hq15) cw_X12_truly q_1353 ⟨by decide, by decide⟩ (Nat.le_of_ble_eq_true rfl) dX12_take_161 rfl ?_
  refine x_if_eq (tgt := 171) dX12_take_164 (by decide) h (fun h => ?_) (fun h => ?_)
  · refine x_iconst (v := (0 : Int32)) dX12_take_171 (by decide) ?_
    exact x_lo [0, 1] rfl (k_X12_take_172 h)
  · refine x_iconst (v := (1 : Int32)) dX12_take_167 (by decide) ?_
    refine x_goto (tgt := 172) dX12_take_168 (by decide) ?_
    exact x_lo [0, 1] rfl (k_X12_take_172 h)
set_option maxRecDepth 20000 in
theorem k_X12_take_66 {S0 : ZH} {n0 : Nat} {x1 : Int32} {x2 : Int32} {x3 : Int32}  {S : ZH} {z : Int32 × ZH} (h : j_X12_take_66 n0 x1 x2 x3 S = some z) : Wp Y_X12_take S0 (zF S0 (some (z_i z.1)) z.2) 66 [(0, z_r 12 (some n0)), (1, z_i x1), (2, z_i x2), (3, z_i x3)] [] S := by
  unfold j_X12_take_66 at h
  refine x_aload_n 0 dX12_take_66 rfl rfl ?_
  refine x_getI rfl ck_12 22 (by decide) rfl q_1071 dX12_take_67 ?_
  refine x_bipush (v := (60 : Int32)) dX12_take_70 (by decide) ?_
  refine x_ic_ne (tgt := 78) dX12_take_72 (by decide) h (fun h => ?_) (fun h => ?_)
  · refine x_bipush (v := (6 : Int32)) dX12_take_78 (by decide) ?_
    refine x_aload_n 0 dX12_take_80 rfl rfl ?_
    refine x_getI rfl ck_12 22 (by decide) rfl q_1071 dX12_take_81 ?_
    refine x_imul dX12_take_84 ?_
    refine x_istore (lo' := [(4, z_i ((6 : Int32) * (zI S 12 n0 22))), (0, z_r 12 (some n0)), (1, z_i x1), (2, z_i x2), (3, z_i x3)]) dX12_take_85 (by decide) rfl ?_
    refine x_aload_n 1 dX12_take_87 rfl rfl ?_
    refine x_getR rfl ck_12 23 (by decide) rfl q_1072 dX12_take_88 ?_
    refine x_iload 0 dX12_take_91 rfl ?_
    refine x_aload_n 1 dX12_take_93 rfl rfl ?_
    refine x_getI rfl ck_12 4 (by decide) rfl q_1053 dX12_take_94 ?_
    refine z_bnd h (fun a4 ha4 h => ?_)
    refine x_iastore ha4 ak_44 dX12_take_97 h (fun S5 hS5 h => ?_)
    refine x_aload_n 1 dX12_take_98 rfl rfl ?_
    refine x_getR rfl ck_12 23 (by decide) rfl q_1072 dX12_take_99 ?_
    refine x_iload 0 dX12_take_102 rfl ?_
    refine x_iconst (v := (1 : Int32)) dX12_take_104 (by decide) ?_
    refine x_iadd dX12_take_105 ?_
    refine x_iload_n 2 dX12_take_106 rfl rfl ?_
    refine z_bnd h (fun a6 ha6 h => ?_)
    refine x_iastore ha6 ak_44 dX12_take_107 h (fun S7 hS7 h => ?_)
    refine x_aload_n 1 dX12_take_108 rfl rfl ?_
    refine x_getR rfl ck_12 23 (by decide) rfl q_1072 dX12_take_109 ?_
    refine x_iload 0 dX12_take_112 rfl ?_
    refine x_iconst (v := (2 : Int32)) dX12_take_114 (by decide) ?_
    refine x_iadd dX12_take_115 ?_
    refine x_iload_n 3 dX12_take_116 rfl rfl ?_
    refine z_bnd h (fun a8 ha8 h => ?_)
    refine x_iastore ha8 ak_44 dX12_take_117 h (fun S9 hS9 h => ?_)
    refine x_aload_n 1 dX12_take_118 rfl rfl ?_
    refine x_getR rfl ck_12 23 (by decide) rfl q_1072 dX12_take_119 ?_
    refine x_iload 0 dX12_take_122 rfl ?_
    refine x_iconst (v := (3 : Int32)) dX12_take_124 (by decide) ?_
    refine x_iadd dX12_take_125 ?_
    refine x_iload_n 4 dX12_take_126 rfl rfl ?_
    refine z_bnd h (fun a10 ha10 h => ?_)
    refine x_iastore ha10 ak_44 dX12_take_127 h (fun S11 hS11 h => ?_)
    refine x_aload_n 1 dX12_take_128 rfl rfl ?_
    refine x_getR rfl ck_12 23 (by decide) rfl q_1072 dX12_take_129 ?_
    refine x_iload 0 dX12_take_132 rfl ?_
    refine x_iconst (v := (4 : Int32)) dX12_take_134 (by decide) ?_
    refine x_iadd dX12_take_135 ?_
    refine x_aload_n 1 dX12_take_136 rfl rfl ?_
    refine x_iload_n 2 dX12_take_137 rfl rfl ?_
    refine x_iload_n 3 dX12_take_138 rfl rfl ?_
    refine z_bnd h (fun q12 hq12 h => ?_)
    refine x_callV1 rfl (w_X12_asShown hq12) cw_X12_asShown q_1333 ⟨by decide, by decide⟩ (Nat.le_of_ble_eq_true rfl) dX12_take_139 rfl ?_
    refine x_if_eq (tgt := 149) dX12_take_142 (by decide) h (fun h => ?_) (fun h => ?_)
    · refine x_iconst (v := (0 : Int32)) dX12_take_149 (by decide) ?_
      exact x_lo [1, 2, 0] rfl (k_X12_take_150 h)
    · refine x_iconst (v := (1 : Int32)) dX12_take_145 (by decide) ?_
      refine x_goto (tgt := 150) dX12_take_146 (by decide) ?_
      exact x_lo [1, 2, 0] rfl (k_X12_take_150 h)
  · refine x_bipush (v := (-4 : Int32)) dX12_take_75 (by decide) ?_
    exact x_iretE rfl dX12_take_77 h
set_option maxRecDepth 20000 in
theorem k_X12_take_29 {S0 : ZH} {n0 : Nat} {x1 : Int32} {x2 : Int32}  {S : ZH} {z : Int32 × ZH} (h : j_X12_take_29 n0 x1 x2 S = some z) : Wp Y_X12_take S0 (zF S0 (some (z_i z.1)) z.2) 29 [(0, z_r 12 (some n0)), (1, z_i x1), (2, z_i x2)] [] S := by
  unfold j_X12_take_29 at h
  refine x_aload_n 0 dX12_take_29 rfl rfl ?_
  refine x_iload_n 1 dX12_take_30 rfl rfl ?_
  refine z_bnd h (fun q2 hq2 h => ?_)
  refine x_callV1 rfl (w_X12_placeOf hq2) cw_X12_placeOf q_1229 ⟨by decide, by decide⟩ (Nat.le_of_ble_eq_true rfl) dX12_take_31 rfl ?_
  refine x_istore_n (lo' := [(3, z_i q2), (0, z_r 12 (some n0)), (1, z_i x1), (2, z_i x2)]) dX12_take_34 rfl (by decide) rfl ?_
  refine x_iload_n 0 dX12_take_35 rfl rfl ?_
  refine z_bnd h (fun q3 hq3 h => ?_)
  refine x_callS1 (w_X12_isStreet hq3) cw_X12_isStreet q_1245 ⟨by decide, by decide⟩ (Nat.le_of_ble_eq_true rfl) dX12_take_36 rfl ?_
  refine x_if_ne (tgt := 66) dX12_take_39 (by decide) h (fun h => ?_) (fun h => ?_)
  · exact x_lo [1, 2, 3, 0] rfl (k_X12_take_66 h)
  · refine x_aload_n 1 dX12_take_42 rfl rfl ?_
    refine x_iload_n 0 dX12_take_43 rfl rfl ?_
    refine z_bnd h (fun q19 hq19 h => ?_)
    refine x_callV1 rfl (w_X12_isHere hq19) cw_X12_isHere q_1361 ⟨by decide, by decide⟩ (Nat.le_of_ble_eq_true rfl) dX12_take_44 rfl ?_
    refine x_if_eq (tgt := 63) dX12_take_47 (by decide) h (fun h => ?_) (fun h => ?_)
    · refine x_bipush (v := (-3 : Int32)) dX12_take_63 (by decide) ?_
      exact x_iretE rfl dX12_take_65 h
    · refine x_aload_n 1 dX12_take_50 rfl rfl ?_
      refine x_getR rfl ck_12 10 (by decide) rfl q_1059 dX12_take_51 ?_
      refine x_iload_n 0 dX12_take_54 rfl rfl ?_
      refine x_bipush (v := (10 : Int32)) dX12_take_55 (by decide) ?_
      refine x_isub dX12_take_57 ?_
      refine z_bnd h (fun a20 ha20 h => ?_)
      refine x_iaload ha20 ak_34 dX12_take_58 h (fun v21 hv21 h => ?_)
      refine x_iconst (v := (1 : Int32)) dX12_take_59 (by decide) ?_
      refine x_ic_eq (tgt := 66) dX12_take_60 (by decide) h (fun h => ?_) (fun h => ?_)
      · exact x_lo [1, 2, 3, 0] rfl (k_X12_take_66 h)
      · refine x_bipush (v := (-3 : Int32)) dX12_take_63 (by decide) ?_
        exact x_iretE rfl dX12_take_65 h
set_option maxRecDepth 20000 in
set_option maxHeartbeats 1000000 in
theorem w_X12_take {n0 : Nat} {x1 : Int32} {x2 : Int32} {S : ZH} {q : Int32 × ZH} (h : f_X12_take n0 x1 x2 S = some q) : MetX Y_X12_take S [z_r 12 (some n0), z_i x1, z_i x2] (some (z_i q.1)) q.2 := by
  refine MetX.of (lo := [(0, z_r 12 (some n0)), (1, z_i x1), (2, z_i x2)]) rfl (by decide) (Nat.le_of_ble_eq_true rfl) ?_
  unfold f_X12_take at h
  refine x_aload_n 0 dX12_take_0 rfl rfl ?_
  refine x_iconst (v := (0 : Int32)) dX12_take_1 (by decide) ?_
  refine x_putI rfl ck_12 0 (by decide) rfl (Or.inl rfl) (by rfl) rfl q_1049 dX12_take_2 ?_
  refine x_aload_n 0 dX12_take_5 rfl rfl ?_
  refine x_iload_n 1 dX12_take_6 rfl rfl ?_
  refine z_bnd h (fun q1 hq1 h => ?_)
  refine x_callV1 rfl (w_X12_noMan hq1) cw_X12_noMan q_1206 ⟨by decide, by decide⟩ (Nat.le_of_ble_eq_true rfl) dX12_take_7 rfl ?_
  refine x_if_ne (tgt := 27) dX12_take_10 (by decide) h (fun h => ?_) (fun h => ?_)
  · refine x_iconst (v := (-1 : Int32)) dX12_take_27 (by decide) ?_
    exact x_iretE rfl dX12_take_28 h
  · refine x_iload_n 2 dX12_take_13 rfl rfl ?_
    refine x_bipush (v := (-9 : Int32)) dX12_take_14 (by decide) ?_
    refine x_ic_eq (tgt := 29) dX12_take_16 (by decide) h (fun h => ?_) (fun h => ?_)
    · exact x_lo [0, 1, 2] rfl (k_X12_take_29 h)
    · refine x_aload_n 0 dX12_take_19 rfl rfl ?_
      refine x_iload_n 2 dX12_take_20 rfl rfl ?_
      refine z_bnd h (fun q22 hq22 h => ?_)
      refine x_callV1 rfl (w_X12_noPaper hq22) cw_X12_noPaper q_1278 ⟨by decide, by decide⟩ (Nat.le_of_ble_eq_true rfl) dX12_take_21 rfl ?_
      refine x_if_eq (tgt := 29) dX12_take_24 (by decide) h (fun h => ?_) (fun h => ?_)
      · exact x_lo [0, 1, 2] rfl (k_X12_take_29 h)
      · refine x_iconst (v := (-1 : Int32)) dX12_take_27 (by decide) ?_
        exact x_iretE rfl dX12_take_28 h
-- PressedMenModel taking (II)I
abbrev Y_X12_taking : ZM := (yX12_taking, cX12_taking, 3, (some .int), 1, 25)
theorem cw_X12_taking : z_CV Y_X12_taking 12 2 := ⟨⟨_, _, rfl⟩, by decide, q_1366, q_1367, q_1368, q_76, ⟨by decide, by decide⟩, rfl⟩
def f_X12_taking (n0 : Nat) (x1 : Int32) (x2 : Int32) (S : ZH) : Option (Int32 × ZH) :=
  (f_X12_in x1.toInt64 (0 : Int64) (((zI (zsI S 12 n0 0 (0 : Int32)) 12 n0 22) - (1 : Int32)).toInt64) (zsI S 12 n0 0 (0 : Int32))).bind fun q1 =>
  if ¬ q1 = 0 then (
    (f_X12_in x2.toInt64 (0 : Int64) (5 : Int64) (zsI S 12 n0 0 (0 : Int32))).bind fun q2 =>
    if q2 = 0 then (
      some ((-2 : Int32), (zsI S 12 n0 0 (0 : Int32)))
    ) else (
      ((zR (zsI S 12 n0 0 (0 : Int32)) 12 n0 23)).bind fun a3 =>
      (zld (zsI S 12 n0 0 (0 : Int32)) 44 a3 (((6 : Int32) * x1) + x2)).bind fun v4 =>
      some (v4, (zsI S 12 n0 0 (0 : Int32)))
    )
  ) else (
    some ((-1 : Int32), (zsI S 12 n0 0 (0 : Int32)))
  )
set_option maxRecDepth 20000 in
set_option maxHeartbeats 1000000 in
theorem w_X12_taking {n0 : Nat} {x1 : Int32} {x2 : Int32} {S : ZH} {q : Int32 × ZH} (h : f_X12_taking n0 x1 x2 S = some q) : MetX Y_X12_taking S [z_r 12 (some n0), z_i x1, z_i x2] (some (z_i q.1)) q.2 := by
  refine MetX.of (lo := [(0, z_r 12 (some n0)), (1, z_i x1), (2, z_i x2)]) rfl (by decide) (Nat.le_of_ble_eq_true rfl) ?_
  unfold f_X12_taking at h
  refine x_aload_n 0 dX12_taking_0 rfl rfl ?_
  refine x_iconst (v := (0 : Int32)) dX12_taking_1 (by decide) ?_
  refine x_putI rfl ck_12 0 (by decide) rfl (Or.inl rfl) (by rfl) rfl q_1049 dX12_taking_2 ?_
  refine x_iload_n 1 dX12_taking_5 rfl rfl ?_
  refine x_i2l dX12_taking_6 ?_
  refine x_lconst (v := (0 : Int64)) dX12_taking_7 (by decide) ?_
  refine x_aload_n 0 dX12_taking_8 rfl rfl ?_
  refine x_getI rfl ck_12 22 (by decide) rfl q_1071 dX12_taking_9 ?_
  refine x_iconst (v := (1 : Int32)) dX12_taking_12 (by decide) ?_
  refine x_isub dX12_taking_13 ?_
  refine x_i2l dX12_taking_14 ?_
  refine z_bnd h (fun q1 hq1 h => ?_)
  refine x_callS1 (w_X12_in hq1) cw_X12_in q_1172 ⟨by decide, by decide⟩ (Nat.le_of_ble_eq_true rfl) dX12_taking_15 rfl ?_
  refine x_if_ne (tgt := 23) dX12_taking_18 (by decide) h (fun h => ?_) (fun h => ?_)
  · refine x_iload_n 2 dX12_taking_23 rfl rfl ?_
    refine x_i2l dX12_taking_24 ?_
    refine x_lconst (v := (0 : Int64)) dX12_taking_25 (by decide) ?_
    refine x_ldc2 dX12_taking_26 q_1200.1 ?_
    refine z_bnd h (fun q2 hq2 h => ?_)
    refine x_callS1 (w_X12_in hq2) cw_X12_in q_1172 ⟨by decide, by decide⟩ (Nat.le_of_ble_eq_true rfl) dX12_taking_29 rfl ?_
    refine x_if_eq (tgt := 49) dX12_taking_32 (by decide) h (fun h => ?_) (fun h => ?_)
    · refine x_bipush (v := (-2 : Int32)) dX12_taking_49 (by decide) ?_
      exact x_iretE rfl dX12_taking_51 h
    · refine x_aload_n 0 dX12_taking_35 rfl rfl ?_
      refine x_getR rfl ck_12 23 (by decide) rfl q_1072 dX12_taking_36 ?_
      refine x_bipush (v := (6 : Int32)) dX12_taking_39 (by decide) ?_
      refine x_iload_n 1 dX12_taking_41 rfl rfl ?_
      refine x_imul dX12_taking_42 ?_
      refine x_iload_n 2 dX12_taking_43 rfl rfl ?_
      refine x_iadd dX12_taking_44 ?_
      refine z_bnd h (fun a3 ha3 h => ?_)
      refine x_iaload ha3 ak_44 dX12_taking_45 h (fun v4 hv4 h => ?_)
      refine x_goto (tgt := 51) dX12_taking_46 (by decide) ?_
      exact x_iretE rfl dX12_taking_51 h
  · refine x_iconst (v := (-1 : Int32)) dX12_taking_21 (by decide) ?_
    exact x_iretE rfl dX12_taking_22 h
-- PressedMenModel isWronged (I)Z
abbrev Y_X12_isWronged : ZM := (yX12_isWronged, cX12_isWronged, 5, (some .boolean), 2, 45)
theorem cw_X12_isWronged : z_CV Y_X12_isWronged 12 1 := ⟨⟨_, _, rfl⟩, by decide, q_1375, q_59, q_1376, q_76, ⟨by decide, by decide⟩, rfl⟩
def b_X12_isWronged_5 (n0 : Nat) (x1 : Int32) (S : ZH) (v : Int32 × Int32) : Option ((Int32 × Int32) ⊕ (Int32)) :=
  if (zI S 12 n0 22) ≤ v.2 then (
    some (Sum.inr v.1)
  ) else (
    ((zR S 12 n0 23)).bind fun a1 =>
    (zld S 44 a1 (((6 : Int32) * v.2) + (1 : Int32))).bind fun v2 =>
    if ¬ v2 = x1 then (
      some (Sum.inl (v.1, (v.2 + 1)))
    ) else (
      some (Sum.inl (v.2, (v.2 + 1)))
    )
  )
def j_X12_isWronged_82 (n0 : Nat) (x2 : Int32) (s0 : Int32) (S : ZH) : Option (Int32) :=
  if x2 = (-9 : Int32) then (
    some (0 : Int32)
  ) else (
    ((zR S 12 n0 23)).bind fun a5 =>
    (zld S 44 a5 (((6 : Int32) * x2) + (5 : Int32))).bind fun v6 =>
    if ¬ v6 = 0 then (
      some (0 : Int32)
    ) else (
      if s0 = 0 then (
        some (0 : Int32)
      ) else (
        some (1 : Int32)
      )
    )
  )
def j_X12_isWronged_77 (n0 : Nat) (x2 : Int32)  (S : ZH) : Option (Int32) :=
  j_X12_isWronged_82 n0 x2 (1 : Int32) S
def j_X12_isWronged_81 (n0 : Nat) (x2 : Int32)  (S : ZH) : Option (Int32) :=
  j_X12_isWronged_82 n0 x2 (0 : Int32) S
def f_X12_isWronged (n0 : Nat) (x1 : Int32) (S : ZH) : Option (Int32) :=
  (z_iter zFU (b_X12_isWronged_5 n0 x1 S) ((-9 : Int32), (0 : Int32))).bind fun t3 =>
  (f_X12_placeOf n0 x1 S).bind fun q4 =>
  if q4 = (20 : Int32) then (
    j_X12_isWronged_77 n0 t3 S
  ) else (
    if q4 = (21 : Int32) then (
      j_X12_isWronged_77 n0 t3 S
    ) else (
      (f_X12_isAboard q4 S).bind fun q7 =>
      if q7 = 0 then (
        j_X12_isWronged_81 n0 t3 S
      ) else (
        ((zR S 12 n0 10)).bind fun a8 =>
        (zld S 34 a8 (q4 - (10 : Int32))).bind fun v9 =>
        if ¬ v9 = 0 then (
          j_X12_isWronged_81 n0 t3 S
        ) else (
          j_X12_isWronged_77 n0 t3 S
        )
      )
    )
  )
set_option maxRecDepth 20000 in
theorem l_X12_isWronged_5 {S0 : ZH} {F : ZP} {n0 : Nat} {x1 : Int32} {S : ZH} {v : Int32 × Int32} {t : Int32} (h : z_iter zFU (b_X12_isWronged_5 n0 x1 S) v = some t) (k : (fun t => Wp Y_X12_isWronged S0 F 40 [(0, z_r 12 (some n0)), (1, z_i x1), (2, z_i t)] [] S) t) : Wp Y_X12_isWronged S0 F 5 [(0, z_r 12 (some n0)), (1, z_i x1), (2, z_i v.1), (3, z_i v.2)] [] S := by
  refine z_iter_P (P := fun v : Int32 × Int32 => Wp Y_X12_isWronged S0 F 5 [(0, z_r 12 (some n0)), (1, z_i x1), (2, z_i v.1), (3, z_i v.2)] [] S) (X := (fun t => Wp Y_X12_isWronged S0 F 40 [(0, z_r 12 (some n0)), (1, z_i x1), (2, z_i t)] [] S)) ?_ _ _ _ h k
  clear h k v t
  intro v r h k
  unfold b_X12_isWronged_5 at h
  refine x_iload_n 3 dX12_isWronged_5 rfl rfl ?_
  refine x_aload_n 0 dX12_isWronged_6 rfl rfl ?_
  refine x_getI rfl ck_12 22 (by decide) rfl q_1071 dX12_isWronged_7 ?_
  refine x_ic_ge (tgt := 40) dX12_isWronged_10 (by decide) h (fun h => ?_) (fun h => ?_)
  · cases h
    exact x_lo [0, 1, 2] rfl k
  · refine x_aload_n 0 dX12_isWronged_13 rfl rfl ?_
    refine x_getR rfl ck_12 23 (by decide) rfl q_1072 dX12_isWronged_14 ?_
    refine x_bipush (v := (6 : Int32)) dX12_isWronged_17 (by decide) ?_
    refine x_iload_n 3 dX12_isWronged_19 rfl rfl ?_
    refine x_imul dX12_isWronged_20 ?_
    refine x_iconst (v := (1 : Int32)) dX12_isWronged_21 (by decide) ?_
    refine x_iadd dX12_isWronged_22 ?_
    refine z_bnd h (fun a1 ha1 h => ?_)
    refine x_iaload ha1 ak_44 dX12_isWronged_23 h (fun v2 hv2 h => ?_)
    refine x_iload_n 1 dX12_isWronged_24 rfl rfl ?_
    refine x_ic_ne (tgt := 32) dX12_isWronged_25 (by decide) h (fun h => ?_) (fun h => ?_)
    · refine x_iload_n 2 dX12_isWronged_32 rfl rfl ?_
      refine x_istore_n (lo' := [(2, z_i v.1), (0, z_r 12 (some n0)), (1, z_i x1), (3, z_i v.2)]) dX12_isWronged_33 rfl (by decide) rfl ?_
      refine x_iinc (v := (v.2 + 1)) (lo' := [(3, z_i (v.2 + 1)), (2, z_i v.1), (0, z_r 12 (some n0)), (1, z_i x1)]) 3 dX12_isWronged_34 rfl (congrArg (HAdd.hAdd v.2) (by decide)) (by decide) rfl ?_
      refine x_goto (tgt := 5) dX12_isWronged_37 (by decide) ?_
      cases h
      exact x_lo [2, 3, 1, 0] rfl k
    · refine x_iload_n 3 dX12_isWronged_28 rfl rfl ?_
      refine x_goto (tgt := 33) dX12_isWronged_29 (by decide) ?_
      refine x_istore_n (lo' := [(2, z_i v.2), (0, z_r 12 (some n0)), (1, z_i x1), (3, z_i v.2)]) dX12_isWronged_33 rfl (by decide) rfl ?_
      refine x_iinc (v := (v.2 + 1)) (lo' := [(3, z_i (v.2 + 1)), (2, z_i v.2), (0, z_r 12 (some n0)), (1, z_i x1)]) 3 dX12_isWronged_34 rfl (congrArg (HAdd.hAdd v.2) (by decide)) (by decide) rfl ?_
      refine x_goto (tgt := 5) dX12_isWronged_37 (by decide) ?_
      cases h
      exact x_lo [2, 3, 1, 0] rfl k
set_option maxRecDepth 20000 in
theorem k_X12_isWronged_82 {S0 : ZH} {n0 : Nat} {x2 : Int32} {s0 : Int32} {S : ZH} {z : Int32} (h : j_X12_isWronged_82 n0 x2 s0 S = some z) : Wp Y_X12_isWronged S0 (zF S0 (some (z_i z)) S) 82 [(0, z_r 12 (some n0)), (2, z_i x2)] [z_i s0] S := by
  unfold j_X12_isWronged_82 at h
  refine x_istore (lo' := [(4, z_i s0), (0, z_r 12 (some n0)), (2, z_i x2)]) dX12_isWronged_82 (by decide) rfl ?_
  refine x_iload_n 2 dX12_isWronged_84 rfl rfl ?_
  refine x_bipush (v := (-9 : Int32)) dX12_isWronged_85 (by decide) ?_
  refine x_ic_eq (tgt := 113) dX12_isWronged_87 (by decide) h (fun h => ?_) (fun h => ?_)
  · refine x_iconst (v := (0 : Int32)) dX12_isWronged_113 (by decide) ?_
    exact x_zretC rfl (by decide) dX12_isWronged_114 h
  · refine x_aload_n 1 dX12_isWronged_90 rfl rfl ?_
    refine x_getR rfl ck_12 23 (by decide) rfl q_1072 dX12_isWronged_91 ?_
    refine x_bipush (v := (6 : Int32)) dX12_isWronged_94 (by decide) ?_
    refine x_iload_n 2 dX12_isWronged_96 rfl rfl ?_
    refine x_imul dX12_isWronged_97 ?_
    refine x_iconst (v := (5 : Int32)) dX12_isWronged_98 (by decide) ?_
    refine x_iadd dX12_isWronged_99 ?_
    refine z_bnd h (fun a5 ha5 h => ?_)
    refine x_iaload ha5 ak_44 dX12_isWronged_100 h (fun v6 hv6 h => ?_)
    refine x_if_ne (tgt := 113) dX12_isWronged_101 (by decide) h (fun h => ?_) (fun h => ?_)
    · refine x_iconst (v := (0 : Int32)) dX12_isWronged_113 (by decide) ?_
      exact x_zretC rfl (by decide) dX12_isWronged_114 h
    · refine x_iload 0 dX12_isWronged_104 rfl ?_
      refine x_if_eq (tgt := 113) dX12_isWronged_106 (by decide) h (fun h => ?_) (fun h => ?_)
      · refine x_iconst (v := (0 : Int32)) dX12_isWronged_113 (by decide) ?_
        exact x_zretC rfl (by decide) dX12_isWronged_114 h
      · refine x_iconst (v := (1 : Int32)) dX12_isWronged_109 (by decide) ?_
        refine x_goto (tgt := 114) dX12_isWronged_110 (by decide) ?_
        exact x_zretC rfl (by decide) dX12_isWronged_114 h
set_option maxRecDepth 20000 in
theorem k_X12_isWronged_77 {S0 : ZH} {n0 : Nat} {x2 : Int32}  {S : ZH} {z : Int32} (h : j_X12_isWronged_77 n0 x2 S = some z) : Wp Y_X12_isWronged S0 (zF S0 (some (z_i z)) S) 77 [(0, z_r 12 (some n0)), (2, z_i x2)] [] S := by
  unfold j_X12_isWronged_77 at h
  refine x_iconst (v := (1 : Int32)) dX12_isWronged_77 (by decide) ?_
  refine x_goto (tgt := 82) dX12_isWronged_78 (by decide) ?_
  exact x_lo [0, 1] rfl (k_X12_isWronged_82 h)
set_option maxRecDepth 20000 in
theorem k_X12_isWronged_81 {S0 : ZH} {n0 : Nat} {x2 : Int32}  {S : ZH} {z : Int32} (h : j_X12_isWronged_81 n0 x2 S = some z) : Wp Y_X12_isWronged S0 (zF S0 (some (z_i z)) S) 81 [(0, z_r 12 (some n0)), (2, z_i x2)] [] S := by
  unfold j_X12_isWronged_81 at h
  refine x_iconst (v := (0 : Int32)) dX12_isWronged_81 (by decide) ?_
  exact x_lo [0, 1] rfl (k_X12_isWronged_82 h)
set_option maxRecDepth 20000 in
set_option maxHeartbeats 1000000 in
theorem w_X12_isWronged {n0 : Nat} {x1 : Int32} {S : ZH} {q : Int32} (h : f_X12_isWronged n0 x1 S = some q) : MetX Y_X12_isWronged S [z_r 12 (some n0), z_i x1] (some (z_i q)) S := by
  refine MetX.of (lo := [(0, z_r 12 (some n0)), (1, z_i x1)]) rfl (by decide) (Nat.le_of_ble_eq_true rfl) ?_
  unfold f_X12_isWronged at h
  refine x_bipush (v := (-9 : Int32)) dX12_isWronged_0 (by decide) ?_
  refine x_istore_n (lo' := [(2, z_i (-9 : Int32)), (0, z_r 12 (some n0)), (1, z_i x1)]) dX12_isWronged_2 rfl (by decide) rfl ?_
  refine x_iconst (v := (0 : Int32)) dX12_isWronged_3 (by decide) ?_
  refine x_istore_n (lo' := [(3, z_i (0 : Int32)), (2, z_i (-9 : Int32)), (0, z_r 12 (some n0)), (1, z_i x1)]) dX12_isWronged_4 rfl (by decide) rfl ?_
  refine z_bnd h (fun t3 ht3 h => ?_)
  refine x_lo [2, 3, 1, 0] rfl ?_
  refine l_X12_isWronged_5 ht3 ?_
  refine x_aload_n 0 dX12_isWronged_40 rfl rfl ?_
  refine x_iload_n 1 dX12_isWronged_41 rfl rfl ?_
  refine z_bnd h (fun q4 hq4 h => ?_)
  refine x_callV1 rfl (w_X12_placeOf hq4) cw_X12_placeOf q_1229 ⟨by decide, by decide⟩ (Nat.le_of_ble_eq_true rfl) dX12_isWronged_42 rfl ?_
  refine x_istore_n (lo' := [(3, z_i q4), (0, z_r 12 (some n0)), (1, z_i x1), (2, z_i t3)]) dX12_isWronged_45 rfl (by decide) rfl ?_
  refine x_iload_n 0 dX12_isWronged_46 rfl rfl ?_
  refine x_bipush (v := (20 : Int32)) dX12_isWronged_47 (by decide) ?_
  refine x_ic_eq (tgt := 77) dX12_isWronged_49 (by decide) h (fun h => ?_) (fun h => ?_)
  · exact x_lo [1, 3] rfl (k_X12_isWronged_77 h)
  · refine x_iload_n 0 dX12_isWronged_52 rfl rfl ?_
    refine x_bipush (v := (21 : Int32)) dX12_isWronged_53 (by decide) ?_
    refine x_ic_eq (tgt := 77) dX12_isWronged_55 (by decide) h (fun h => ?_) (fun h => ?_)
    · exact x_lo [1, 3] rfl (k_X12_isWronged_77 h)
    · refine x_iload_n 0 dX12_isWronged_58 rfl rfl ?_
      refine z_bnd h (fun q7 hq7 h => ?_)
      refine x_callS1 (w_X12_isAboard hq7) cw_X12_isAboard q_1345 ⟨by decide, by decide⟩ (Nat.le_of_ble_eq_true rfl) dX12_isWronged_59 rfl ?_
      refine x_if_eq (tgt := 81) dX12_isWronged_62 (by decide) h (fun h => ?_) (fun h => ?_)
      · exact x_lo [1, 3] rfl (k_X12_isWronged_81 h)
      · refine x_aload_n 1 dX12_isWronged_65 rfl rfl ?_
        refine x_getR rfl ck_12 10 (by decide) rfl q_1059 dX12_isWronged_66 ?_
        refine x_iload_n 0 dX12_isWronged_69 rfl rfl ?_
        refine x_bipush (v := (10 : Int32)) dX12_isWronged_70 (by decide) ?_
        refine x_isub dX12_isWronged_72 ?_
        refine z_bnd h (fun a8 ha8 h => ?_)
        refine x_iaload ha8 ak_34 dX12_isWronged_73 h (fun v9 hv9 h => ?_)
        refine x_if_ne (tgt := 81) dX12_isWronged_74 (by decide) h (fun h => ?_) (fun h => ?_)
        · exact x_lo [1, 3] rfl (k_X12_isWronged_81 h)
        · exact x_lo [1, 3] rfl (k_X12_isWronged_77 h)
-- PressedMenModel wronged ()I
abbrev Y_X12_wronged : ZM := (yX12_wronged, cX12_wronged, 3, (some .int), 3, 69)
theorem cw_X12_wronged : z_CV Y_X12_wronged 12 0 := ⟨⟨_, _, rfl⟩, by decide, q_1370, q_1371, q_1372, q_76, ⟨by decide, by decide⟩, rfl⟩
def b_X12_wronged_9 (n0 : Nat) (S : ZH) (v : Int32 × Int32) : Option ((Int32 × Int32) ⊕ (Int32)) :=
  if (zI S 12 n0 5) ≤ v.2 then (
    some (Sum.inr v.1)
  ) else (
    (f_X12_isWronged n0 v.2 S).bind fun q1 =>
    if q1 = 0 then (
      some (Sum.inl ((v.1 + (0 : Int32)), (v.2 + 1)))
    ) else (
      some (Sum.inl ((v.1 + (1 : Int32)), (v.2 + 1)))
    )
  )
def f_X12_wronged (n0 : Nat) (S : ZH) : Option (Int32 × ZH) :=
  (z_iter zFU (b_X12_wronged_9 n0 (zsI S 12 n0 0 (0 : Int32))) ((0 : Int32), (0 : Int32))).bind fun t2 =>
  some (t2, (zsI S 12 n0 0 (0 : Int32)))
set_option maxRecDepth 20000 in
theorem l_X12_wronged_9 {S0 : ZH} {F : ZP} {n0 : Nat} {S : ZH} {v : Int32 × Int32} {t : Int32} (h : z_iter zFU (b_X12_wronged_9 n0 S) v = some t) (k : (fun t => Wp Y_X12_wronged S0 F 39 [(1, z_i t)] [] S) t) : Wp Y_X12_wronged S0 F 9 [(0, z_r 12 (some n0)), (1, z_i v.1), (2, z_i v.2)] [] S := by
  refine z_iter_P (P := fun v : Int32 × Int32 => Wp Y_X12_wronged S0 F 9 [(0, z_r 12 (some n0)), (1, z_i v.1), (2, z_i v.2)] [] S) (X := (fun t => Wp Y_X12_wronged S0 F 39 [(1, z_i t)] [] S)) ?_ _ _ _ h k
  clear h k v t
  intro v r h k
  unfold b_X12_wronged_9 at h
  refine x_iload_n 2 dX12_wronged_9 rfl rfl ?_
  refine x_aload_n 0 dX12_wronged_10 rfl rfl ?_
  refine x_getI rfl ck_12 5 (by decide) rfl q_1054 dX12_wronged_11 ?_
  refine x_ic_ge (tgt := 39) dX12_wronged_14 (by decide) h (fun h => ?_) (fun h => ?_)
  · cases h
    exact x_lo [1] rfl k
  · refine x_iload_n 1 dX12_wronged_17 rfl rfl ?_
    refine x_aload_n 0 dX12_wronged_18 rfl rfl ?_
    refine x_iload_n 2 dX12_wronged_19 rfl rfl ?_
    refine z_bnd h (fun q1 hq1 h => ?_)
    refine x_callV1 rfl (w_X12_isWronged hq1) cw_X12_isWronged q_1373 ⟨by decide, by decide⟩ (Nat.le_of_ble_eq_true rfl) dX12_wronged_20 rfl ?_
    refine x_if_eq (tgt := 30) dX12_wronged_23 (by decide) h (fun h => ?_) (fun h => ?_)
    · refine x_iconst (v := (0 : Int32)) dX12_wronged_30 (by decide) ?_
      refine x_iadd dX12_wronged_31 ?_
      refine x_istore_n (lo' := [(1, z_i (v.1 + (0 : Int32))), (0, z_r 12 (some n0)), (2, z_i v.2)]) dX12_wronged_32 rfl (by decide) rfl ?_
      refine x_iinc (v := (v.2 + 1)) (lo' := [(2, z_i (v.2 + 1)), (1, z_i (v.1 + (0 : Int32))), (0, z_r 12 (some n0))]) 2 dX12_wronged_33 rfl (congrArg (HAdd.hAdd v.2) (by decide)) (by decide) rfl ?_
      refine x_goto (tgt := 9) dX12_wronged_36 (by decide) ?_
      cases h
      exact x_lo [2, 1, 0] rfl k
    · refine x_iconst (v := (1 : Int32)) dX12_wronged_26 (by decide) ?_
      refine x_goto (tgt := 31) dX12_wronged_27 (by decide) ?_
      refine x_iadd dX12_wronged_31 ?_
      refine x_istore_n (lo' := [(1, z_i (v.1 + (1 : Int32))), (0, z_r 12 (some n0)), (2, z_i v.2)]) dX12_wronged_32 rfl (by decide) rfl ?_
      refine x_iinc (v := (v.2 + 1)) (lo' := [(2, z_i (v.2 + 1)), (1, z_i (v.1 + (1 : Int32))), (0, z_r 12 (some n0))]) 2 dX12_wronged_33 rfl (congrArg (HAdd.hAdd v.2) (by decide)) (by decide) rfl ?_
      refine x_goto (tgt := 9) dX12_wronged_36 (by decide) ?_
      cases h
      exact x_lo [2, 1, 0] rfl k
set_option maxRecDepth 20000 in
set_option maxHeartbeats 1000000 in
theorem w_X12_wronged {n0 : Nat} {S : ZH} {q : Int32 × ZH} (h : f_X12_wronged n0 S = some q) : MetX Y_X12_wronged S [z_r 12 (some n0)] (some (z_i q.1)) q.2 := by
  refine MetX.of (lo := [(0, z_r 12 (some n0))]) rfl (by decide) (Nat.le_of_ble_eq_true rfl) ?_
  unfold f_X12_wronged at h
  refine x_aload_n 0 dX12_wronged_0 rfl rfl ?_
  refine x_iconst (v := (0 : Int32)) dX12_wronged_1 (by decide) ?_
  refine x_putI rfl ck_12 0 (by decide) rfl (Or.inl rfl) (by rfl) rfl q_1049 dX12_wronged_2 ?_
  refine x_iconst (v := (0 : Int32)) dX12_wronged_5 (by decide) ?_
  refine x_istore_n (lo' := [(1, z_i (0 : Int32)), (0, z_r 12 (some n0))]) dX12_wronged_6 rfl (by decide) rfl ?_
  refine x_iconst (v := (0 : Int32)) dX12_wronged_7 (by decide) ?_
  refine x_istore_n (lo' := [(2, z_i (0 : Int32)), (1, z_i (0 : Int32)), (0, z_r 12 (some n0))]) dX12_wronged_8 rfl (by decide) rfl ?_
  refine z_bnd h (fun t2 ht2 h => ?_)
  refine x_lo [2, 1, 0] rfl ?_
  refine l_X12_wronged_9 ht2 ?_
  refine x_iload_n 0 dX12_wronged_39 rfl rfl ?_
  exact x_iretE rfl dX12_wronged_40 h
-- PressedMenModel wrongedMan (I)I
abbrev Y_X12_wrongedMan : ZM := (yX12_wrongedMan, cX12_wrongedMan, 4, (some .int), 3, 69)
theorem cw_X12_wrongedMan : z_CV Y_X12_wrongedMan 12 1 := ⟨⟨_, _, rfl⟩, by decide, q_1378, q_1379, q_1380, q_76, ⟨by decide, by decide⟩, rfl⟩
def b_X12_wrongedMan_9 (n0 : Nat) (x1 : Int32) (S : ZH) (v : Int32 × Int32) : Option ((Int32 × Int32) ⊕ ((Unit) ⊕ (Int32 × ZH))) :=
  if (zI S 12 n0 5) ≤ v.2 then (
    some (Sum.inr (Sum.inl ()))
  ) else (
    (f_X12_isWronged n0 v.2 S).bind fun q1 =>
    if q1 = 0 then (
      some (Sum.inl (v.1, (v.2 + 1)))
    ) else (
      if ¬ v.1 = x1 then (
        some (Sum.inl ((v.1 + 1), (v.2 + 1)))
      ) else (
        some (Sum.inr (Sum.inr (v.2, S)))
      )
    )
  )
def f_X12_wrongedMan (n0 : Nat) (x1 : Int32) (S : ZH) : Option (Int32 × ZH) :=
  (z_iter zFU (b_X12_wrongedMan_9 n0 x1 (zsI S 12 n0 0 (0 : Int32))) ((0 : Int32), (0 : Int32))).bind fun t2 =>
  Sum.elim (fun t =>
    some ((-9 : Int32), (zsI S 12 n0 0 (0 : Int32)))
  ) (fun q => some q) t2
set_option maxRecDepth 20000 in
theorem l_X12_wrongedMan_9 {S0 : ZH} {F : ZP} {n0 : Nat} {x1 : Int32} {S : ZH} {v : Int32 × Int32} {t : (Unit) ⊕ (Int32 × ZH)} (h : z_iter zFU (b_X12_wrongedMan_9 n0 x1 S) v = some t) (k : (Sum.elim (fun t => Wp Y_X12_wrongedMan S0 F 41 [] [] S) (fun q => F = zF S0 (some (z_i q.1)) q.2)) t) : Wp Y_X12_wrongedMan S0 F 9 [(0, z_r 12 (some n0)), (1, z_i x1), (2, z_i v.1), (3, z_i v.2)] [] S := by
  refine z_iter_P (P := fun v : Int32 × Int32 => Wp Y_X12_wrongedMan S0 F 9 [(0, z_r 12 (some n0)), (1, z_i x1), (2, z_i v.1), (3, z_i v.2)] [] S) (X := (Sum.elim (fun t => Wp Y_X12_wrongedMan S0 F 41 [] [] S) (fun q => F = zF S0 (some (z_i q.1)) q.2))) ?_ _ _ _ h k
  clear h k v t
  intro v r h k
  unfold b_X12_wrongedMan_9 at h
  refine x_iload_n 3 dX12_wrongedMan_9 rfl rfl ?_
  refine x_aload_n 0 dX12_wrongedMan_10 rfl rfl ?_
  refine x_getI rfl ck_12 5 (by decide) rfl q_1054 dX12_wrongedMan_11 ?_
  refine x_ic_ge (tgt := 41) dX12_wrongedMan_14 (by decide) h (fun h => ?_) (fun h => ?_)
  · cases h
    exact x_lo [] rfl k
  · refine x_aload_n 0 dX12_wrongedMan_17 rfl rfl ?_
    refine x_iload_n 3 dX12_wrongedMan_18 rfl rfl ?_
    refine z_bnd h (fun q1 hq1 h => ?_)
    refine x_callV1 rfl (w_X12_isWronged hq1) cw_X12_isWronged q_1373 ⟨by decide, by decide⟩ (Nat.le_of_ble_eq_true rfl) dX12_wrongedMan_19 rfl ?_
    refine x_if_eq (tgt := 35) dX12_wrongedMan_22 (by decide) h (fun h => ?_) (fun h => ?_)
    · refine x_iinc (v := (v.2 + 1)) (lo' := [(3, z_i (v.2 + 1)), (0, z_r 12 (some n0)), (1, z_i x1), (2, z_i v.1)]) 3 dX12_wrongedMan_35 rfl (congrArg (HAdd.hAdd v.2) (by decide)) (by decide) rfl ?_
      refine x_goto (tgt := 9) dX12_wrongedMan_38 (by decide) ?_
      cases h
      exact x_lo [1, 2, 3, 0] rfl k
    · refine x_iload_n 2 dX12_wrongedMan_25 rfl rfl ?_
      refine x_iload_n 1 dX12_wrongedMan_26 rfl rfl ?_
      refine x_ic_ne (tgt := 32) dX12_wrongedMan_27 (by decide) h (fun h => ?_) (fun h => ?_)
      · refine x_iinc (v := (v.1 + 1)) (lo' := [(2, z_i (v.1 + 1)), (0, z_r 12 (some n0)), (1, z_i x1), (3, z_i v.2)]) 2 dX12_wrongedMan_32 rfl (congrArg (HAdd.hAdd v.1) (by decide)) (by decide) rfl ?_
        refine x_iinc (v := (v.2 + 1)) (lo' := [(3, z_i (v.2 + 1)), (2, z_i (v.1 + 1)), (0, z_r 12 (some n0)), (1, z_i x1)]) 3 dX12_wrongedMan_35 rfl (congrArg (HAdd.hAdd v.2) (by decide)) (by decide) rfl ?_
        refine x_goto (tgt := 9) dX12_wrongedMan_38 (by decide) ?_
        cases h
        exact x_lo [2, 3, 1, 0] rfl k
      · refine x_iload_n 3 dX12_wrongedMan_30 rfl rfl ?_
        cases h
        have k : F = zF S0 (some (z_i v.2)) S := k
        subst k
        exact x_iret0 rfl dX12_wrongedMan_31
set_option maxRecDepth 20000 in
set_option maxHeartbeats 1000000 in
theorem w_X12_wrongedMan {n0 : Nat} {x1 : Int32} {S : ZH} {q : Int32 × ZH} (h : f_X12_wrongedMan n0 x1 S = some q) : MetX Y_X12_wrongedMan S [z_r 12 (some n0), z_i x1] (some (z_i q.1)) q.2 := by
  refine MetX.of (lo := [(0, z_r 12 (some n0)), (1, z_i x1)]) rfl (by decide) (Nat.le_of_ble_eq_true rfl) ?_
  unfold f_X12_wrongedMan at h
  refine x_aload_n 0 dX12_wrongedMan_0 rfl rfl ?_
  refine x_iconst (v := (0 : Int32)) dX12_wrongedMan_1 (by decide) ?_
  refine x_putI rfl ck_12 0 (by decide) rfl (Or.inl rfl) (by rfl) rfl q_1049 dX12_wrongedMan_2 ?_
  refine x_iconst (v := (0 : Int32)) dX12_wrongedMan_5 (by decide) ?_
  refine x_istore_n (lo' := [(2, z_i (0 : Int32)), (0, z_r 12 (some n0)), (1, z_i x1)]) dX12_wrongedMan_6 rfl (by decide) rfl ?_
  refine x_iconst (v := (0 : Int32)) dX12_wrongedMan_7 (by decide) ?_
  refine x_istore_n (lo' := [(3, z_i (0 : Int32)), (2, z_i (0 : Int32)), (0, z_r 12 (some n0)), (1, z_i x1)]) dX12_wrongedMan_8 rfl (by decide) rfl ?_
  refine z_bnd h (fun t2 ht2 h => ?_)
  refine x_lo [2, 3, 1, 0] rfl ?_
  refine l_X12_wrongedMan_9 ht2 ?_
  rcases t2 with t | q
  · have h := (show _ = some _ from h)
    simp only [Sum.elim_inl] at h ⊢
    refine x_bipush (v := (-9 : Int32)) dX12_wrongedMan_41 (by decide) ?_
    exact x_iretE rfl dX12_wrongedMan_43 h
  · simp only [Sum.elim_inr] at h ⊢
    cases h
    rfl
-- PressedMenModel letGo (I)I
abbrev Y_X12_letGo : ZM := (yX12_letGo, cX12_letGo, 3, (some .int), 3, 66)
theorem cw_X12_letGo : z_CV Y_X12_letGo 12 1 := ⟨⟨_, _, rfl⟩, by decide, q_1382, q_1383, q_1384, q_76, ⟨by decide, by decide⟩, rfl⟩
def j_X12_letGo_44 (n0 : Nat) (x1 : Int32) (x2 : Int32)  (S : ZH) : Option (Int32 × ZH) :=
  ((zR S 12 n0 6)).bind fun a3 =>
  (zld S 31 a3 (((8 : Int32) * x1) + (6 : Int32))).bind fun v4 =>
  (f_X12_go n0 x1 v4 S).bind fun q5 =>
  some (x2, q5)
def f_X12_letGo (n0 : Nat) (x1 : Int32) (S : ZH) : Option (Int32 × ZH) :=
  (f_X12_noMan n0 x1 (zsI S 12 n0 0 (0 : Int32))).bind fun q1 =>
  if q1 = 0 then (
    (f_X12_placeOf n0 x1 (zsI S 12 n0 0 (0 : Int32))).bind fun q2 =>
    if q2 = (20 : Int32) then (
      j_X12_letGo_44 n0 x1 q2 (zsI S 12 n0 0 (0 : Int32))
    ) else (
      if q2 = (21 : Int32) then (
        j_X12_letGo_44 n0 x1 q2 (zsI S 12 n0 0 (0 : Int32))
      ) else (
        (f_X12_isHere n0 q2 (zsI S 12 n0 0 (0 : Int32))).bind fun q6 =>
        if ¬ q6 = 0 then (
          j_X12_letGo_44 n0 x1 q2 (zsI S 12 n0 0 (0 : Int32))
        ) else (
          some ((-3 : Int32), (zsI S 12 n0 0 (0 : Int32)))
        )
      )
    )
  ) else (
    some ((-1 : Int32), (zsI S 12 n0 0 (0 : Int32)))
  )
set_option maxRecDepth 20000 in
theorem k_X12_letGo_44 {S0 : ZH} {n0 : Nat} {x1 : Int32} {x2 : Int32}  {S : ZH} {z : Int32 × ZH} (h : j_X12_letGo_44 n0 x1 x2 S = some z) : Wp Y_X12_letGo S0 (zF S0 (some (z_i z.1)) z.2) 44 [(0, z_r 12 (some n0)), (1, z_i x1), (2, z_i x2)] [] S := by
  unfold j_X12_letGo_44 at h
  refine x_aload_n 0 dX12_letGo_44 rfl rfl ?_
  refine x_iload_n 1 dX12_letGo_45 rfl rfl ?_
  refine x_aload_n 0 dX12_letGo_46 rfl rfl ?_
  refine x_getR rfl ck_12 6 (by decide) rfl q_1055 dX12_letGo_47 ?_
  refine x_bipush (v := (8 : Int32)) dX12_letGo_50 (by decide) ?_
  refine x_iload_n 1 dX12_letGo_52 rfl rfl ?_
  refine x_imul dX12_letGo_53 ?_
  refine x_bipush (v := (6 : Int32)) dX12_letGo_54 (by decide) ?_
  refine x_iadd dX12_letGo_56 ?_
  refine z_bnd h (fun a3 ha3 h => ?_)
  refine x_iaload ha3 ak_31 dX12_letGo_57 h (fun v4 hv4 h => ?_)
  refine z_bnd h (fun q5 hq5 h => ?_)
  refine x_callVv rfl (w_X12_go hq5) cw_X12_go q_1252 ⟨by decide, by decide⟩ (Nat.le_of_ble_eq_true rfl) dX12_letGo_58 rfl ?_
  refine x_iload_n 2 dX12_letGo_61 rfl rfl ?_
  exact x_iretE rfl dX12_letGo_62 h
set_option maxRecDepth 20000 in
set_option maxHeartbeats 1000000 in
theorem w_X12_letGo {n0 : Nat} {x1 : Int32} {S : ZH} {q : Int32 × ZH} (h : f_X12_letGo n0 x1 S = some q) : MetX Y_X12_letGo S [z_r 12 (some n0), z_i x1] (some (z_i q.1)) q.2 := by
  refine MetX.of (lo := [(0, z_r 12 (some n0)), (1, z_i x1)]) rfl (by decide) (Nat.le_of_ble_eq_true rfl) ?_
  unfold f_X12_letGo at h
  refine x_aload_n 0 dX12_letGo_0 rfl rfl ?_
  refine x_iconst (v := (0 : Int32)) dX12_letGo_1 (by decide) ?_
  refine x_putI rfl ck_12 0 (by decide) rfl (Or.inl rfl) (by rfl) rfl q_1049 dX12_letGo_2 ?_
  refine x_aload_n 0 dX12_letGo_5 rfl rfl ?_
  refine x_iload_n 1 dX12_letGo_6 rfl rfl ?_
  refine z_bnd h (fun q1 hq1 h => ?_)
  refine x_callV1 rfl (w_X12_noMan hq1) cw_X12_noMan q_1206 ⟨by decide, by decide⟩ (Nat.le_of_ble_eq_true rfl) dX12_letGo_7 rfl ?_
  refine x_if_eq (tgt := 15) dX12_letGo_10 (by decide) h (fun h => ?_) (fun h => ?_)
  · refine x_aload_n 0 dX12_letGo_15 rfl rfl ?_
    refine x_iload_n 1 dX12_letGo_16 rfl rfl ?_
    refine z_bnd h (fun q2 hq2 h => ?_)
    refine x_callV1 rfl (w_X12_placeOf hq2) cw_X12_placeOf q_1229 ⟨by decide, by decide⟩ (Nat.le_of_ble_eq_true rfl) dX12_letGo_17 rfl ?_
    refine x_istore_n (lo' := [(2, z_i q2), (0, z_r 12 (some n0)), (1, z_i x1)]) dX12_letGo_20 rfl (by decide) rfl ?_
    refine x_iload_n 0 dX12_letGo_21 rfl rfl ?_
    refine x_bipush (v := (20 : Int32)) dX12_letGo_22 (by decide) ?_
    refine x_ic_eq (tgt := 44) dX12_letGo_24 (by decide) h (fun h => ?_) (fun h => ?_)
    · exact x_lo [1, 2, 0] rfl (k_X12_letGo_44 h)
    · refine x_iload_n 0 dX12_letGo_27 rfl rfl ?_
      refine x_bipush (v := (21 : Int32)) dX12_letGo_28 (by decide) ?_
      refine x_ic_eq (tgt := 44) dX12_letGo_30 (by decide) h (fun h => ?_) (fun h => ?_)
      · exact x_lo [1, 2, 0] rfl (k_X12_letGo_44 h)
      · refine x_aload_n 1 dX12_letGo_33 rfl rfl ?_
        refine x_iload_n 0 dX12_letGo_34 rfl rfl ?_
        refine z_bnd h (fun q6 hq6 h => ?_)
        refine x_callV1 rfl (w_X12_isHere hq6) cw_X12_isHere q_1361 ⟨by decide, by decide⟩ (Nat.le_of_ble_eq_true rfl) dX12_letGo_35 rfl ?_
        refine x_if_ne (tgt := 44) dX12_letGo_38 (by decide) h (fun h => ?_) (fun h => ?_)
        · exact x_lo [1, 2, 0] rfl (k_X12_letGo_44 h)
        · refine x_bipush (v := (-3 : Int32)) dX12_letGo_41 (by decide) ?_
          exact x_iretE rfl dX12_letGo_43 h
  · refine x_iconst (v := (-1 : Int32)) dX12_letGo_13 (by decide) ?_
    exact x_iretE rfl dX12_letGo_14 h
-- PressedMenModel quiet ()I
abbrev Y_X12_quiet : ZM := (yX12_quiet, cX12_quiet, 3, (some .int), 2, 45)
theorem cw_X12_quiet : z_CV Y_X12_quiet 12 0 := ⟨⟨_, _, rfl⟩, by decide, q_1386, q_1387, q_1388, q_76, ⟨by decide, by decide⟩, rfl⟩
def b_X12_quiet_12 (n0 : Nat) (S : ZH) (v : Int32 × Int32) : Option ((Int32 × Int32) ⊕ (Int32)) :=
  if (zI S 12 n0 22) ≤ v.2 then (
    some (Sum.inr v.1)
  ) else (
    ((zR S 12 n0 23)).bind fun a1 =>
    (zld S 44 a1 (((6 : Int32) * v.2) + (3 : Int32))).bind fun v2 =>
    (f_X12_isStreet v2 S).bind fun q3 =>
    if q3 = 0 then (
      some (Sum.inl ((v.1 + (0 : Int32)), (v.2 + 1)))
    ) else (
      some (Sum.inl ((v.1 + (1 : Int32)), (v.2 + 1)))
    )
  )
def f_X12_quiet (n0 : Nat) (S : ZH) : Option (Int32 × ZH) :=
  (z_iter zFU (b_X12_quiet_12 n0 (zsI S 12 n0 0 (0 : Int32))) ((0 : Int32), (zI (zsI S 12 n0 0 (0 : Int32)) 12 n0 24))).bind fun t4 =>
  some (t4, (zsI (zsI S 12 n0 0 (0 : Int32)) 12 n0 24 (zI (zsI S 12 n0 0 (0 : Int32)) 12 n0 22)))
set_option maxRecDepth 20000 in
theorem l_X12_quiet_12 {S0 : ZH} {F : ZP} {n0 : Nat} {S : ZH} {v : Int32 × Int32} {t : Int32} (h : z_iter zFU (b_X12_quiet_12 n0 S) v = some t) (k : (fun t => Wp Y_X12_quiet S0 F 51 [(0, z_r 12 (some n0)), (1, z_i t)] [] S) t) : Wp Y_X12_quiet S0 F 12 [(0, z_r 12 (some n0)), (1, z_i v.1), (2, z_i v.2)] [] S := by
  refine z_iter_P (P := fun v : Int32 × Int32 => Wp Y_X12_quiet S0 F 12 [(0, z_r 12 (some n0)), (1, z_i v.1), (2, z_i v.2)] [] S) (X := (fun t => Wp Y_X12_quiet S0 F 51 [(0, z_r 12 (some n0)), (1, z_i t)] [] S)) ?_ _ _ _ h k
  clear h k v t
  intro v r h k
  unfold b_X12_quiet_12 at h
  refine x_iload_n 2 dX12_quiet_12 rfl rfl ?_
  refine x_aload_n 0 dX12_quiet_13 rfl rfl ?_
  refine x_getI rfl ck_12 22 (by decide) rfl q_1071 dX12_quiet_14 ?_
  refine x_ic_ge (tgt := 51) dX12_quiet_17 (by decide) h (fun h => ?_) (fun h => ?_)
  · cases h
    exact x_lo [0, 1] rfl k
  · refine x_iload_n 1 dX12_quiet_20 rfl rfl ?_
    refine x_aload_n 0 dX12_quiet_21 rfl rfl ?_
    refine x_getR rfl ck_12 23 (by decide) rfl q_1072 dX12_quiet_22 ?_
    refine x_bipush (v := (6 : Int32)) dX12_quiet_25 (by decide) ?_
    refine x_iload_n 2 dX12_quiet_27 rfl rfl ?_
    refine x_imul dX12_quiet_28 ?_
    refine x_iconst (v := (3 : Int32)) dX12_quiet_29 (by decide) ?_
    refine x_iadd dX12_quiet_30 ?_
    refine z_bnd h (fun a1 ha1 h => ?_)
    refine x_iaload ha1 ak_44 dX12_quiet_31 h (fun v2 hv2 h => ?_)
    refine z_bnd h (fun q3 hq3 h => ?_)
    refine x_callS1 (w_X12_isStreet hq3) cw_X12_isStreet q_1245 ⟨by decide, by decide⟩ (Nat.le_of_ble_eq_true rfl) dX12_quiet_32 rfl ?_
    refine x_if_eq (tgt := 42) dX12_quiet_35 (by decide) h (fun h => ?_) (fun h => ?_)
    · refine x_iconst (v := (0 : Int32)) dX12_quiet_42 (by decide) ?_
      refine x_iadd dX12_quiet_43 ?_
      refine x_istore_n (lo' := [(1, z_i (v.1 + (0 : Int32))), (0, z_r 12 (some n0)), (2, z_i v.2)]) dX12_quiet_44 rfl (by decide) rfl ?_
      refine x_iinc (v := (v.2 + 1)) (lo' := [(2, z_i (v.2 + 1)), (1, z_i (v.1 + (0 : Int32))), (0, z_r 12 (some n0))]) 2 dX12_quiet_45 rfl (congrArg (HAdd.hAdd v.2) (by decide)) (by decide) rfl ?_
      refine x_goto (tgt := 12) dX12_quiet_48 (by decide) ?_
      cases h
      exact x_lo [2, 1, 0] rfl k
    · refine x_iconst (v := (1 : Int32)) dX12_quiet_38 (by decide) ?_
      refine x_goto (tgt := 43) dX12_quiet_39 (by decide) ?_
      refine x_iadd dX12_quiet_43 ?_
      refine x_istore_n (lo' := [(1, z_i (v.1 + (1 : Int32))), (0, z_r 12 (some n0)), (2, z_i v.2)]) dX12_quiet_44 rfl (by decide) rfl ?_
      refine x_iinc (v := (v.2 + 1)) (lo' := [(2, z_i (v.2 + 1)), (1, z_i (v.1 + (1 : Int32))), (0, z_r 12 (some n0))]) 2 dX12_quiet_45 rfl (congrArg (HAdd.hAdd v.2) (by decide)) (by decide) rfl ?_
      refine x_goto (tgt := 12) dX12_quiet_48 (by decide) ?_
      cases h
      exact x_lo [2, 1, 0] rfl k
set_option maxRecDepth 20000 in
set_option maxHeartbeats 1000000 in
theorem w_X12_quiet {n0 : Nat} {S : ZH} {q : Int32 × ZH} (h : f_X12_quiet n0 S = some q) : MetX Y_X12_quiet S [z_r 12 (some n0)] (some (z_i q.1)) q.2 := by
  refine MetX.of (lo := [(0, z_r 12 (some n0))]) rfl (by decide) (Nat.le_of_ble_eq_true rfl) ?_
  unfold f_X12_quiet at h
  refine x_aload_n 0 dX12_quiet_0 rfl rfl ?_
  refine x_iconst (v := (0 : Int32)) dX12_quiet_1 (by decide) ?_
  refine x_putI rfl ck_12 0 (by decide) rfl (Or.inl rfl) (by rfl) rfl q_1049 dX12_quiet_2 ?_
  refine x_iconst (v := (0 : Int32)) dX12_quiet_5 (by decide) ?_
  refine x_istore_n (lo' := [(1, z_i (0 : Int32)), (0, z_r 12 (some n0))]) dX12_quiet_6 rfl (by decide) rfl ?_
  refine x_aload_n 1 dX12_quiet_7 rfl rfl ?_
  refine x_getI rfl ck_12 24 (by decide) rfl q_1073 dX12_quiet_8 ?_
  refine x_istore_n (lo' := [(2, z_i (zI (zsI S 12 n0 0 (0 : Int32)) 12 n0 24)), (1, z_i (0 : Int32)), (0, z_r 12 (some n0))]) dX12_quiet_11 rfl (by decide) rfl ?_
  refine z_bnd h (fun t4 ht4 h => ?_)
  refine x_lo [2, 1, 0] rfl ?_
  refine l_X12_quiet_12 ht4 ?_
  refine x_aload_n 0 dX12_quiet_51 rfl rfl ?_
  refine x_aload_n 0 dX12_quiet_52 rfl rfl ?_
  refine x_getI rfl ck_12 22 (by decide) rfl q_1071 dX12_quiet_53 ?_
  refine x_putI rfl ck_12 24 (by decide) rfl (Or.inl rfl) (by rfl) rfl q_1073 dX12_quiet_56 ?_
  refine x_iload_n 1 dX12_quiet_59 rfl rfl ?_
  exact x_iretE rfl dX12_quiet_60 h
-- PressedMenModel heard (I)I
abbrev Y_X12_heard : ZM := (yX12_heard, cX12_heard, 2, (some .int), 3, 70)
theorem cw_X12_heard : z_CV Y_X12_heard 12 1 := ⟨⟨_, _, rfl⟩, by decide, q_1390, q_1391, q_1392, q_76, ⟨by decide, by decide⟩, rfl⟩
def f_X12_heard (n0 : Nat) (x1 : Int32) (S : ZH) : Option (Int32 × ZH) :=
  (f_X12_noStreet n0 x1 (zsI S 12 n0 0 (0 : Int32))).bind fun q1 =>
  if q1 = 0 then (
    (f_X12_measure n0 (zsI S 12 n0 0 (0 : Int32))).bind fun q2 =>
    (f_X12_heardAt n0 x1 q2).bind fun q3 =>
    some (q3, q2)
  ) else (
    some ((-1 : Int32), (zsI S 12 n0 0 (0 : Int32)))
  )
set_option maxRecDepth 20000 in
set_option maxHeartbeats 1000000 in
theorem w_X12_heard {n0 : Nat} {x1 : Int32} {S : ZH} {q : Int32 × ZH} (h : f_X12_heard n0 x1 S = some q) : MetX Y_X12_heard S [z_r 12 (some n0), z_i x1] (some (z_i q.1)) q.2 := by
  refine MetX.of (lo := [(0, z_r 12 (some n0)), (1, z_i x1)]) rfl (by decide) (Nat.le_of_ble_eq_true rfl) ?_
  unfold f_X12_heard at h
  refine x_aload_n 0 dX12_heard_0 rfl rfl ?_
  refine x_iconst (v := (0 : Int32)) dX12_heard_1 (by decide) ?_
  refine x_putI rfl ck_12 0 (by decide) rfl (Or.inl rfl) (by rfl) rfl q_1049 dX12_heard_2 ?_
  refine x_aload_n 0 dX12_heard_5 rfl rfl ?_
  refine x_iload_n 1 dX12_heard_6 rfl rfl ?_
  refine z_bnd h (fun q1 hq1 h => ?_)
  refine x_callV1 rfl (w_X12_noStreet hq1) cw_X12_noStreet q_1179 ⟨by decide, by decide⟩ (Nat.le_of_ble_eq_true rfl) dX12_heard_7 rfl ?_
  refine x_if_eq (tgt := 15) dX12_heard_10 (by decide) h (fun h => ?_) (fun h => ?_)
  · refine x_aload_n 0 dX12_heard_15 rfl rfl ?_
    refine z_bnd h (fun q2 hq2 h => ?_)
    refine x_callVv rfl (w_X12_measure hq2) cw_X12_measure q_1187 ⟨by decide, by decide⟩ (Nat.le_of_ble_eq_true rfl) dX12_heard_16 rfl ?_
    refine x_aload_n 0 dX12_heard_19 rfl rfl ?_
    refine x_iload_n 1 dX12_heard_20 rfl rfl ?_
    refine z_bnd h (fun q3 hq3 h => ?_)
    refine x_callV1 rfl (w_X12_heardAt hq3) cw_X12_heardAt q_1248 ⟨by decide, by decide⟩ (Nat.le_of_ble_eq_true rfl) dX12_heard_21 rfl ?_
    exact x_iretE rfl dX12_heard_24 h
  · refine x_iconst (v := (-1 : Int32)) dX12_heard_13 (by decide) ?_
    exact x_iretE rfl dX12_heard_14 h
-- PressedMenModel tender (II)I
abbrev Y_X12_tender : ZM := (yX12_tender, cX12_tender, 4, (some .int), 1, 25)
theorem cw_X12_tender : z_CV Y_X12_tender 12 2 := ⟨⟨_, _, rfl⟩, by decide, q_1394, q_1395, q_1396, q_76, ⟨by decide, by decide⟩, rfl⟩
def j_X12_tender_55 (n0 : Nat) (x1 : Int32) (x2 : Int32) (s0 : Int32) (S : ZH) : Option (Int32 × ZH) :=
  if ¬ x1 = 0 then (
    some (s0, (zsI S 12 n0 26 x2))
  ) else (
    some (s0, (zsI S 12 n0 25 x2))
  )
def j_X12_tender_31 (n0 : Nat) (x1 : Int32) (x2 : Int32) (s0 : Int64) (s1 : Int64) (s2 : Int64) (S : ZH) : Option (Int32 × ZH) :=
  (f_X12_in s0 s1 s2 S).bind fun q2 =>
  if ¬ q2 = 0 then (
    if ¬ x1 = 0 then (
      j_X12_tender_55 n0 x1 x2 (zI S 12 n0 26) S
    ) else (
      j_X12_tender_55 n0 x1 x2 (zI S 12 n0 25) S
    )
  ) else (
    some ((-2 : Int32), S)
  )
def f_X12_tender (n0 : Nat) (x1 : Int32) (x2 : Int32) (S : ZH) : Option (Int32 × ZH) :=
  (f_X12_in x1.toInt64 (0 : Int64) (1 : Int64) (zsI S 12 n0 0 (0 : Int32))).bind fun q1 =>
  if q1 = 0 then (
    some ((-2 : Int32), (zsI S 12 n0 0 (0 : Int32)))
  ) else (
    if ¬ x1 = 0 then (
      j_X12_tender_31 n0 x1 x2 x2.toInt64 (0 : Int64) (100 : Int64) (zsI S 12 n0 0 (0 : Int32))
    ) else (
      j_X12_tender_31 n0 x1 x2 x2.toInt64 (0 : Int64) (40 : Int64) (zsI S 12 n0 0 (0 : Int32))
    )
  )
set_option maxRecDepth 20000 in
theorem k_X12_tender_55 {S0 : ZH} {n0 : Nat} {x1 : Int32} {x2 : Int32} {s0 : Int32} {S : ZH} {z : Int32 × ZH} (h : j_X12_tender_55 n0 x1 x2 s0 S = some z) : Wp Y_X12_tender S0 (zF S0 (some (z_i z.1)) z.2) 55 [(0, z_r 12 (some n0)), (1, z_i x1), (2, z_i x2)] [z_i s0] S := by
  unfold j_X12_tender_55 at h
  refine x_istore_n (lo' := [(3, z_i s0), (0, z_r 12 (some n0)), (1, z_i x1), (2, z_i x2)]) dX12_tender_55 rfl (by decide) rfl ?_
  refine x_iload_n 2 dX12_tender_56 rfl rfl ?_
  refine x_if_ne (tgt := 68) dX12_tender_57 (by decide) h (fun h => ?_) (fun h => ?_)
  · refine x_aload_n 1 dX12_tender_68 rfl rfl ?_
    refine x_iload_n 3 dX12_tender_69 rfl rfl ?_
    refine x_putI rfl ck_12 26 (by decide) rfl (Or.inl rfl) (by rfl) rfl q_1075 dX12_tender_70 ?_
    refine x_iload_n 0 dX12_tender_73 rfl rfl ?_
    exact x_iretE rfl dX12_tender_74 h
  · refine x_aload_n 1 dX12_tender_60 rfl rfl ?_
    refine x_iload_n 3 dX12_tender_61 rfl rfl ?_
    refine x_putI rfl ck_12 25 (by decide) rfl (Or.inl rfl) (by rfl) rfl q_1074 dX12_tender_62 ?_
    refine x_goto (tgt := 73) dX12_tender_65 (by decide) ?_
    refine x_iload_n 0 dX12_tender_73 rfl rfl ?_
    exact x_iretE rfl dX12_tender_74 h
set_option maxRecDepth 20000 in
theorem k_X12_tender_31 {S0 : ZH} {n0 : Nat} {x1 : Int32} {x2 : Int32} {s0 : Int64} {s1 : Int64} {s2 : Int64} {S : ZH} {z : Int32 × ZH} (h : j_X12_tender_31 n0 x1 x2 s0 s1 s2 S = some z) : Wp Y_X12_tender S0 (zF S0 (some (z_i z.1)) z.2) 31 [(0, z_r 12 (some n0)), (1, z_i x1), (2, z_i x2)] [z_l s2, z_l s1, z_l s0] S := by
  unfold j_X12_tender_31 at h
  refine z_bnd h (fun q2 hq2 h => ?_)
  refine x_callS1 (w_X12_in hq2) cw_X12_in q_1172 ⟨by decide, by decide⟩ (Nat.le_of_ble_eq_true rfl) dX12_tender_31 rfl ?_
  refine x_if_ne (tgt := 40) dX12_tender_34 (by decide) h (fun h => ?_) (fun h => ?_)
  · refine x_iload_n 1 dX12_tender_40 rfl rfl ?_
    refine x_if_ne (tgt := 51) dX12_tender_41 (by decide) h (fun h => ?_) (fun h => ?_)
    · refine x_aload_n 0 dX12_tender_51 rfl rfl ?_
      refine x_getI rfl ck_12 26 (by decide) rfl q_1075 dX12_tender_52 ?_
      exact x_lo [0, 1, 2] rfl (k_X12_tender_55 h)
    · refine x_aload_n 0 dX12_tender_44 rfl rfl ?_
      refine x_getI rfl ck_12 25 (by decide) rfl q_1074 dX12_tender_45 ?_
      refine x_goto (tgt := 55) dX12_tender_48 (by decide) ?_
      exact x_lo [0, 1, 2] rfl (k_X12_tender_55 h)
  · refine x_bipush (v := (-2 : Int32)) dX12_tender_37 (by decide) ?_
    exact x_iretE rfl dX12_tender_39 h
set_option maxRecDepth 20000 in
set_option maxHeartbeats 1000000 in
theorem w_X12_tender {n0 : Nat} {x1 : Int32} {x2 : Int32} {S : ZH} {q : Int32 × ZH} (h : f_X12_tender n0 x1 x2 S = some q) : MetX Y_X12_tender S [z_r 12 (some n0), z_i x1, z_i x2] (some (z_i q.1)) q.2 := by
  refine MetX.of (lo := [(0, z_r 12 (some n0)), (1, z_i x1), (2, z_i x2)]) rfl (by decide) (Nat.le_of_ble_eq_true rfl) ?_
  unfold f_X12_tender at h
  refine x_aload_n 0 dX12_tender_0 rfl rfl ?_
  refine x_iconst (v := (0 : Int32)) dX12_tender_1 (by decide) ?_
  refine x_putI rfl ck_12 0 (by decide) rfl (Or.inl rfl) (by rfl) rfl q_1049 dX12_tender_2 ?_
  refine x_iload_n 1 dX12_tender_5 rfl rfl ?_
  refine x_i2l dX12_tender_6 ?_
  refine x_lconst (v := (0 : Int64)) dX12_tender_7 (by decide) ?_
  refine x_lconst (v := (1 : Int64)) dX12_tender_8 (by decide) ?_
  refine z_bnd h (fun q1 hq1 h => ?_)
  refine x_callS1 (w_X12_in hq1) cw_X12_in q_1172 ⟨by decide, by decide⟩ (Nat.le_of_ble_eq_true rfl) dX12_tender_9 rfl ?_
  refine x_if_eq (tgt := 37) dX12_tender_12 (by decide) h (fun h => ?_) (fun h => ?_)
  · refine x_bipush (v := (-2 : Int32)) dX12_tender_37 (by decide) ?_
    exact x_iretE rfl dX12_tender_39 h
  · refine x_iload_n 2 dX12_tender_15 rfl rfl ?_
    refine x_i2l dX12_tender_16 ?_
    refine x_lconst (v := (0 : Int64)) dX12_tender_17 (by decide) ?_
    refine x_iload_n 1 dX12_tender_18 rfl rfl ?_
    refine x_if_ne (tgt := 28) dX12_tender_19 (by decide) h (fun h => ?_) (fun h => ?_)
    · refine x_ldc2 dX12_tender_28 q_1397.1 ?_
      exact x_lo [0, 1, 2] rfl (k_X12_tender_31 h)
    · refine x_ldc2 dX12_tender_22 q_1201.1 ?_
      refine x_goto (tgt := 31) dX12_tender_25 (by decide) ?_
      exact x_lo [0, 1, 2] rfl (k_X12_tender_31 h)
-- PressedMenModel meet (III)I
abbrev Y_X12_meet : ZM := (yX12_meet, cX12_meet, 11, (some .int), 0, 0)
theorem cw_X12_meet : z_CV Y_X12_meet 12 3 := ⟨⟨_, _, rfl⟩, by decide, q_1412, q_61, q_1413, q_76, ⟨by decide, by decide⟩, rfl⟩
def b_X12_meet_10 (n0 : Nat) (x2 : Int32) (x3 : Int32) (v : Int32 × Int32 × ZH) : Option ((Int32 × Int32 × ZH) ⊕ (ZH)) :=
  if v.2.1 < 0 then (
    some (Sum.inr v.2.2)
  ) else (
    if (zI v.2.2 12 n0 1) = 0 then none else
    ((zR v.2.2 12 n0 28)).bind fun a2 =>
    (zst v.2.2 46 a2 v.2.1 (v.1 - v.1 / (zI v.2.2 12 n0 1) * (zI v.2.2 12 n0 1))).bind fun S3 =>
    if (zI S3 12 n0 1) = 0 then none else
    some (Sum.inl ((v.1 / (zI S3 12 n0 1)), (v.2.1 + (-1)), S3))
  )
def b_X12_meet_47 (n0 : Nat) (x2 : Int32) (x3 : Int32) (S : ZH) (v : Int32) : Option ((Int32) ⊕ ((Unit) ⊕ (Int32 × ZH))) :=
  if (x2 * x3) ≤ v then (
    some (Sum.inr (Sum.inl ()))
  ) else (
    if x3 = 0 then none else
    if (v - v / x3 * x3) ≤ 0 then (
      some (Sum.inl ((v + 1)))
    ) else (
      ((zR S 12 n0 28)).bind fun a7 =>
      (zld S 46 a7 (v - (1 : Int32))).bind fun v8 =>
      ((zR S 12 n0 28)).bind fun a9 =>
      (zld S 46 a9 v).bind fun v10 =>
      ((zR S 12 n0 3)).bind fun a11 =>
      (zld S 30 a11 (((8 : Int32) * v8) + v10)).bind fun v12 =>
      if v12 ≤ (1 : Int32) then (
        some (Sum.inl ((v + 1)))
      ) else (
        some (Sum.inr (Sum.inr ((-9 : Int32), S)))
      )
    )
  )
def b_X12_meet_103 (n0 : Nat) (x2 : Int32) (x3 : Int32) (v : Int32 × ZH) : Option ((Int32 × ZH) ⊕ (ZH)) :=
  if (8 : Int32) ≤ v.1 then (
    some (Sum.inr v.2)
  ) else (
    ((zR v.2 12 n0 29)).bind fun a14 =>
    (zst v.2 47 a14 v.1 (-9 : Int32)).bind fun S15 =>
    some (Sum.inl ((v.1 + 1), S15))
  )
def b_X12_meet_192 (n0 : Nat) (x2 : Int32) (x3 : Int32) (x5 : Int32) (x6 : Int32) (x7 : Int32) (x8 : Int32) (S : ZH) (v : Int32 × Int32) : Option ((Int32 × Int32) ⊕ (Int32)) :=
  if (zI S 12 n0 1) ≤ v.2 then (
    some (Sum.inr v.1)
  ) else (
    if v.1 = 0 then (
      some (Sum.inl ((0 : Int32), (v.2 + 1)))
    ) else (
      ((zR S 12 n0 29)).bind fun a21 =>
      (zld S 47 a21 v.2).bind fun v22 =>
      if v22 = (-9 : Int32) then (
        some (Sum.inl ((1 : Int32), (v.2 + 1)))
      ) else (
        ((zR S 12 n0 29)).bind fun a23 =>
        (zld S 47 a23 v.2).bind fun v24 =>
        if v24 = x6 then (
          some (Sum.inl ((1 : Int32), (v.2 + 1)))
        ) else (
          ((zR S 12 n0 29)).bind fun a25 =>
          (zld S 47 a25 v.2).bind fun v26 =>
          ((zR S 12 n0 3)).bind fun a27 =>
          (zld S 30 a27 (((8 : Int32) * v.2) + x8)).bind fun v28 =>
          if v28 ≤ (x6 - v26) then (
            some (Sum.inl ((0 : Int32), (v.2 + 1)))
          ) else (
            some (Sum.inl ((1 : Int32), (v.2 + 1)))
          )
        )
      )
    )
  )
def j_X12_meet_187 (n0 : Nat) (x2 : Int32) (x3 : Int32) (x5 : Int32) (x6 : Int32) (x7 : Int32) (x8 : Int32) (s0 : Int32) (S : ZH) : Option ((Int32 × Int32 × ZH) ⊕ (Int32 × ZH)) :=
  (z_iter zFU (b_X12_meet_192 n0 x2 x3 x5 x6 x7 x8 S) (s0, (0 : Int32))).bind fun t29 =>
  if t29 = 0 then (
    some (Sum.inl (x5, (x7 + 1), S))
  ) else (
    ((zR S 12 n0 29)).bind fun a30 =>
    (zst S 47 a30 x8 x6).bind fun S31 =>
    ((zR S31 12 n0 27)).bind fun a32 =>
    (zld S31 45 a32 x8).bind fun v33 =>
    some (Sum.inl ((x5 + v33), (x7 + 1), S31))
  )
def j_X12_meet_186 (n0 : Nat) (x2 : Int32) (x3 : Int32) (x5 : Int32) (x6 : Int32) (x7 : Int32) (x8 : Int32)  (S : ZH) : Option ((Int32 × Int32 × ZH) ⊕ (Int32 × ZH)) :=
  j_X12_meet_187 n0 x2 x3 x5 x6 x7 x8 (0 : Int32) S
def b_X12_meet_140 (n0 : Nat) (x2 : Int32) (x3 : Int32) (x6 : Int32) (v : Int32 × Int32 × ZH) : Option ((Int32 × Int32 × ZH) ⊕ (Int32 × ZH)) :=
  if x2 ≤ v.2.1 then (
    some (Sum.inr (v.1, v.2.2))
  ) else (
    ((zR v.2.2 12 n0 28)).bind fun a17 =>
    (zld v.2.2 46 a17 ((v.2.1 * x3) + x6)).bind fun v18 =>
    ((zR v.2.2 12 n0 27)).bind fun a19 =>
    (zld v.2.2 45 a19 v18).bind fun v20 =>
    if v20 ≤ 0 then (
      j_X12_meet_186 n0 x2 x3 v.1 x6 v.2.1 v18 v.2.2
    ) else (
      ((zR v.2.2 12 n0 29)).bind fun a34 =>
      (zld v.2.2 47 a34 v18).bind fun v35 =>
      if ¬ v35 = (-9 : Int32) then (
        j_X12_meet_186 n0 x2 x3 v.1 x6 v.2.1 v18 v.2.2
      ) else (
        j_X12_meet_187 n0 x2 x3 v.1 x6 v.2.1 v18 (1 : Int32) v.2.2
      )
    )
  )
def b_X12_meet_131 (n0 : Nat) (x2 : Int32) (x3 : Int32) (v : Int32 × Int32 × ZH) : Option ((Int32 × Int32 × ZH) ⊕ (Int32 × ZH)) :=
  if x3 ≤ v.2.1 then (
    some (Sum.inr (v.1, v.2.2))
  ) else (
    (z_iter zFU (b_X12_meet_140 n0 x2 x3 v.2.1) (v.1, (0 : Int32), v.2.2)).bind fun t36 =>
    some (Sum.inl (t36.1, (v.2.1 + 1), t36.2))
  )
def f_X12_meet (n0 : Nat) (x1 : Int32) (x2 : Int32) (x3 : Int32) (S : ZH) : Option (Int32 × ZH) :=
  (z_iter zFU (b_X12_meet_10 n0 x2 x3) (x1, ((x2 * x3) - (1 : Int32)), S)).bind fun t5 =>
  (z_iter zFU (b_X12_meet_47 n0 x2 x3 t5) ((0 : Int32))).bind fun t13 =>
  Sum.elim (fun t =>
    (z_iter zFU (b_X12_meet_103 n0 x2 x3) ((0 : Int32), t5)).bind fun t16 =>
    (z_iter zFU (b_X12_meet_131 n0 x2 x3) ((0 : Int32), (0 : Int32), t16)).bind fun t37 =>
    some (t37.1, t37.2)
  ) (fun q => some q) t13
set_option maxRecDepth 20000 in
theorem l_X12_meet_10 {S0 : ZH} {F : ZP} {n0 : Nat} {x2 : Int32} {x3 : Int32} {v : Int32 × Int32 × ZH} {t : ZH} (h : z_iter zFU (b_X12_meet_10 n0 x2 x3) v = some t) (k : (fun t => Wp Y_X12_meet S0 F 44 [(0, z_r 12 (some n0)), (2, z_i x2), (3, z_i x3)] [] t) t) : Wp Y_X12_meet S0 F 10 [(0, z_r 12 (some n0)), (2, z_i x2), (3, z_i x3), (4, z_i v.1), (5, z_i v.2.1)] [] v.2.2 := by
  refine z_iter_P (P := fun v : Int32 × Int32 × ZH => Wp Y_X12_meet S0 F 10 [(0, z_r 12 (some n0)), (2, z_i x2), (3, z_i x3), (4, z_i v.1), (5, z_i v.2.1)] [] v.2.2) (X := (fun t => Wp Y_X12_meet S0 F 44 [(0, z_r 12 (some n0)), (2, z_i x2), (3, z_i x3)] [] t)) ?_ _ _ _ h k
  clear h k v t
  intro v r h k
  unfold b_X12_meet_10 at h
  refine x_iload 4 dX12_meet_10 rfl ?_
  refine x_if_lt (tgt := 44) dX12_meet_12 (by decide) h (fun h => ?_) (fun h => ?_)
  · cases h
    exact x_lo [0, 1, 2] rfl k
  · refine x_aload_n 0 dX12_meet_15 rfl rfl ?_
    refine x_getR rfl ck_12 28 (by decide) rfl q_1077 dX12_meet_16 ?_
    refine x_iload 4 dX12_meet_19 rfl ?_
    refine x_iload 3 dX12_meet_21 rfl ?_
    refine x_aload_n 0 dX12_meet_23 rfl rfl ?_
    refine x_getI rfl ck_12 1 (by decide) rfl q_1050 dX12_meet_24 ?_
    refine z_ite h (fun _ h => by cases h) (fun hz1 h => ?_)
    refine x_irem dX12_meet_27 hz1 ?_
    refine z_bnd h (fun a2 ha2 h => ?_)
    refine x_iastore ha2 ak_46 dX12_meet_28 h (fun S3 hS3 h => ?_)
    refine x_iload 3 dX12_meet_29 rfl ?_
    refine x_aload_n 0 dX12_meet_31 rfl rfl ?_
    refine x_getI rfl ck_12 1 (by decide) rfl q_1050 dX12_meet_32 ?_
    refine z_ite h (fun _ h => by cases h) (fun hz4 h => ?_)
    refine x_idiv dX12_meet_35 hz4 ?_
    refine x_istore (lo' := [(4, z_i (v.1 / (zI S3 12 n0 1))), (0, z_r 12 (some n0)), (2, z_i x2), (3, z_i x3), (5, z_i v.2.1)]) dX12_meet_36 (by decide) rfl ?_
    refine x_iinc (v := (v.2.1 + (-1))) (lo' := [(5, z_i (v.2.1 + (-1))), (4, z_i (v.1 / (zI S3 12 n0 1))), (0, z_r 12 (some n0)), (2, z_i x2), (3, z_i x3)]) 4 dX12_meet_38 rfl (congrArg (HAdd.hAdd v.2.1) (by decide)) (by decide) rfl ?_
    refine x_goto (tgt := 10) dX12_meet_41 (by decide) ?_
    cases h
    exact x_lo [2, 3, 4, 1, 0] rfl k
set_option maxRecDepth 20000 in
theorem l_X12_meet_47 {S0 : ZH} {F : ZP} {n0 : Nat} {x2 : Int32} {x3 : Int32} {S : ZH} {v : Int32} {t : (Unit) ⊕ (Int32 × ZH)} (h : z_iter zFU (b_X12_meet_47 n0 x2 x3 S) v = some t) (k : (Sum.elim (fun t => Wp Y_X12_meet S0 F 100 [(0, z_r 12 (some n0)), (2, z_i x2), (3, z_i x3)] [] S) (fun q => F = zF S0 (some (z_i q.1)) q.2)) t) : Wp Y_X12_meet S0 F 47 [(0, z_r 12 (some n0)), (2, z_i x2), (3, z_i x3), (5, z_i v)] [] S := by
  refine z_iter_P (P := fun v : Int32 => Wp Y_X12_meet S0 F 47 [(0, z_r 12 (some n0)), (2, z_i x2), (3, z_i x3), (5, z_i v)] [] S) (X := (Sum.elim (fun t => Wp Y_X12_meet S0 F 100 [(0, z_r 12 (some n0)), (2, z_i x2), (3, z_i x3)] [] S) (fun q => F = zF S0 (some (z_i q.1)) q.2))) ?_ _ _ _ h k
  clear h k v t
  intro v r h k
  unfold b_X12_meet_47 at h
  refine x_iload 3 dX12_meet_47 rfl ?_
  refine x_iload_n 1 dX12_meet_49 rfl rfl ?_
  refine x_iload_n 2 dX12_meet_50 rfl rfl ?_
  refine x_imul dX12_meet_51 ?_
  refine x_ic_ge (tgt := 100) dX12_meet_52 (by decide) h (fun h => ?_) (fun h => ?_)
  · cases h
    exact x_lo [0, 1, 2] rfl k
  · refine x_iload 3 dX12_meet_55 rfl ?_
    refine x_iload_n 2 dX12_meet_57 rfl rfl ?_
    refine z_ite h (fun _ h => by cases h) (fun hz6 h => ?_)
    refine x_irem dX12_meet_58 hz6 ?_
    refine x_if_le (tgt := 94) dX12_meet_59 (by decide) h (fun h => ?_) (fun h => ?_)
    · refine x_iinc (v := (v + 1)) (lo' := [(5, z_i (v + 1)), (0, z_r 12 (some n0)), (2, z_i x2), (3, z_i x3)]) 3 dX12_meet_94 rfl (congrArg (HAdd.hAdd v) (by decide)) (by decide) rfl ?_
      refine x_goto (tgt := 47) dX12_meet_97 (by decide) ?_
      cases h
      exact x_lo [1, 2, 3, 0] rfl k
    · refine x_aload_n 0 dX12_meet_62 rfl rfl ?_
      refine x_getR rfl ck_12 3 (by decide) rfl q_1052 dX12_meet_63 ?_
      refine x_bipush (v := (8 : Int32)) dX12_meet_66 (by decide) ?_
      refine x_aload_n 0 dX12_meet_68 rfl rfl ?_
      refine x_getR rfl ck_12 28 (by decide) rfl q_1077 dX12_meet_69 ?_
      refine x_iload 3 dX12_meet_72 rfl ?_
      refine x_iconst (v := (1 : Int32)) dX12_meet_74 (by decide) ?_
      refine x_isub dX12_meet_75 ?_
      refine z_bnd h (fun a7 ha7 h => ?_)
      refine x_iaload ha7 ak_46 dX12_meet_76 h (fun v8 hv8 h => ?_)
      refine x_imul dX12_meet_77 ?_
      refine x_aload_n 0 dX12_meet_78 rfl rfl ?_
      refine x_getR rfl ck_12 28 (by decide) rfl q_1077 dX12_meet_79 ?_
      refine x_iload 3 dX12_meet_82 rfl ?_
      refine z_bnd h (fun a9 ha9 h => ?_)
      refine x_iaload ha9 ak_46 dX12_meet_84 h (fun v10 hv10 h => ?_)
      refine x_iadd dX12_meet_85 ?_
      refine z_bnd h (fun a11 ha11 h => ?_)
      refine x_iaload ha11 ak_30 dX12_meet_86 h (fun v12 hv12 h => ?_)
      refine x_iconst (v := (1 : Int32)) dX12_meet_87 (by decide) ?_
      refine x_ic_le (tgt := 94) dX12_meet_88 (by decide) h (fun h => ?_) (fun h => ?_)
      · refine x_iinc (v := (v + 1)) (lo' := [(5, z_i (v + 1)), (0, z_r 12 (some n0)), (2, z_i x2), (3, z_i x3)]) 3 dX12_meet_94 rfl (congrArg (HAdd.hAdd v) (by decide)) (by decide) rfl ?_
        refine x_goto (tgt := 47) dX12_meet_97 (by decide) ?_
        cases h
        exact x_lo [1, 2, 3, 0] rfl k
      · refine x_bipush (v := (-9 : Int32)) dX12_meet_91 (by decide) ?_
        cases h
        have k : F = zF S0 (some (z_i (-9 : Int32))) S := k
        subst k
        exact x_iret0 rfl dX12_meet_93
set_option maxRecDepth 20000 in
theorem l_X12_meet_103 {S0 : ZH} {F : ZP} {n0 : Nat} {x2 : Int32} {x3 : Int32} {v : Int32 × ZH} {t : ZH} (h : z_iter zFU (b_X12_meet_103 n0 x2 x3) v = some t) (k : (fun t => Wp Y_X12_meet S0 F 125 [(0, z_r 12 (some n0)), (2, z_i x2), (3, z_i x3)] [] t) t) : Wp Y_X12_meet S0 F 103 [(0, z_r 12 (some n0)), (2, z_i x2), (3, z_i x3), (5, z_i v.1)] [] v.2 := by
  refine z_iter_P (P := fun v : Int32 × ZH => Wp Y_X12_meet S0 F 103 [(0, z_r 12 (some n0)), (2, z_i x2), (3, z_i x3), (5, z_i v.1)] [] v.2) (X := (fun t => Wp Y_X12_meet S0 F 125 [(0, z_r 12 (some n0)), (2, z_i x2), (3, z_i x3)] [] t)) ?_ _ _ _ h k
  clear h k v t
  intro v r h k
  unfold b_X12_meet_103 at h
  refine x_iload 3 dX12_meet_103 rfl ?_
  refine x_bipush (v := (8 : Int32)) dX12_meet_105 (by decide) ?_
  refine x_ic_ge (tgt := 125) dX12_meet_107 (by decide) h (fun h => ?_) (fun h => ?_)
  · cases h
    exact x_lo [0, 1, 2] rfl k
  · refine x_aload_n 0 dX12_meet_110 rfl rfl ?_
    refine x_getR rfl ck_12 29 (by decide) rfl q_1078 dX12_meet_111 ?_
    refine x_iload 3 dX12_meet_114 rfl ?_
    refine x_bipush (v := (-9 : Int32)) dX12_meet_116 (by decide) ?_
    refine z_bnd h (fun a14 ha14 h => ?_)
    refine x_iastore ha14 ak_47 dX12_meet_118 h (fun S15 hS15 h => ?_)
    refine x_iinc (v := (v.1 + 1)) (lo' := [(5, z_i (v.1 + 1)), (0, z_r 12 (some n0)), (2, z_i x2), (3, z_i x3)]) 3 dX12_meet_119 rfl (congrArg (HAdd.hAdd v.1) (by decide)) (by decide) rfl ?_
    refine x_goto (tgt := 103) dX12_meet_122 (by decide) ?_
    cases h
    exact x_lo [1, 2, 3, 0] rfl k
set_option maxRecDepth 20000 in
theorem l_X12_meet_192 {S0 : ZH} {F : ZP} {n0 : Nat} {x2 : Int32} {x3 : Int32} {x5 : Int32} {x6 : Int32} {x7 : Int32} {x8 : Int32} {S : ZH} {v : Int32 × Int32} {t : Int32} (h : z_iter zFU (b_X12_meet_192 n0 x2 x3 x5 x6 x7 x8 S) v = some t) (k : (fun t => Wp Y_X12_meet S0 F 269 [(0, z_r 12 (some n0)), (2, z_i x2), (3, z_i x3), (5, z_i x5), (6, z_i x6), (7, z_i x7), (8, z_i x8), (9, z_i t)] [] S) t) : Wp Y_X12_meet S0 F 192 [(0, z_r 12 (some n0)), (2, z_i x2), (3, z_i x3), (5, z_i x5), (6, z_i x6), (7, z_i x7), (8, z_i x8), (9, z_i v.1), (10, z_i v.2)] [] S := by
  refine z_iter_P (P := fun v : Int32 × Int32 => Wp Y_X12_meet S0 F 192 [(0, z_r 12 (some n0)), (2, z_i x2), (3, z_i x3), (5, z_i x5), (6, z_i x6), (7, z_i x7), (8, z_i x8), (9, z_i v.1), (10, z_i v.2)] [] S) (X := (fun t => Wp Y_X12_meet S0 F 269 [(0, z_r 12 (some n0)), (2, z_i x2), (3, z_i x3), (5, z_i x5), (6, z_i x6), (7, z_i x7), (8, z_i x8), (9, z_i t)] [] S)) ?_ _ _ _ h k
  clear h k v t
  intro v r h k
  unfold b_X12_meet_192 at h
  refine x_iload 8 dX12_meet_192 rfl ?_
  refine x_aload_n 0 dX12_meet_194 rfl rfl ?_
  refine x_getI rfl ck_12 1 (by decide) rfl q_1050 dX12_meet_195 ?_
  refine x_ic_ge (tgt := 269) dX12_meet_198 (by decide) h (fun h => ?_) (fun h => ?_)
  · cases h
    exact x_lo [0, 1, 2, 3, 4, 5, 6, 7] rfl k
  · refine x_iload 7 dX12_meet_201 rfl ?_
    refine x_if_eq (tgt := 260) dX12_meet_203 (by decide) h (fun h => ?_) (fun h => ?_)
    · refine x_iconst (v := (0 : Int32)) dX12_meet_260 (by decide) ?_
      refine x_istore (lo' := [(9, z_i (0 : Int32)), (0, z_r 12 (some n0)), (2, z_i x2), (3, z_i x3), (5, z_i x5), (6, z_i x6), (7, z_i x7), (8, z_i x8), (10, z_i v.2)]) dX12_meet_261 (by decide) rfl ?_
      refine x_iinc (v := (v.2 + 1)) (lo' := [(10, z_i (v.2 + 1)), (9, z_i (0 : Int32)), (0, z_r 12 (some n0)), (2, z_i x2), (3, z_i x3), (5, z_i x5), (6, z_i x6), (7, z_i x7), (8, z_i x8)]) 8 dX12_meet_263 rfl (congrArg (HAdd.hAdd v.2) (by decide)) (by decide) rfl ?_
      refine x_goto (tgt := 192) dX12_meet_266 (by decide) ?_
      cases h
      exact x_lo [2, 3, 4, 5, 6, 7, 8, 1, 0] rfl k
    · refine x_aload_n 0 dX12_meet_206 rfl rfl ?_
      refine x_getR rfl ck_12 29 (by decide) rfl q_1078 dX12_meet_207 ?_
      refine x_iload 8 dX12_meet_210 rfl ?_
      refine z_bnd h (fun a21 ha21 h => ?_)
      refine x_iaload ha21 ak_47 dX12_meet_212 h (fun v22 hv22 h => ?_)
      refine x_bipush (v := (-9 : Int32)) dX12_meet_213 (by decide) ?_
      refine x_ic_eq (tgt := 256) dX12_meet_215 (by decide) h (fun h => ?_) (fun h => ?_)
      · refine x_iconst (v := (1 : Int32)) dX12_meet_256 (by decide) ?_
        refine x_goto (tgt := 261) dX12_meet_257 (by decide) ?_
        refine x_istore (lo' := [(9, z_i (1 : Int32)), (0, z_r 12 (some n0)), (2, z_i x2), (3, z_i x3), (5, z_i x5), (6, z_i x6), (7, z_i x7), (8, z_i x8), (10, z_i v.2)]) dX12_meet_261 (by decide) rfl ?_
        refine x_iinc (v := (v.2 + 1)) (lo' := [(10, z_i (v.2 + 1)), (9, z_i (1 : Int32)), (0, z_r 12 (some n0)), (2, z_i x2), (3, z_i x3), (5, z_i x5), (6, z_i x6), (7, z_i x7), (8, z_i x8)]) 8 dX12_meet_263 rfl (congrArg (HAdd.hAdd v.2) (by decide)) (by decide) rfl ?_
        refine x_goto (tgt := 192) dX12_meet_266 (by decide) ?_
        cases h
        exact x_lo [2, 3, 4, 5, 6, 7, 8, 1, 0] rfl k
      · refine x_aload_n 0 dX12_meet_218 rfl rfl ?_
        refine x_getR rfl ck_12 29 (by decide) rfl q_1078 dX12_meet_219 ?_
        refine x_iload 8 dX12_meet_222 rfl ?_
        refine z_bnd h (fun a23 ha23 h => ?_)
        refine x_iaload ha23 ak_47 dX12_meet_224 h (fun v24 hv24 h => ?_)
        refine x_iload 4 dX12_meet_225 rfl ?_
        refine x_ic_eq (tgt := 256) dX12_meet_227 (by decide) h (fun h => ?_) (fun h => ?_)
        · refine x_iconst (v := (1 : Int32)) dX12_meet_256 (by decide) ?_
          refine x_goto (tgt := 261) dX12_meet_257 (by decide) ?_
          refine x_istore (lo' := [(9, z_i (1 : Int32)), (0, z_r 12 (some n0)), (2, z_i x2), (3, z_i x3), (5, z_i x5), (6, z_i x6), (7, z_i x7), (8, z_i x8), (10, z_i v.2)]) dX12_meet_261 (by decide) rfl ?_
          refine x_iinc (v := (v.2 + 1)) (lo' := [(10, z_i (v.2 + 1)), (9, z_i (1 : Int32)), (0, z_r 12 (some n0)), (2, z_i x2), (3, z_i x3), (5, z_i x5), (6, z_i x6), (7, z_i x7), (8, z_i x8)]) 8 dX12_meet_263 rfl (congrArg (HAdd.hAdd v.2) (by decide)) (by decide) rfl ?_
          refine x_goto (tgt := 192) dX12_meet_266 (by decide) ?_
          cases h
          exact x_lo [2, 3, 4, 5, 6, 7, 8, 1, 0] rfl k
        · refine x_iload 4 dX12_meet_230 rfl ?_
          refine x_aload_n 0 dX12_meet_232 rfl rfl ?_
          refine x_getR rfl ck_12 29 (by decide) rfl q_1078 dX12_meet_233 ?_
          refine x_iload 8 dX12_meet_236 rfl ?_
          refine z_bnd h (fun a25 ha25 h => ?_)
          refine x_iaload ha25 ak_47 dX12_meet_238 h (fun v26 hv26 h => ?_)
          refine x_isub dX12_meet_239 ?_
          refine x_aload_n 0 dX12_meet_240 rfl rfl ?_
          refine x_getR rfl ck_12 3 (by decide) rfl q_1052 dX12_meet_241 ?_
          refine x_bipush (v := (8 : Int32)) dX12_meet_244 (by decide) ?_
          refine x_iload 8 dX12_meet_246 rfl ?_
          refine x_imul dX12_meet_248 ?_
          refine x_iload 6 dX12_meet_249 rfl ?_
          refine x_iadd dX12_meet_251 ?_
          refine z_bnd h (fun a27 ha27 h => ?_)
          refine x_iaload ha27 ak_30 dX12_meet_252 h (fun v28 hv28 h => ?_)
          refine x_ic_ge (tgt := 260) dX12_meet_253 (by decide) h (fun h => ?_) (fun h => ?_)
          · refine x_iconst (v := (0 : Int32)) dX12_meet_260 (by decide) ?_
            refine x_istore (lo' := [(9, z_i (0 : Int32)), (0, z_r 12 (some n0)), (2, z_i x2), (3, z_i x3), (5, z_i x5), (6, z_i x6), (7, z_i x7), (8, z_i x8), (10, z_i v.2)]) dX12_meet_261 (by decide) rfl ?_
            refine x_iinc (v := (v.2 + 1)) (lo' := [(10, z_i (v.2 + 1)), (9, z_i (0 : Int32)), (0, z_r 12 (some n0)), (2, z_i x2), (3, z_i x3), (5, z_i x5), (6, z_i x6), (7, z_i x7), (8, z_i x8)]) 8 dX12_meet_263 rfl (congrArg (HAdd.hAdd v.2) (by decide)) (by decide) rfl ?_
            refine x_goto (tgt := 192) dX12_meet_266 (by decide) ?_
            cases h
            exact x_lo [2, 3, 4, 5, 6, 7, 8, 1, 0] rfl k
          · refine x_iconst (v := (1 : Int32)) dX12_meet_256 (by decide) ?_
            refine x_goto (tgt := 261) dX12_meet_257 (by decide) ?_
            refine x_istore (lo' := [(9, z_i (1 : Int32)), (0, z_r 12 (some n0)), (2, z_i x2), (3, z_i x3), (5, z_i x5), (6, z_i x6), (7, z_i x7), (8, z_i x8), (10, z_i v.2)]) dX12_meet_261 (by decide) rfl ?_
            refine x_iinc (v := (v.2 + 1)) (lo' := [(10, z_i (v.2 + 1)), (9, z_i (1 : Int32)), (0, z_r 12 (some n0)), (2, z_i x2), (3, z_i x3), (5, z_i x5), (6, z_i x6), (7, z_i x7), (8, z_i x8)]) 8 dX12_meet_263 rfl (congrArg (HAdd.hAdd v.2) (by decide)) (by decide) rfl ?_
            refine x_goto (tgt := 192) dX12_meet_266 (by decide) ?_
            cases h
            exact x_lo [2, 3, 4, 5, 6, 7, 8, 1, 0] rfl k
set_option maxRecDepth 20000 in
theorem k_X12_meet_187 {S0 : ZH} {F : ZP} {n0 : Nat} {x2 : Int32} {x3 : Int32} {x5 : Int32} {x6 : Int32} {x7 : Int32} {x8 : Int32} {s0 : Int32}  {S : ZH} {z : (Int32 × Int32 × ZH) ⊕ (Int32 × ZH)} (h : j_X12_meet_187 n0 x2 x3 x5 x6 x7 x8 s0 S = some z) (k : Sum.elim (fun v : Int32 × Int32 × ZH => Wp Y_X12_meet S0 F 140 [(0, z_r 12 (some n0)), (2, z_i x2), (3, z_i x3), (5, z_i v.1), (6, z_i x6), (7, z_i v.2.1)] [] v.2.2) (fun t => Wp Y_X12_meet S0 F 301 [(0, z_r 12 (some n0)), (2, z_i x2), (3, z_i x3), (5, z_i t.1), (6, z_i x6)] [] t.2) z) : Wp Y_X12_meet S0 (F) 187 [(0, z_r 12 (some n0)), (2, z_i x2), (3, z_i x3), (5, z_i x5), (6, z_i x6), (7, z_i x7), (8, z_i x8)] [z_i s0] S := by
  unfold j_X12_meet_187 at h
  refine x_istore (lo' := [(9, z_i s0), (0, z_r 12 (some n0)), (2, z_i x2), (3, z_i x3), (5, z_i x5), (6, z_i x6), (7, z_i x7), (8, z_i x8)]) dX12_meet_187 (by decide) rfl ?_
  refine x_iconst (v := (0 : Int32)) dX12_meet_189 (by decide) ?_
  refine x_istore (lo' := [(10, z_i (0 : Int32)), (9, z_i s0), (0, z_r 12 (some n0)), (2, z_i x2), (3, z_i x3), (5, z_i x5), (6, z_i x6), (7, z_i x7), (8, z_i x8)]) dX12_meet_190 (by decide) rfl ?_
  refine z_bnd h (fun t29 ht29 h => ?_)
  refine x_lo [2, 3, 4, 5, 6, 7, 8, 1, 0] rfl ?_
  refine l_X12_meet_192 ht29 ?_
  refine x_iload 7 dX12_meet_269 rfl ?_
  refine x_if_eq (tgt := 295) dX12_meet_271 (by decide) h (fun h => ?_) (fun h => ?_)
  · refine x_iinc (v := (x7 + 1)) (lo' := [(7, z_i (x7 + 1)), (0, z_r 12 (some n0)), (2, z_i x2), (3, z_i x3), (5, z_i x5), (6, z_i x6), (8, z_i x8), (9, z_i t29)]) 5 dX12_meet_295 rfl (congrArg (HAdd.hAdd x7) (by decide)) (by decide) rfl ?_
    refine x_goto (tgt := 140) dX12_meet_298 (by decide) ?_
    cases h
    exact x_lo [1, 2, 3, 4, 5, 0] rfl k
  · refine x_aload_n 0 dX12_meet_274 rfl rfl ?_
    refine x_getR rfl ck_12 29 (by decide) rfl q_1078 dX12_meet_275 ?_
    refine x_iload 6 dX12_meet_278 rfl ?_
    refine x_iload 4 dX12_meet_280 rfl ?_
    refine z_bnd h (fun a30 ha30 h => ?_)
    refine x_iastore ha30 ak_47 dX12_meet_282 h (fun S31 hS31 h => ?_)
    refine x_iload 3 dX12_meet_283 rfl ?_
    refine x_aload_n 0 dX12_meet_285 rfl rfl ?_
    refine x_getR rfl ck_12 27 (by decide) rfl q_1076 dX12_meet_286 ?_
    refine x_iload 6 dX12_meet_289 rfl ?_
    refine z_bnd h (fun a32 ha32 h => ?_)
    refine x_iaload ha32 ak_45 dX12_meet_291 h (fun v33 hv33 h => ?_)
    refine x_iadd dX12_meet_292 ?_
    refine x_istore (lo' := [(5, z_i (x5 + v33)), (0, z_r 12 (some n0)), (2, z_i x2), (3, z_i x3), (6, z_i x6), (7, z_i x7), (8, z_i x8), (9, z_i t29)]) dX12_meet_293 (by decide) rfl ?_
    refine x_iinc (v := (x7 + 1)) (lo' := [(7, z_i (x7 + 1)), (5, z_i (x5 + v33)), (0, z_r 12 (some n0)), (2, z_i x2), (3, z_i x3), (6, z_i x6), (8, z_i x8), (9, z_i t29)]) 5 dX12_meet_295 rfl (congrArg (HAdd.hAdd x7) (by decide)) (by decide) rfl ?_
    refine x_goto (tgt := 140) dX12_meet_298 (by decide) ?_
    cases h
    exact x_lo [2, 3, 4, 1, 5, 0] rfl k
set_option maxRecDepth 20000 in
theorem k_X12_meet_186 {S0 : ZH} {F : ZP} {n0 : Nat} {x2 : Int32} {x3 : Int32} {x5 : Int32} {x6 : Int32} {x7 : Int32} {x8 : Int32}   {S : ZH} {z : (Int32 × Int32 × ZH) ⊕ (Int32 × ZH)} (h : j_X12_meet_186 n0 x2 x3 x5 x6 x7 x8 S = some z) (k : Sum.elim (fun v : Int32 × Int32 × ZH => Wp Y_X12_meet S0 F 140 [(0, z_r 12 (some n0)), (2, z_i x2), (3, z_i x3), (5, z_i v.1), (6, z_i x6), (7, z_i v.2.1)] [] v.2.2) (fun t => Wp Y_X12_meet S0 F 301 [(0, z_r 12 (some n0)), (2, z_i x2), (3, z_i x3), (5, z_i t.1), (6, z_i x6)] [] t.2) z) : Wp Y_X12_meet S0 (F) 186 [(0, z_r 12 (some n0)), (2, z_i x2), (3, z_i x3), (5, z_i x5), (6, z_i x6), (7, z_i x7), (8, z_i x8)] [] S := by
  unfold j_X12_meet_186 at h
  refine x_iconst (v := (0 : Int32)) dX12_meet_186 (by decide) ?_
  exact x_lo [0, 1, 2, 3, 4, 5, 6] rfl (k_X12_meet_187 h k)
set_option maxRecDepth 20000 in
theorem l_X12_meet_140 {S0 : ZH} {F : ZP} {n0 : Nat} {x2 : Int32} {x3 : Int32} {x6 : Int32} {v : Int32 × Int32 × ZH} {t : Int32 × ZH} (h : z_iter zFU (b_X12_meet_140 n0 x2 x3 x6) v = some t) (k : (fun t => Wp Y_X12_meet S0 F 301 [(0, z_r 12 (some n0)), (2, z_i x2), (3, z_i x3), (5, z_i t.1), (6, z_i x6)] [] t.2) t) : Wp Y_X12_meet S0 F 140 [(0, z_r 12 (some n0)), (2, z_i x2), (3, z_i x3), (5, z_i v.1), (6, z_i x6), (7, z_i v.2.1)] [] v.2.2 := by
  refine z_iter_P (P := fun v : Int32 × Int32 × ZH => Wp Y_X12_meet S0 F 140 [(0, z_r 12 (some n0)), (2, z_i x2), (3, z_i x3), (5, z_i v.1), (6, z_i x6), (7, z_i v.2.1)] [] v.2.2) (X := (fun t => Wp Y_X12_meet S0 F 301 [(0, z_r 12 (some n0)), (2, z_i x2), (3, z_i x3), (5, z_i t.1), (6, z_i x6)] [] t.2)) ?_ _ _ _ h k
  clear h k v t
  intro v r h k
  unfold b_X12_meet_140 at h
  refine x_iload 5 dX12_meet_140 rfl ?_
  refine x_iload_n 1 dX12_meet_142 rfl rfl ?_
  refine x_ic_ge (tgt := 301) dX12_meet_143 (by decide) h (fun h => ?_) (fun h => ?_)
  · cases h
    exact x_lo [0, 1, 2, 3, 4] rfl k
  · refine x_aload_n 0 dX12_meet_146 rfl rfl ?_
    refine x_getR rfl ck_12 28 (by decide) rfl q_1077 dX12_meet_147 ?_
    refine x_iload 5 dX12_meet_150 rfl ?_
    refine x_iload_n 2 dX12_meet_152 rfl rfl ?_
    refine x_imul dX12_meet_153 ?_
    refine x_iload 4 dX12_meet_154 rfl ?_
    refine x_iadd dX12_meet_156 ?_
    refine z_bnd h (fun a17 ha17 h => ?_)
    refine x_iaload ha17 ak_46 dX12_meet_157 h (fun v18 hv18 h => ?_)
    refine x_istore (lo' := [(8, z_i v18), (0, z_r 12 (some n0)), (2, z_i x2), (3, z_i x3), (5, z_i v.1), (6, z_i x6), (7, z_i v.2.1)]) dX12_meet_158 (by decide) rfl ?_
    refine x_aload_n 1 dX12_meet_160 rfl rfl ?_
    refine x_getR rfl ck_12 27 (by decide) rfl q_1076 dX12_meet_161 ?_
    refine x_iload 0 dX12_meet_164 rfl ?_
    refine z_bnd h (fun a19 ha19 h => ?_)
    refine x_iaload ha19 ak_45 dX12_meet_166 h (fun v20 hv20 h => ?_)
    refine x_if_le (tgt := 186) dX12_meet_167 (by decide) h (fun h => ?_) (fun h => ?_)
    · exact x_lo [1, 2, 3, 4, 5, 6, 0] rfl (k_X12_meet_186 h k)
    · refine x_aload_n 1 dX12_meet_170 rfl rfl ?_
      refine x_getR rfl ck_12 29 (by decide) rfl q_1078 dX12_meet_171 ?_
      refine x_iload 0 dX12_meet_174 rfl ?_
      refine z_bnd h (fun a34 ha34 h => ?_)
      refine x_iaload ha34 ak_47 dX12_meet_176 h (fun v35 hv35 h => ?_)
      refine x_bipush (v := (-9 : Int32)) dX12_meet_177 (by decide) ?_
      refine x_ic_ne (tgt := 186) dX12_meet_179 (by decide) h (fun h => ?_) (fun h => ?_)
      · exact x_lo [1, 2, 3, 4, 5, 6, 0] rfl (k_X12_meet_186 h k)
      · refine x_iconst (v := (1 : Int32)) dX12_meet_182 (by decide) ?_
        refine x_goto (tgt := 187) dX12_meet_183 (by decide) ?_
        exact x_lo [1, 2, 3, 4, 5, 6, 0] rfl (k_X12_meet_187 h k)
set_option maxRecDepth 20000 in
theorem l_X12_meet_131 {S0 : ZH} {F : ZP} {n0 : Nat} {x2 : Int32} {x3 : Int32} {v : Int32 × Int32 × ZH} {t : Int32 × ZH} (h : z_iter zFU (b_X12_meet_131 n0 x2 x3) v = some t) (k : (fun t => Wp Y_X12_meet S0 F 307 [(5, z_i t.1)] [] t.2) t) : Wp Y_X12_meet S0 F 131 [(0, z_r 12 (some n0)), (2, z_i x2), (3, z_i x3), (5, z_i v.1), (6, z_i v.2.1)] [] v.2.2 := by
  refine z_iter_P (P := fun v : Int32 × Int32 × ZH => Wp Y_X12_meet S0 F 131 [(0, z_r 12 (some n0)), (2, z_i x2), (3, z_i x3), (5, z_i v.1), (6, z_i v.2.1)] [] v.2.2) (X := (fun t => Wp Y_X12_meet S0 F 307 [(5, z_i t.1)] [] t.2)) ?_ _ _ _ h k
  clear h k v t
  intro v r h k
  unfold b_X12_meet_131 at h
  refine x_iload 4 dX12_meet_131 rfl ?_
  refine x_iload_n 2 dX12_meet_133 rfl rfl ?_
  refine x_ic_ge (tgt := 307) dX12_meet_134 (by decide) h (fun h => ?_) (fun h => ?_)
  · cases h
    exact x_lo [3] rfl k
  · refine x_iconst (v := (0 : Int32)) dX12_meet_137 (by decide) ?_
    refine x_istore (lo' := [(7, z_i (0 : Int32)), (0, z_r 12 (some n0)), (2, z_i x2), (3, z_i x3), (5, z_i v.1), (6, z_i v.2.1)]) dX12_meet_138 (by decide) rfl ?_
    refine z_bnd h (fun t36 ht36 h => ?_)
    refine x_lo [1, 2, 3, 4, 5, 0] rfl ?_
    refine l_X12_meet_140 ht36 ?_
    refine x_iinc (v := (v.2.1 + 1)) (lo' := [(6, z_i (v.2.1 + 1)), (0, z_r 12 (some n0)), (2, z_i x2), (3, z_i x3), (5, z_i t36.1)]) 4 dX12_meet_301 rfl (congrArg (HAdd.hAdd v.2.1) (by decide)) (by decide) rfl ?_
    refine x_goto (tgt := 131) dX12_meet_304 (by decide) ?_
    cases h
    exact x_lo [1, 2, 3, 4, 0] rfl k
set_option maxRecDepth 20000 in
set_option maxHeartbeats 1000000 in
theorem w_X12_meet {n0 : Nat} {x1 : Int32} {x2 : Int32} {x3 : Int32} {S : ZH} {q : Int32 × ZH} (h : f_X12_meet n0 x1 x2 x3 S = some q) : MetX Y_X12_meet S [z_r 12 (some n0), z_i x1, z_i x2, z_i x3] (some (z_i q.1)) q.2 := by
  refine MetX.of (lo := [(0, z_r 12 (some n0)), (1, z_i x1), (2, z_i x2), (3, z_i x3)]) rfl (by decide) (Nat.le_of_ble_eq_true rfl) ?_
  unfold f_X12_meet at h
  refine x_iload_n 1 dX12_meet_0 rfl rfl ?_
  refine x_istore (lo' := [(4, z_i x1), (0, z_r 12 (some n0)), (1, z_i x1), (2, z_i x2), (3, z_i x3)]) dX12_meet_1 (by decide) rfl ?_
  refine x_iload_n 3 dX12_meet_3 rfl rfl ?_
  refine x_iload_n 4 dX12_meet_4 rfl rfl ?_
  refine x_imul dX12_meet_5 ?_
  refine x_iconst (v := (1 : Int32)) dX12_meet_6 (by decide) ?_
  refine x_isub dX12_meet_7 ?_
  refine x_istore (lo' := [(5, z_i ((x2 * x3) - (1 : Int32))), (4, z_i x1), (0, z_r 12 (some n0)), (1, z_i x1), (2, z_i x2), (3, z_i x3)]) dX12_meet_8 (by decide) rfl ?_
  refine z_bnd h (fun t5 ht5 h => ?_)
  refine x_lo [2, 4, 5, 1, 0] rfl ?_
  refine l_X12_meet_10 ht5 ?_
  refine x_iconst (v := (0 : Int32)) dX12_meet_44 (by decide) ?_
  refine x_istore (lo' := [(5, z_i (0 : Int32)), (0, z_r 12 (some n0)), (2, z_i x2), (3, z_i x3)]) dX12_meet_45 (by decide) rfl ?_
  refine z_bnd h (fun t13 ht13 h => ?_)
  refine x_lo [1, 2, 3, 0] rfl ?_
  refine l_X12_meet_47 ht13 ?_
  rcases t13 with t | q
  · have h := (show _ = some _ from h)
    simp only [Sum.elim_inl] at h ⊢
    refine x_iconst (v := (0 : Int32)) dX12_meet_100 (by decide) ?_
    refine x_istore (lo' := [(5, z_i (0 : Int32)), (0, z_r 12 (some n0)), (2, z_i x2), (3, z_i x3)]) dX12_meet_101 (by decide) rfl ?_
    refine z_bnd h (fun t16 ht16 h => ?_)
    refine x_lo [1, 2, 3, 0] rfl ?_
    refine l_X12_meet_103 ht16 ?_
    refine x_iconst (v := (0 : Int32)) dX12_meet_125 (by decide) ?_
    refine x_istore (lo' := [(5, z_i (0 : Int32)), (0, z_r 12 (some n0)), (2, z_i x2), (3, z_i x3)]) dX12_meet_126 (by decide) rfl ?_
    refine x_iconst (v := (0 : Int32)) dX12_meet_128 (by decide) ?_
    refine x_istore (lo' := [(6, z_i (0 : Int32)), (5, z_i (0 : Int32)), (0, z_r 12 (some n0)), (2, z_i x2), (3, z_i x3)]) dX12_meet_129 (by decide) rfl ?_
    refine z_bnd h (fun t37 ht37 h => ?_)
    refine x_lo [2, 3, 4, 1, 0] rfl ?_
    refine l_X12_meet_131 ht37 ?_
    refine x_iload 0 dX12_meet_307 rfl ?_
    exact x_iretE rfl dX12_meet_309 h
  · simp only [Sum.elim_inr] at h ⊢
    cases h
    rfl
-- PressedMenModel look (II)I
abbrev Y_X12_look : ZM := (yX12_look, cX12_look, 7, (some .int), 5, 124)
theorem cw_X12_look : z_CV Y_X12_look 12 2 := ⟨⟨_, _, rfl⟩, by decide, q_1408, q_60, q_1409, q_76, ⟨by decide, by decide⟩, rfl⟩
def b_X12_look_6 (n0 : Nat) (x1 : Int32) (x2 : Int32) (v : Int32 × ZH) : Option ((Int32 × ZH) ⊕ (ZH)) :=
  if (8 : Int32) ≤ v.1 then (
    some (Sum.inr v.2)
  ) else (
    ((zR v.2 12 n0 27)).bind fun a2 =>
    (zst v.2 45 a2 v.1 (0 : Int32)).bind fun S3 =>
    some (Sum.inl ((v.1 + 1), S3))
  )
def b_X12_look_27 (n0 : Nat) (x1 : Int32) (x2 : Int32) (v : Int32 × ZH) : Option ((Int32 × ZH) ⊕ (ZH)) :=
  if (zI v.2 12 n0 5) ≤ v.1 then (
    some (Sum.inr v.2)
  ) else (
    (f_X12_placeOf n0 v.1 v.2).bind fun q5 =>
    (f_X12_isStreet q5 v.2).bind fun q6 =>
    if q6 = 0 then (
      some (Sum.inl ((v.1 + 1), v.2))
    ) else (
      (f_X12_truly n0 v.1 v.2).bind fun q7 =>
      if q7.1 = 0 then (
        some (Sum.inl ((v.1 + 1), q7.2))
      ) else (
        (f_X12_placeOf n0 v.1 q7.2).bind fun q8 =>
        ((zR q7.2 12 n0 27)).bind fun a9 =>
        (zld q7.2 45 a9 q8).bind fun v10 =>
        ((zR q7.2 12 n0 27)).bind fun a11 =>
        (zst q7.2 45 a11 q8 (v10 + (1 : Int32))).bind fun S12 =>
        some (Sum.inl ((v.1 + 1), S12))
      )
    )
  )
def b_X12_look_79 (n0 : Nat) (x1 : Int32) (x2 : Int32) (S : ZH) (v : Int32 × Int32) : Option ((Int32 × Int32) ⊕ (Int32)) :=
  if (x1 * x2) ≤ v.2 then (
    some (Sum.inr v.1)
  ) else (
    some (Sum.inl ((v.1 * (zI S 12 n0 1)), (v.2 + 1)))
  )
def b_X12_look_107 (n0 : Nat) (x1 : Int32) (x2 : Int32) (x3 : Int32) (v : Int32 × Int32 × ZH) : Option ((Int32 × Int32 × ZH) ⊕ (Int32 × ZH)) :=
  if x3 ≤ v.2.1 then (
    some (Sum.inr (v.1, v.2.2))
  ) else (
    (f_X12_meet n0 v.2.1 x1 x2 v.2.2).bind fun q15 =>
    if q15.1 ≤ v.1 then (
      some (Sum.inl (v.1, (v.2.1 + 1), q15.2))
    ) else (
      some (Sum.inl (q15.1, (v.2.1 + 1), (zsI q15.2 12 n0 30 v.2.1)))
    )
  )
def f_X12_look (n0 : Nat) (x1 : Int32) (x2 : Int32) (S : ZH) : Option (Int32 × ZH) :=
  (f_X12_measure n0 S).bind fun q1 =>
  (z_iter zFU (b_X12_look_6 n0 x1 x2) ((0 : Int32), q1)).bind fun t4 =>
  (z_iter zFU (b_X12_look_27 n0 x1 x2) ((0 : Int32), t4)).bind fun t13 =>
  (z_iter zFU (b_X12_look_79 n0 x1 x2 t13) ((1 : Int32), (0 : Int32))).bind fun t14 =>
  (z_iter zFU (b_X12_look_107 n0 x1 x2 t14) ((-9 : Int32), (0 : Int32), t13)).bind fun t16 =>
  some (t16.1, t16.2)
set_option maxRecDepth 20000 in
theorem l_X12_look_6 {S0 : ZH} {F : ZP} {n0 : Nat} {x1 : Int32} {x2 : Int32} {v : Int32 × ZH} {t : ZH} (h : z_iter zFU (b_X12_look_6 n0 x1 x2) v = some t) (k : (fun t => Wp Y_X12_look S0 F 25 [(0, z_r 12 (some n0)), (1, z_i x1), (2, z_i x2)] [] t) t) : Wp Y_X12_look S0 F 6 [(0, z_r 12 (some n0)), (1, z_i x1), (2, z_i x2), (3, z_i v.1)] [] v.2 := by
  refine z_iter_P (P := fun v : Int32 × ZH => Wp Y_X12_look S0 F 6 [(0, z_r 12 (some n0)), (1, z_i x1), (2, z_i x2), (3, z_i v.1)] [] v.2) (X := (fun t => Wp Y_X12_look S0 F 25 [(0, z_r 12 (some n0)), (1, z_i x1), (2, z_i x2)] [] t)) ?_ _ _ _ h k
  clear h k v t
  intro v r h k
  unfold b_X12_look_6 at h
  refine x_iload_n 3 dX12_look_6 rfl rfl ?_
  refine x_bipush (v := (8 : Int32)) dX12_look_7 (by decide) ?_
  refine x_ic_ge (tgt := 25) dX12_look_9 (by decide) h (fun h => ?_) (fun h => ?_)
  · cases h
    exact x_lo [0, 1, 2] rfl k
  · refine x_aload_n 0 dX12_look_12 rfl rfl ?_
    refine x_getR rfl ck_12 27 (by decide) rfl q_1076 dX12_look_13 ?_
    refine x_iload_n 3 dX12_look_16 rfl rfl ?_
    refine x_iconst (v := (0 : Int32)) dX12_look_17 (by decide) ?_
    refine z_bnd h (fun a2 ha2 h => ?_)
    refine x_iastore ha2 ak_45 dX12_look_18 h (fun S3 hS3 h => ?_)
    refine x_iinc (v := (v.1 + 1)) (lo' := [(3, z_i (v.1 + 1)), (0, z_r 12 (some n0)), (1, z_i x1), (2, z_i x2)]) 3 dX12_look_19 rfl (congrArg (HAdd.hAdd v.1) (by decide)) (by decide) rfl ?_
    refine x_goto (tgt := 6) dX12_look_22 (by decide) ?_
    cases h
    exact x_lo [1, 2, 3, 0] rfl k
set_option maxRecDepth 20000 in
theorem l_X12_look_27 {S0 : ZH} {F : ZP} {n0 : Nat} {x1 : Int32} {x2 : Int32} {v : Int32 × ZH} {t : ZH} (h : z_iter zFU (b_X12_look_27 n0 x1 x2) v = some t) (k : (fun t => Wp Y_X12_look S0 F 74 [(0, z_r 12 (some n0)), (1, z_i x1), (2, z_i x2)] [] t) t) : Wp Y_X12_look S0 F 27 [(0, z_r 12 (some n0)), (1, z_i x1), (2, z_i x2), (3, z_i v.1)] [] v.2 := by
  refine z_iter_P (P := fun v : Int32 × ZH => Wp Y_X12_look S0 F 27 [(0, z_r 12 (some n0)), (1, z_i x1), (2, z_i x2), (3, z_i v.1)] [] v.2) (X := (fun t => Wp Y_X12_look S0 F 74 [(0, z_r 12 (some n0)), (1, z_i x1), (2, z_i x2)] [] t)) ?_ _ _ _ h k
  clear h k v t
  intro v r h k
  unfold b_X12_look_27 at h
  refine x_iload_n 3 dX12_look_27 rfl rfl ?_
  refine x_aload_n 0 dX12_look_28 rfl rfl ?_
  refine x_getI rfl ck_12 5 (by decide) rfl q_1054 dX12_look_29 ?_
  refine x_ic_ge (tgt := 74) dX12_look_32 (by decide) h (fun h => ?_) (fun h => ?_)
  · cases h
    exact x_lo [0, 1, 2] rfl k
  · refine x_aload_n 0 dX12_look_35 rfl rfl ?_
    refine x_iload_n 3 dX12_look_36 rfl rfl ?_
    refine z_bnd h (fun q5 hq5 h => ?_)
    refine x_callV1 rfl (w_X12_placeOf hq5) cw_X12_placeOf q_1229 ⟨by decide, by decide⟩ (Nat.le_of_ble_eq_true rfl) dX12_look_37 rfl ?_
    refine z_bnd h (fun q6 hq6 h => ?_)
    refine x_callS1 (w_X12_isStreet hq6) cw_X12_isStreet q_1245 ⟨by decide, by decide⟩ (Nat.le_of_ble_eq_true rfl) dX12_look_40 rfl ?_
    refine x_if_eq (tgt := 68) dX12_look_43 (by decide) h (fun h => ?_) (fun h => ?_)
    · refine x_iinc (v := (v.1 + 1)) (lo' := [(3, z_i (v.1 + 1)), (0, z_r 12 (some n0)), (1, z_i x1), (2, z_i x2)]) 3 dX12_look_68 rfl (congrArg (HAdd.hAdd v.1) (by decide)) (by decide) rfl ?_
      refine x_goto (tgt := 27) dX12_look_71 (by decide) ?_
      cases h
      exact x_lo [1, 2, 3, 0] rfl k
    · refine x_aload_n 0 dX12_look_46 rfl rfl ?_
      refine x_iload_n 3 dX12_look_47 rfl rfl ?_
      refine z_bnd h (fun q7 hq7 h => ?_)
      refine x_callV1 rfl (w_X12_truly hq7) cw_X12_truly q_1353 ⟨by decide, by decide⟩ (Nat.le_of_ble_eq_true rfl) dX12_look_48 rfl ?_
      refine x_if_eq (tgt := 68) dX12_look_51 (by decide) h (fun h => ?_) (fun h => ?_)
      · refine x_iinc (v := (v.1 + 1)) (lo' := [(3, z_i (v.1 + 1)), (0, z_r 12 (some n0)), (1, z_i x1), (2, z_i x2)]) 3 dX12_look_68 rfl (congrArg (HAdd.hAdd v.1) (by decide)) (by decide) rfl ?_
        refine x_goto (tgt := 27) dX12_look_71 (by decide) ?_
        cases h
        exact x_lo [1, 2, 3, 0] rfl k
      · refine x_aload_n 0 dX12_look_54 rfl rfl ?_
        refine x_getR rfl ck_12 27 (by decide) rfl q_1076 dX12_look_55 ?_
        refine x_aload_n 0 dX12_look_58 rfl rfl ?_
        refine x_iload_n 3 dX12_look_59 rfl rfl ?_
        refine z_bnd h (fun q8 hq8 h => ?_)
        refine x_callV1 rfl (w_X12_placeOf hq8) cw_X12_placeOf q_1229 ⟨by decide, by decide⟩ (Nat.le_of_ble_eq_true rfl) dX12_look_60 rfl ?_
        refine x_dup2 dX12_look_63 rfl rfl ?_
        refine z_bnd h (fun a9 ha9 h => ?_)
        refine x_iaload ha9 ak_45 dX12_look_64 h (fun v10 hv10 h => ?_)
        refine x_iconst (v := (1 : Int32)) dX12_look_65 (by decide) ?_
        refine x_iadd dX12_look_66 ?_
        refine z_bnd h (fun a11 ha11 h => ?_)
        refine x_iastore ha11 ak_45 dX12_look_67 h (fun S12 hS12 h => ?_)
        refine x_iinc (v := (v.1 + 1)) (lo' := [(3, z_i (v.1 + 1)), (0, z_r 12 (some n0)), (1, z_i x1), (2, z_i x2)]) 3 dX12_look_68 rfl (congrArg (HAdd.hAdd v.1) (by decide)) (by decide) rfl ?_
        refine x_goto (tgt := 27) dX12_look_71 (by decide) ?_
        cases h
        exact x_lo [1, 2, 3, 0] rfl k
set_option maxRecDepth 20000 in
theorem l_X12_look_79 {S0 : ZH} {F : ZP} {n0 : Nat} {x1 : Int32} {x2 : Int32} {S : ZH} {v : Int32 × Int32} {t : Int32} (h : z_iter zFU (b_X12_look_79 n0 x1 x2 S) v = some t) (k : (fun t => Wp Y_X12_look S0 F 100 [(0, z_r 12 (some n0)), (1, z_i x1), (2, z_i x2), (3, z_i t)] [] S) t) : Wp Y_X12_look S0 F 79 [(0, z_r 12 (some n0)), (1, z_i x1), (2, z_i x2), (3, z_i v.1), (4, z_i v.2)] [] S := by
  refine z_iter_P (P := fun v : Int32 × Int32 => Wp Y_X12_look S0 F 79 [(0, z_r 12 (some n0)), (1, z_i x1), (2, z_i x2), (3, z_i v.1), (4, z_i v.2)] [] S) (X := (fun t => Wp Y_X12_look S0 F 100 [(0, z_r 12 (some n0)), (1, z_i x1), (2, z_i x2), (3, z_i t)] [] S)) ?_ _ _ _ h k
  clear h k v t
  intro v r h k
  unfold b_X12_look_79 at h
  refine x_iload 4 dX12_look_79 rfl ?_
  refine x_iload_n 1 dX12_look_81 rfl rfl ?_
  refine x_iload_n 2 dX12_look_82 rfl rfl ?_
  refine x_imul dX12_look_83 ?_
  refine x_ic_ge (tgt := 100) dX12_look_84 (by decide) h (fun h => ?_) (fun h => ?_)
  · cases h
    exact x_lo [0, 1, 2, 3] rfl k
  · refine x_iload_n 3 dX12_look_87 rfl rfl ?_
    refine x_aload_n 0 dX12_look_88 rfl rfl ?_
    refine x_getI rfl ck_12 1 (by decide) rfl q_1050 dX12_look_89 ?_
    refine x_imul dX12_look_92 ?_
    refine x_istore_n (lo' := [(3, z_i (v.1 * (zI S 12 n0 1))), (0, z_r 12 (some n0)), (1, z_i x1), (2, z_i x2), (4, z_i v.2)]) dX12_look_93 rfl (by decide) rfl ?_
    refine x_iinc (v := (v.2 + 1)) (lo' := [(4, z_i (v.2 + 1)), (3, z_i (v.1 * (zI S 12 n0 1))), (0, z_r 12 (some n0)), (1, z_i x1), (2, z_i x2)]) 4 dX12_look_94 rfl (congrArg (HAdd.hAdd v.2) (by decide)) (by decide) rfl ?_
    refine x_goto (tgt := 79) dX12_look_97 (by decide) ?_
    cases h
    exact x_lo [2, 3, 4, 1, 0] rfl k
set_option maxRecDepth 20000 in
theorem l_X12_look_107 {S0 : ZH} {F : ZP} {n0 : Nat} {x1 : Int32} {x2 : Int32} {x3 : Int32} {v : Int32 × Int32 × ZH} {t : Int32 × ZH} (h : z_iter zFU (b_X12_look_107 n0 x1 x2 x3) v = some t) (k : (fun t => Wp Y_X12_look S0 F 146 [(4, z_i t.1)] [] t.2) t) : Wp Y_X12_look S0 F 107 [(0, z_r 12 (some n0)), (1, z_i x1), (2, z_i x2), (3, z_i x3), (4, z_i v.1), (5, z_i v.2.1)] [] v.2.2 := by
  refine z_iter_P (P := fun v : Int32 × Int32 × ZH => Wp Y_X12_look S0 F 107 [(0, z_r 12 (some n0)), (1, z_i x1), (2, z_i x2), (3, z_i x3), (4, z_i v.1), (5, z_i v.2.1)] [] v.2.2) (X := (fun t => Wp Y_X12_look S0 F 146 [(4, z_i t.1)] [] t.2)) ?_ _ _ _ h k
  clear h k v t
  intro v r h k
  unfold b_X12_look_107 at h
  refine x_iload 5 dX12_look_107 rfl ?_
  refine x_iload_n 3 dX12_look_109 rfl rfl ?_
  refine x_ic_ge (tgt := 146) dX12_look_110 (by decide) h (fun h => ?_) (fun h => ?_)
  · cases h
    exact x_lo [4] rfl k
  · refine x_aload_n 0 dX12_look_113 rfl rfl ?_
    refine x_iload 5 dX12_look_114 rfl ?_
    refine x_iload_n 1 dX12_look_116 rfl rfl ?_
    refine x_iload_n 2 dX12_look_117 rfl rfl ?_
    refine z_bnd h (fun q15 hq15 h => ?_)
    refine x_callV1 rfl (w_X12_meet hq15) cw_X12_meet q_1410 ⟨by decide, by decide⟩ (Nat.le_of_ble_eq_true rfl) dX12_look_118 rfl ?_
    refine x_istore (lo' := [(6, z_i q15.1), (0, z_r 12 (some n0)), (1, z_i x1), (2, z_i x2), (3, z_i x3), (4, z_i v.1), (5, z_i v.2.1)]) dX12_look_121 (by decide) rfl ?_
    refine x_iload 0 dX12_look_123 rfl ?_
    refine x_iload 5 dX12_look_125 rfl ?_
    refine x_ic_le (tgt := 140) dX12_look_127 (by decide) h (fun h => ?_) (fun h => ?_)
    · refine x_iinc (v := (v.2.1 + 1)) (lo' := [(5, z_i (v.2.1 + 1)), (6, z_i q15.1), (0, z_r 12 (some n0)), (1, z_i x1), (2, z_i x2), (3, z_i x3), (4, z_i v.1)]) 6 dX12_look_140 rfl (congrArg (HAdd.hAdd v.2.1) (by decide)) (by decide) rfl ?_
      refine x_goto (tgt := 107) dX12_look_143 (by decide) ?_
      cases h
      exact x_lo [2, 3, 4, 5, 6, 0] rfl k
    · refine x_iload 0 dX12_look_130 rfl ?_
      refine x_istore (lo' := [(4, z_i q15.1), (6, z_i q15.1), (0, z_r 12 (some n0)), (1, z_i x1), (2, z_i x2), (3, z_i x3), (5, z_i v.2.1)]) dX12_look_132 (by decide) rfl ?_
      refine x_aload_n 2 dX12_look_134 rfl rfl ?_
      refine x_iload 6 dX12_look_135 rfl ?_
      refine x_putI rfl ck_12 30 (by decide) rfl (Or.inl rfl) (by rfl) rfl q_1079 dX12_look_137 ?_
      refine x_iinc (v := (v.2.1 + 1)) (lo' := [(5, z_i (v.2.1 + 1)), (4, z_i q15.1), (6, z_i q15.1), (0, z_r 12 (some n0)), (1, z_i x1), (2, z_i x2), (3, z_i x3)]) 6 dX12_look_140 rfl (congrArg (HAdd.hAdd v.2.1) (by decide)) (by decide) rfl ?_
      refine x_goto (tgt := 107) dX12_look_143 (by decide) ?_
      cases h
      exact x_lo [3, 4, 5, 6, 1, 0] rfl k
set_option maxRecDepth 20000 in
set_option maxHeartbeats 1000000 in
theorem w_X12_look {n0 : Nat} {x1 : Int32} {x2 : Int32} {S : ZH} {q : Int32 × ZH} (h : f_X12_look n0 x1 x2 S = some q) : MetX Y_X12_look S [z_r 12 (some n0), z_i x1, z_i x2] (some (z_i q.1)) q.2 := by
  refine MetX.of (lo := [(0, z_r 12 (some n0)), (1, z_i x1), (2, z_i x2)]) rfl (by decide) (Nat.le_of_ble_eq_true rfl) ?_
  unfold f_X12_look at h
  refine x_aload_n 0 dX12_look_0 rfl rfl ?_
  refine z_bnd h (fun q1 hq1 h => ?_)
  refine x_callVv rfl (w_X12_measure hq1) cw_X12_measure q_1187 ⟨by decide, by decide⟩ (Nat.le_of_ble_eq_true rfl) dX12_look_1 rfl ?_
  refine x_iconst (v := (0 : Int32)) dX12_look_4 (by decide) ?_
  refine x_istore_n (lo' := [(3, z_i (0 : Int32)), (0, z_r 12 (some n0)), (1, z_i x1), (2, z_i x2)]) dX12_look_5 rfl (by decide) rfl ?_
  refine z_bnd h (fun t4 ht4 h => ?_)
  refine x_lo [1, 2, 3, 0] rfl ?_
  refine l_X12_look_6 ht4 ?_
  refine x_iconst (v := (0 : Int32)) dX12_look_25 (by decide) ?_
  refine x_istore_n (lo' := [(3, z_i (0 : Int32)), (0, z_r 12 (some n0)), (1, z_i x1), (2, z_i x2)]) dX12_look_26 rfl (by decide) rfl ?_
  refine z_bnd h (fun t13 ht13 h => ?_)
  refine x_lo [1, 2, 3, 0] rfl ?_
  refine l_X12_look_27 ht13 ?_
  refine x_iconst (v := (1 : Int32)) dX12_look_74 (by decide) ?_
  refine x_istore_n (lo' := [(3, z_i (1 : Int32)), (0, z_r 12 (some n0)), (1, z_i x1), (2, z_i x2)]) dX12_look_75 rfl (by decide) rfl ?_
  refine x_iconst (v := (0 : Int32)) dX12_look_76 (by decide) ?_
  refine x_istore (lo' := [(4, z_i (0 : Int32)), (3, z_i (1 : Int32)), (0, z_r 12 (some n0)), (1, z_i x1), (2, z_i x2)]) dX12_look_77 (by decide) rfl ?_
  refine z_bnd h (fun t14 ht14 h => ?_)
  refine x_lo [2, 3, 4, 1, 0] rfl ?_
  refine l_X12_look_79 ht14 ?_
  refine x_bipush (v := (-9 : Int32)) dX12_look_100 (by decide) ?_
  refine x_istore (lo' := [(4, z_i (-9 : Int32)), (0, z_r 12 (some n0)), (1, z_i x1), (2, z_i x2), (3, z_i t14)]) dX12_look_102 (by decide) rfl ?_
  refine x_iconst (v := (0 : Int32)) dX12_look_104 (by decide) ?_
  refine x_istore (lo' := [(5, z_i (0 : Int32)), (4, z_i (-9 : Int32)), (0, z_r 12 (some n0)), (1, z_i x1), (2, z_i x2), (3, z_i t14)]) dX12_look_105 (by decide) rfl ?_
  refine z_bnd h (fun t16 ht16 h => ?_)
  refine x_lo [2, 3, 4, 5, 1, 0] rfl ?_
  refine l_X12_look_107 ht16 ?_
  refine x_iload 0 dX12_look_146 rfl ?_
  exact x_iretE rfl dX12_look_148 h
