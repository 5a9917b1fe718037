theorem row_N {A : ZA} {k b : Nat} {f : Nat → Int32} (n j : Nat) : aN (A_row A k b f n) j = aN A j := by unfold aN; rw [row_1]
def rchB (A : ZA) (p : Int32) : Bool := stB p || (hereB A p && shipKB A 1 p)
theorem reach_C {A : ZA} {S : ZH} (hA : AIn A) (h : RC A S) {p : Int32} (hp : isPl A p) : f_X11_isWithinReach 0 p S = some (pC (rchB A p)) := by
  unfold f_X11_isWithinReach rchB
  refine (o_b (isStreetC p S)).trans ?_
  cases stB p with
  | true => rfl
  | false =>
    rw [if_neg (by decide)]
    refine (o_b (inShip_eq hA h hp)).trans ?_
    cases hereB A p with
    | false => rfl
    | true =>
      rw [if_neg (by decide)]
      refine (o_b (inShipOf_eq hA h hp)).trans ?_
      cases shipKB A 1 p <;> rfl
theorem reach_M {A : ZA} {S : ZH} (hA : AIn A) (h : MV A S) {m : Nat} {y : Int32} (hm : m < aN A 5) : j_X12_take_29 0 (nI m) y S = if rchB A (aP A m) = true then j_X12_take_66 0 (nI m) y (aP A m) S else some (-3, S) := by
  have c9 := hA.c9.2
  unfold j_X12_take_29 rchB
  refine (o_b (placeOf_eq hA h hm)).trans ?_
  refine (o_b (isStreetM _ S)).trans ?_
  cases hs : stB (aP A m) with
  | true => rfl
  | false =>
    rw [if_neg (by decide)]
    refine (o_b (isHere_eq hA h (hA.aP hm))).trans ?_
    cases hh : hereB A (aP A m) with
    | false => rfl
    | true =>
      have hr : rg (aP A m) 10 19 := by unfold hereB at hh; simp only [decide_eq_true_eq] at hh; exact hh.1
      obtain ⟨s, hs2, e⟩ := isPl_ship hA (hA.aP hm) hr
      rw [if_neg (by decide), e, ship_sub (by omega), shipKB_ship (by omega)]
      refine (o_b (h.ref 10 rfl)).trans ?_
      refine (o_b (h.ld 10 rfl rfl (by omega) (by decide))).trans ?_
      by_cases e3 : A.2 34 s = 1
      · rw [if_pos e3, if_pos (by simp [e3])]
      · rw [if_neg e3, if_neg (by simp [e3])]
theorem ix6' (i : Nat) : (6 : Int32) * nI i = nI (6 * i) := by
  rw [show (6 : Int32) = nI 6 from rfl, nI_mul]
theorem if01 {α : Type} {x : Int32} (h : b01 x) (j : Int32 → α) : (if x = 0 then j 0 else j 1) = j x := by
  rcases h with rfl | rfl
  · rw [if_pos rfl]
  · rw [if_neg (by decide)]
theorem op_take {A : ZA} (hA : AIn A) (x y : Int32) : OpE A (f_X11_take 0 x y) (f_X12_take 0 x y) := by
  have c := hA.c22
  have c2 := c.2
  have c4 := hA.c4
  have c5 := hA.c5.2
  by_cases hx : isIx (aN A 5) x
  · obtain ⟨m, hm, rfl⟩ := hx
    by_cases hy : y = -9 ∨ isIx (aN A 15) y
    · have eM : ∀ S, MV A S → f_X12_take 0 (nI m) y S = if rchB A (aP A m) = true then j_X12_take_66 0 (nI m) y (aP A m) (tS S) else some (-3, tS S) := by
        intro S h
        rw [← reach_M hA h.t hm]
        unfold f_X12_take
        refine (o_b (noMan_ix hA h.t hm)).trans ?_
        rw [if_neg (by decide)]
        by_cases h9 : y = -9
        · rw [if_pos h9]
        · obtain ⟨p, hp, rfl⟩ : isIx (aN A 15) y := by rcases hy with e | e; exact absurd e h9; exact e
          rw [if_neg h9]
          refine (o_b (noPaper_ix hA h.t hp)).trans ?_
          rw [if_pos rfl]
      by_cases hr : rchB A (aP A m) = true
      · by_cases h60 : aN A 22 < 60
        · generalize hf : pl9 (A.1 4) (nI m) y (aP A m) (mB A m (shC A m y)) (mB A m (pC (cvT A m (aN A 15)))) 0 0 0 = f
          have f0 : f 0 = A.1 4 := by rw [← hf]; rfl
          have f1 : f 1 = nI m := by rw [← hf]; rfl
          have f2 : f 2 = y := by rw [← hf]; rfl
          have f3 : f 3 = aP A m := by rw [← hf]; rfl
          have f4 : f 4 = mB A m (shC A m y) := by rw [← hf]; rfl
          have f5 : f 5 = mB A m (pC (cvT A m (aN A 15))) := by rw [← hf]; rfl
          have rlt : ∀ q, q < 6 * aN A 22 → (A_row A 44 (6 * aN A 22) f 6).2 44 q = A.2 44 q := fun q hq => by rw [row_at, if_neg (by omega)]
          have rat : ∀ j, j < 6 → (A_row A 44 (6 * aN A 22) f 6).2 44 (6 * aN A 22 + j) = f j := fun j hj => by rw [row_at, if_pos (by omega)]; congr 1; omega
          have rat0 : (A_row A 44 (6 * aN A 22) f 6).2 44 (6 * aN A 22) = f 0 := rat 0 (by omega)
          have htk := tk_eq (A := A) (f := f)
          have hpl3 : isIx (aN A 1) (aP A m) ∨ rg (aP A m) 10 19 := by
            rcases hA.aP hm with e | ⟨s, hs, e⟩ | e
            · exact Or.inl e
            · refine Or.inr ?_
              have := hA.c9.2
              rw [e]
              constructor <;> rw [nI_toInt (by omega)] <;> omega
            · exfalso
              unfold rchB stB hereB shipKB at hr
              rcases e with e | e | e | e <;> rw [e] at hr <;> revert hr <;> simp (decide := true)
          have hA2 : AIn (A_tk A f) := by
            rw [htk]
            refine tk_AIn hA h60 rlt ?_ ?_ ?_ ?_ ?_ ?_
            · rw [rat0, f0]; exact ⟨aN A 4, by omega, c4.1⟩
            · rw [rat 1 (by omega), f1]; exact ⟨m, hm, rfl⟩
            · rw [rat 2 (by omega), f2]; exact hy
            · rw [rat 3 (by omega), f3]; exact hpl3
            · rw [rat 4 (by omega), f4]; exact mB_b
            · rw [rat 5 (by omega), f5]; exact mB_b
          have en : ∀ j, j ≠ 22 → aN (A_tk A f) j = aN A j := fun j hj => by
            unfold A_tk aF aN
            dsimp only
            rw [if_neg hj, row_1]
          have hm2 : m < aN (A_tk A f) 5 := by rw [en 5 (by decide)]; exact hm
          have h20 : isPl (A_tk A f) 20 := Or.inr (Or.inr (Or.inl rfl))
          refine ⟨nI (aN A 22), A_go (A_tk A f) m 20, go_AIn hA2 hm2 h20, fun S h => ?_, fun S h => ?_⟩
          · have ez : zN S 8 = aN A 22 := h.tks.2.2.1
            have hrm := h.rm hA
            have hmen := tk_men hA h hm h60 rlt (by rw [rat 1 (by omega), f1])
            have hRC := tk_RC hA h hm h60 rlt (by rw [rat 1 (by omega), f1])
            rw [← htk] at hmen hRC
            generalize hST : S_tk S m (aN A 22) ((A_row A 44 (6 * aN A 22) f 6).2 44) = T at *
            have hzc : zc T = zc S + 1 := by rw [← hST]; rfl
            have hzs : zs T = zs S + 6 := by rw [← hST]; rfl
            obtain ⟨T1, e1, g1⟩ := goTo_eq2 (p := 20) hA2 hmen ⟨by omega, by omega⟩ hm2
            have hG := g1.add (k := aN A 22)
            have hfin := hG.rc hA2 hRC hm2 (by decide)
            have k5 : eqK T T1 5 := by
              obtain ⟨m', c', g, -⟩ := g1
              exact g.1 5 (by decide) (by decide) (by decide)
            have k19 : eqK T T1 19 := by
              obtain ⟨m', c', g, -⟩ := g1
              exact g.1 19 (by decide) (by decide) (by decide)
            have k11 : eqK T T1 11 := by
              obtain ⟨m', c', g, -⟩ := g1
              exact g.1 11 (by decide) (by decide) (by decide)
            have t5 : zI T 5 0 0 = nI (aN A 22) := by rw [← hST]; exact (h.nTk hA : zI S 5 0 0 = nI (aN A 22))
            have t51 : zR T 5 0 1 = some 0 := by rw [← hST]; exact h.ref 5 1 rfl
            have t19 : zL T 19 0 = 60 := by rw [← hST]; exact h.len 19 60 rfl
            have t11 : zR T 11 0 7 = some 0 := by rw [← hST]; exact h.ref 11 7 rfl
            have t1116 : zI T 11 0 16 = A.1 4 := by rw [← hST]; exact h.misc.1
            refine ⟨S_add T1 (aN A 22), ?_, hfin, ?_⟩
            · unfold f_X11_take
              refine (o_b (findMan_ix hA h hm)).trans ?_
              rw [if_neg (by simp)]
              refine (o_b ((papOrNone_eq hA h y).1 hy)).trans ?_
              rw [if_pos (by decide)]
              refine (o_b (a := m) rfl).trans ?_
              rw [h.pl hm]
              refine (o_b (reach_C hA h (hA.aP hm))).trans ?_
              rw [hr, if_pos (by decide)]
              refine (o_b (h.ref 11 7 rfl)).trans ?_
              rw [h.nTk hA, if_pos (by rw [show (60 : Int32) = nI 60 from rfl, nI_lt_iff (by omega) (by decide)]; exact h60)]
              refine (o_b (h.al hA (by omega))).trans ?_
              refine (o_b (mas_new.trans (mayShown_eq hA h hm hy))).trans ?_
              refine (o_b (mit_new.trans (mayTruth_eq hA h hm))).trans ?_
              have hin : f_X8_init (zN S 8) (zI (zNew S 8 6) 11 0 16) (nI m) y (zI (zNew S 8 6) 3 m 8) (mB A m (shC A m y)) (mB A m (pC (cvT A m (aN A 15)))) (zNew S 8 6) = some (zsI (zsI (zsI (zsI (zsI (zsI (zNew S 8 6) 8 (aN A 22) 0 (A.1 4)) 8 (aN A 22) 1 (nI m)) 8 (aN A 22) 2 y) 8 (aN A 22) 3 (aP A m)) 8 (aN A 22) 4 (mB A m (shC A m y))) 8 (aN A 22) 5 (mB A m (pC (cvT A m (aN A 15))))) := by
                have q1 : zI (zNew S 8 6) 11 0 16 = A.1 4 := h.misc.1
                have q2 : zI (zNew S 8 6) 3 m 8 = aP A m := h.pl hm
                unfold f_X8_init
                rw [if_pos (zb1 mB_b), if_pos (zb1 mB_b), q1, q2, ez]
              refine (o_b hin).trans ?_
              have hT : zsR (zsI (zsI (zsI (zsI (zsI (zsI (zNew S 8 6) 8 (aN A 22) 0 (A.1 4)) 8 (aN A 22) 1 (nI m)) 8 (aN A 22) 2 y) 8 (aN A 22) 3 (aP A m)) 8 (aN A 22) 4 (mB A m (shC A m y))) 8 (aN A 22) 5 (mB A m (pC (cvT A m (aN A 15))))) 3 m 10 (some (zN S 8)) = T := by
                rw [← hST, ez]
                unfold S_tk
                rw [rat0, rat 1 (by omega), rat 2 (by omega), rat 3 (by omega), rat 4 (by omega), rat 5 (by omega), f0, f1, f2, f3, f4, f5]
              rw [hT, t1116, c4.1, ← en 4 (by decide)]
              refine (o_b e1).trans ?_
              dsimp only
              refine (o_b (by rw [k11.2.2.2]; exact t11)).trans ?_
              have hadd : f_X5_add 0 (some (zN S 8)) T1 = some (S_add T1 (aN A 22)) := by
                have q5 : zI T1 5 0 0 = nI (aN A 22) := by rw [k5.2.2.1]; exact t5
                have q51 : zR T1 5 0 1 = some 0 := by rw [k5.2.2.2]; exact t51
                have q19 : zL T1 19 0 = 60 := by rw [k19.2.1]; exact t19
                unfold f_X5_add
                refine (o_b q51).trans ?_
                rw [q19, q5, if_neg (by rw [nI_leI (by omega) (by omega)]; omega)]
                refine (o_b q51).trans ?_
                refine (o_b (a := zN S 8) rfl).trans ?_
                refine (zstR_b q19 h60 (by decide)).trans ?_
                rw [show zI (zsR T1 19 0 (aN A 22) (some (zN S 8))) 5 0 0 = nI (aN A 22) from q5, nI_1, ez]
                rfl
              refine (o_b hadd).trans ?_
              have q11 : zR (S_add T1 (aN A 22)) 11 0 7 = some 0 := by
                show zR (zsR T1 19 0 (aN A 22) (some (aN A 22))) 11 0 7 = _
                rw [zR_ne (by decide), k11.2.2.2]; exact t11
              refine (o_b q11).trans ?_
              show some (zI (zsI _ 5 0 0 (nI (aN A 22 + 1))) 5 0 0 - 1, _) = _
              rw [zI_sI, if_pos ⟨rfl, rfl⟩, nI_pred]
            · have fr1 : frM S T := by
                rw [← hST]
                unfold S_tk
                exact (frM_new (nM 8 rfl)).tr ((frM_sI (nM 8 rfl)).tr ((frM_sI (nM 8 rfl)).tr ((frM_sI (nM 8 rfl)).tr ((frM_sI (nM 8 rfl)).tr ((frM_sI (nM 8 rfl)).tr ((frM_sI (nM 8 rfl)).tr (frM_sR (nM 3 rfl))))))))
              exact fr1.tr (g1.fr.tr ((frM_sR (nM 19 rfl)).tr (frM_sI (nM 5 rfl))))
          · have e22 : zI (tS S) 12 0 22 = nI (aN A 22) := h.t.nTk hA
            have hl : zL (tS S) 44 0 = 360 := h.t.len 44 360 rfl
            have hA4 := row_AIn hA (f := f) 4
            have hM4 := h.t.row (k := 44) (b := 6 * aN A 22) (f := f) (by decide) 4
            have hm4 : m < aN (A_row A 44 (6 * aN A 22) f 4) 5 := by rw [row_N]; exact hm
            have hy4 : y = -9 ∨ isIx (aN (A_row A 44 (6 * aN A 22) f 4) 15) y := by rw [row_N]; exact hy
            obtain ⟨S12, e12, fr12⟩ := asShown_eq hA4 hM4 hm4 hy4
            have hM12 := hM4.FR (by omega) fr12
            have v12 : mB (A_row A 44 (6 * aN A 22) f 4) m (shC (A_row A 44 (6 * aN A 22) f 4) m y) = f 4 := by
              rw [row_AW, mB_AW, shC_AW, f4]
            rw [v12] at e12
            have hM5 : MV (A_row A 44 (6 * aN A 22) f 5) (zsI S12 44 0 (6 * aN A 22 + 4) (f 4)) := hM12.R 44 _ _ (by decide)
            have hA5 := row_AIn hA (f := f) 5
            have hm5 : m < aN (A_row A 44 (6 * aN A 22) f 5) 5 := by rw [row_N]; exact hm
            obtain ⟨S15, e15, fr15⟩ := truly_eq hA5 hM5 hm5
            have hM15 := hM5.FR (by omega) fr15
            have v15 : mB (A_row A 44 (6 * aN A 22) f 5) m (pC (cvT (A_row A 44 (6 * aN A 22) f 5) m (aN (A_row A 44 (6 * aN A 22) f 5) 15))) = f 5 := by
              rw [row_N, row_AW, mB_AW, cvT_AW, f5]
            rw [v15] at e15
            have hM6 : MV (A_row A 44 (6 * aN A 22) f 6) (zsI S15 44 0 (6 * aN A 22 + 5) (f 5)) := hM15.R 44 _ _ (by decide)
            have hM7 : MV (A_tk A f) (zsI (zsI S15 44 0 (6 * aN A 22 + 5) (f 5)) 12 0 22 (nI (aN A 22 + 1))) := hM6.F 22 _
            have hM8 : MV (A_go (A_tk A f) m 20) (zsI (zsI (zsI S15 44 0 (6 * aN A 22 + 5) (f 5)) 12 0 22 (nI (aN A 22 + 1))) 33 0 (40 * aN (A_tk A f) 4 + m) 20) := hM7.R 33 _ _ (by decide)
            have hg := go_eq hA2 hM7 hm2 20
            refine ⟨_, ?_, hM8, frC_t.tr ((frC_row (k := 44) (b := 6 * aN A 22) (f := f) (by decide) (by decide) 4).tr ((fr12.frC (Or.inr ⟨by decide, by decide⟩)).tr ((frC_R (by decide) (by decide)).tr ((fr15.frC (Or.inr ⟨by decide, by decide⟩)).tr ((frC_R (by decide) (by decide)).tr (frC_F.tr (frC_R (by decide) (by decide))))))))⟩
            rw [eM S h, if_pos hr]
            unfold j_X12_take_66
            rw [e22, if_pos (show ¬ nI (aN A 22) = 60 by rw [show (60 : Int32) = nI 60 from rfl, nI_eq (by omega) (by omega)]; omega), ix6', h.t.f 4 rfl]
            have hb : ∀ (j : Nat) (hj : j < 6) (g : ZH → Option (Int32 × ZH)) (x y : Int32), x = nI (6 * aN A 22 + j) → y = f j → ((zR (S_row (tS S) 44 (6 * aN A 22) f j) 12 0 23).bind fun a => (zst (S_row (tS S) 44 (6 * aN A 22) f j) 44 a x y).bind g) = g (S_row (tS S) 44 (6 * aN A 22) f (j + 1)) := by
              intro j hj g x y hx hy
              rw [S_row_R, h.t.ref 23 rfl, hx, hy]
              exact S_row_b hl (by omega) (by decide)
            refine (hb 0 (by decide) _ _ _ rfl f0.symm).trans ?_
            refine (hb 1 (by decide) _ _ _ (nI_p _ 1) f1.symm).trans ?_
            refine (hb 2 (by decide) _ _ _ (nI_p _ 2) f2.symm).trans ?_
            refine (hb 3 (by decide) _ _ _ (nI_p _ 3) f3.symm).trans ?_
            refine (o_b e12).trans ?_
            dsimp only
            have r23 : zR (S_row (tS S) 44 (6 * aN A 22) f (3 + 1)) 12 0 23 = some 0 := hM4.ref 23 rfl
            have b4 : b01 (f 4) := by rw [f4]; exact mB_b
            have b5 : b01 (f 5) := by rw [f5]; exact mB_b
            rw [if01 b4 (fun q => j_X12_take_150 0 (nI m) (nI (6 * aN A 22)) (zR (S_row (tS S) 44 (6 * aN A 22) f (3 + 1)) 12 0 23) (nI (6 * aN A 22) + 4) q S12)]
            unfold j_X12_take_150
            refine (o_b r23).trans ?_
            rw [show nI (6 * aN A 22) + (4 : Int32) = nI (6 * aN A 22 + 4) from nI_p _ 4]
            refine (hM12.st 360 rfl (by omega) (by decide)).trans ?_
            refine (o_b e15).trans ?_
            dsimp only
            rw [if01 b5 (fun q => j_X12_take_172 0 (nI m) (zR (zsI S12 44 0 (6 * aN A 22 + 4) (f 4)) 12 0 23) (nI (6 * aN A 22) + 5) q S15)]
            unfold j_X12_take_172
            refine (o_b (hM5.ref 23 rfl)).trans ?_
            rw [show nI (6 * aN A 22) + (5 : Int32) = nI (6 * aN A 22 + 5) from nI_p _ 5]
            refine (hM15.st 360 rfl (by omega) (by decide)).trans ?_
            have q22 : zI (zsI S15 44 0 (6 * aN A 22 + 5) (f 5)) 12 0 22 = nI (aN A 22) := by rw [hM6.f 22 rfl, row_1]; exact c.1
            rw [q22, nI_1]
            refine (o_b hg).trans ?_
            have q23 : zI (zsI (zsI (zsI S15 44 0 (6 * aN A 22 + 5) (f 5)) 12 0 22 (nI (aN A 22 + 1))) 33 0 (40 * aN (A_tk A f) 4 + m) 20) 12 0 22 = nI (aN A 22 + 1) := by
              show zI (zsI (zsI S15 44 0 (6 * aN A 22 + 5) (f 5)) 12 0 22 (nI (aN A 22 + 1))) 12 0 22 = _
              rw [zI_sI, if_pos ⟨rfl, rfl⟩]
            rw [q23, nI_pred]
        · have e60 : aN A 22 = 60 := by omega
          refine .same hA (-4) (fun S h => ?_) (fun S h => ?_)
          · unfold f_X11_take
            refine (o_b (findMan_ix hA h hm)).trans ?_
            rw [if_neg (by simp)]
            refine (o_b ((papOrNone_eq hA h y).1 hy)).trans ?_
            rw [if_pos (by decide)]
            refine (o_b (a := m) rfl).trans ?_
            rw [h.pl hm]
            refine (o_b (reach_C hA h (hA.aP hm))).trans ?_
            rw [hr, if_pos (by decide)]
            refine (o_b (h.ref 11 7 rfl)).trans ?_
            rw [h.nTk hA, e60]
            rfl
          · rw [eM S h, if_pos hr]
            unfold j_X12_take_66
            rw [h.t.nTk hA, e60]
            rfl
      · refine .same hA (-3) (fun S h => ?_) (fun S h => ?_)
        · unfold f_X11_take
          refine (o_b (findMan_ix hA h hm)).trans ?_
          rw [if_neg (by simp)]
          refine (o_b ((papOrNone_eq hA h y).1 hy)).trans ?_
          rw [if_pos (by decide)]
          refine (o_b (a := m) rfl).trans ?_
          rw [h.pl hm]
          refine (o_b (reach_C hA h (hA.aP hm))).trans ?_
          rw [show rchB A (aP A m) = false by simpa using hr]
          rfl
        · rw [eM S h, if_neg hr]
    · refine .same hA (-1) (fun S h => ?_) (fun S h => ?_)
      · unfold f_X11_take
        refine (o_b (findMan_ix hA h hm)).trans ?_
        rw [if_neg (by simp)]
        refine (o_b ((papOrNone_eq hA h y).2 hy)).trans ?_
        rfl
      · unfold f_X12_take
        refine (o_b (noMan_ix hA h.t hm)).trans ?_
        rw [if_neg (by decide), if_neg (fun e => hy (Or.inl e))]
        refine (o_b (noPaper_no hA h.t (fun e => hy (Or.inr e)))).trans ?_
        rfl
  · refine .same hA (-1) (fun S h => ?_) (fun S h => ?_)
    · unfold f_X11_take; rw [findMan_no hA h hx]; rfl
    · unfold f_X12_take; rw [noMan_no hA h.t hx]; rfl
