theorem z_and1 (v : Int32) : v &&& 1 = 0 ∨ v &&& 1 = 1 := by
  have e : (v &&& 1).toBitVec = BitVec.setWidth 32 (BitVec.ofBool (v.toBitVec.getLsbD 0)) := by
    rw [Int32.toBitVec_and]; exact BitVec.and_one_eq_setWidth_ofBool_getLsbD
  cases h : v.toBitVec.getLsbD 0
  · left; apply Int32.toBitVec_inj.mp; rw [e, h]; rfl
  · right; apply Int32.toBitVec_inj.mp; rw [e, h]; rfl
theorem z_b01 {v : Int32} (h : z_b v = v) : v = 0 ∨ v = 1 := by
  have h1 : v &&& 1 = v := h
  rw [← h1]; exact z_and1 v
theorem z_fit_b {v : Int32} (h : z_b v = v) : fits .boolean (.int v) = true := by
  rcases z_b01 h with rfl | rfl <;> rfl
set_option maxHeartbeats 1000000 in
theorem MetX.ofF {Y : ZM} {S : ZH} {as : List ZV} {r : Option ZV} {S1 : ZH} {lo : List (Nat × ZV)} (hlo : z_args 0 as = lo) (hy : plainFor Y.1 = true) (hw : z_wd as ≤ Y.2.2.1) (h : Wp Y S (zF S r S1) 0 lo [] S) : MetX Y S as r S1 := by
  intro l D cA ad
  subst hlo
  refine MetFree.of_bodySF (code := Y.2.1) (maxLocals := Y.2.2.1) (ret := Y.2.2.2.1) hy ?_ ?_
  · intro args s m hp hn
    obtain ⟨meth, c, h1, h2, h3, h4, h5, h6, -, -⟩ := Cond.code_spec hn (atoms_spec (ws := [.code Y.1 Y.2.1 Y.2.2.1 Y.2.2.2.1]) hp _ List.mem_cons_self)
    exact ⟨meth, c, h1, h2, h3, h4, h5, h6⟩
  · intro p e s m args below meth c s₁ B hml hP _
    obtain ⟨rfl, ⟨L, hL, hPw, hD⟩, hrf, hok, hcap, hwd, hK⟩ := hP
    have hh0 : s₁.heap = s.heap := by rw [B.state]; rfl
    have hl := lv_entry (as.map (z_v ad)) (n := Y.2.2.1) (by rw [z_sl_v]; exact hw)
    rw [z_args_v] at hl
    have key := h p l e ({ frames := Y.2.2.2.2.1, cells := zC - zc S, slots := zZ - zs S, locals := Y.2.2.2.2.2 } : Room) s m (as.map (z_v ad)).toArray below meth c D cA ad ad L s.heap [] 0 0 _ _
      ⟨B.exec, B.bytes, hml, B.returns, B.notSynchronized, findClass_of_methodNamed B.named, hwd, fun q => (name_of_methodNamed B.named B.method).1.trans q, ⟨Nat.le_refl _, Nat.le_refl _, by show zC ≤ zc S + (zC - zc S); omega, by show zZ ≤ zs S + (zZ - zs S); omega⟩, hK⟩ rfl
      ⟨hL, hPw, ⟨hD.1, fun n q hq => z_A_of hL hq⟩, hrf, va_S.rf, ⟨fun _ => Nat.le_refl _, fun _ _ _ => rfl⟩, z_args_ok as 0 hok, (fun v hv => by cases hv), ⟨rfl, rfl, hcap.1, hcap.2⟩, hl⟩
    obtain ⟨t, a1, o, b1, b2, b3⟩ := key s₁ hh0 (Stand.of_body B)
    exact ⟨t, o, by rw [lg_entry_eq]; exact a1, b1, b2, b3⟩
theorem z_room {w : Nat} {m : MethodId} {pc : Nat} {ls : Array Slot} {rest st : List Value} (h : (st.map fun v => v.category).sum ≤ w) : 2 * (F0 m pc ls rest).monitorRoom + (st.map fun v => v.category).sum ≤ w := by
  show 2 * 0 + _ ≤ _
  omega
theorem z_backW {w : Nat} {l : Launch} {R : Room} {p : Program} {e : Env} {below : List Frame} {s : State} {sargs : Array Value} {Y : ZM} {S : ZH} {as : List ZV} {r : Option ZV} {S1 : ZH} {D : va_G} {cA : Nat → ClassId} {ad : Nat → Nat → Nat} (hM : MetX Y S as r S1) (hfr : Y.2.2.2.2.1 + 1 ≤ R.frames) (hlo : w + (Y.2.2.1 + 11) + Y.2.2.2.2.2 ≤ R.locals)
    (hcode : ∀ a U, s.WarmedH U.vm → (Cond.code Y.1 Y.2.1 Y.2.2.1 Y.2.2.2.1).before a U = true) (hinit : ∀ a U, s.WarmedH U.vm → (Cond.initialized Y.1.cls).before a U = true) :
    Back l R p e below s sargs Y.1 3 w (fun A a => A.cells + (zC - zc S) ≤ R.cells ∧ A.slots + (zZ - zs S) ≤ R.slots ∧ z_Pre D cA ad S as a A.U) (z_Post D cA ad S r S1) := by
  refine Back.of_free (S := headSpec [.code Y.1 Y.2.1 Y.2.2.1 Y.2.2.2.1] { frames := Y.2.2.2.2.1, cells := zC - zc S, slots := zZ - zs S, locals := Y.2.2.2.2.2 }) (P := z_Pre D cA ad S as) (K := fun _ _ _ _ _ => True) (Q := fun _ st o t => z_Q D cA st ad S r S1 o t) (bytes := Y.2.1) (maxL := Y.2.2.1) (ret := Y.2.2.2.1)
    (E := fun a st o t L k n => z_Q0 D cA st ad S r S1 o t L k n) (hM l D cA ad) hfr hlo ?_ ?_ (fun _ _ _ _ _ _ _ _ _ => trivial) ?_ ?_
  · intro m meth c A a X hp
    exact ⟨atoms_intro fun w hw => by rw [List.mem_singleton.mp hw]; exact hcode _ _ X.warmed, hcode _ _ X.warmed, hinit _ _ X.warmed, hp.1, hp.2.1⟩
  · intro m meth c A a g mk X hp
    obtain ⟨-, -, h1, h2, h3, h4, h5, h6, h7⟩ := hp
    exact ⟨h1, h2, h3, h4, h5, h6.warm (U := A.U.calling g mk a) (State.WarmedH.refl A.U), va_K.moved (u := A.U) (U := A.U.calling g mk a) (Vm.Alike.refl A.U.vm) h7⟩
  · intro a st o t ⟨L, mc, ms, hF, h0⟩
    exact ⟨L, mc, ms, hF, h0⟩
  · intro m meth c A a g mk v t L k n X hp hq hF hE
    exact ⟨g, mk, t, L, k, n, rfl, hE, rfl, rfl, rfl⟩
section ZCALLW
variable {Y0 : ZM} {S0 : ZH} {F : ZP} {pc : Nat} {lo : List (Nat × ZV)} {st0 : List ZV} {S : ZH}
set_option maxHeartbeats 1000000 in
theorem x_callIW (w : Nat) {Y : ZM} {as rest : List ZV} {r : Option ZV} {S1 : ZH} {idx : Nat} {k b : Nat} {o : Option Nat} (ho : o = some b) (hM : MetX Y S (z_r k (some b) :: as) r S1) (CW : z_CI Y as.length) (hl : z_in (.methodLink Y0.1.cls idx Y.1)) (hR : Y.2.2.2.2.1 + 1 ≤ Y0.2.2.2.2.1 ∧ w + (Y.2.2.1 + 11) + Y.2.2.2.2.2 ≤ Y0.2.2.2.2.2) (hw : z_wd rest ≤ w) (d : decode Y0.2.1 pc = .ok (.invokespecial idx, 3)) (hst : st0 = as.reverse ++ z_r k o :: rest) (kk : Wp Y0 S0 F (pc + 3) lo (r.toList ++ rest) S1) : Wp Y0 S0 F pc lo st0 S := by
  intro p l e R s m args below meth c D cA ad0 ad L H locs cells slots ls Q hC hF hS
  subst ho
  subst hst
  obtain ⟨hn1, hret, hinst, hcode, hini, hy, hlen⟩ := CW
  have hst0 := hS.2.2.2.2.2.2.2.1
  have hb : b < zN S k := hst0 _ (List.mem_append_right _ List.mem_cons_self)
  intro T hT X
  have hRm := hC.2.2.2.2.2.2.2.2.1
  have hbd := hS.2.2.2.2.2.2.2.2.1
  have hK := z_backW (w := w) (R := R) (p := p) (e := e) (below := below) (s := s) (sargs := args) (l := l) (D := D) (cA := cA) (ad := ad) hM (by omega) (by omega) (fun a U hW => word_at hW hcode.2 (hC.2.2.2.2.2.2.1.w hcode (a := #[]))) (fun a U hW => word_at hW hini.2 (hC.2.2.2.2.2.2.1.w hini (a := #[])))
  obtain ⟨v, vm₁, ⟨U', l2, c2, s2⟩, hW₁, X', hpost, stp⟩ := callI X hC.1 (bytes := Y.2.1) (maxL := Y.2.2.1) (a := ad k b) hC.2.2.2.2.2.1 hn1 (hC.2.2.2.2.2.2.1.w hl) (hC.2.2.2.2.2.2.1.w hinst) (by have h0 := hC.2.2.2.2.2.2.1.w hcode (a := args); rw [hret] at h0; exact h0) hy hK (g := F0 m pc ls ((as.reverse ++ z_r k (some b) :: rest).map (z_v ad))) rfl (hS.2.2.2.2.2.2.2.2.2.1.trans hC.2.2.1.symm) (argsL := as.map (z_v ad)) (rest := rest.map (z_v ad)) (fun sig h => by unfold z_ar at hlen; rw [h] at hlen; rw [List.length_map]; exact (Option.some.inj hlen).symm) (by show ((as.reverse ++ z_r k (some b) :: rest).map (z_v ad)) = _; rw [List.map_append, List.map_reverse]; rfl) (z_room (by rw [z_wd_v]; exact hw)) (by rw [hC.2.1]; exact d)
    (fun vm₁ hW₁ => ⟨by show cells + (zC - zc S) ≤ R.cells; omega, by show slots + (zZ - zs S) ≤ R.slots; omega, rfl, ⟨L, hS.1, by show va_P D vwCl _ T.heap; rw [hT]; exact hS.2.1, hS.2.2.1.weaken (fun _ _ _ _ => trivial)⟩, hS.2.2.2.1, z_oC hb (fun v hv => hst0 v (List.mem_append_left _ (List.mem_reverse.mpr hv))), ⟨hbd.2.2.1, hbd.2.2.2⟩, hC.2.2.2.2.2.2.1.warm hW₁, va_K.moved hW₁.alike hC.2.2.2.2.2.2.2.2.2⟩)
  obtain ⟨t, a1, b1⟩ := z_after hC hF hS (fun v hv => hst0 v (List.mem_append_right _ (List.mem_cons_of_mem _ hv))) kk (show (T.setVm vm₁).heap = H from hT) hpost X'
  exact ⟨t, stp t a1, b1⟩
theorem x_callIWv (w : Nat) {Y : ZM} {as rest : List ZV} {S1 : ZH} {idx : Nat} {k b : Nat} {o : Option Nat} (ho : o = some b) (hM : MetX Y S (z_r k (some b) :: as) none S1) (CW : z_CI Y as.length) (hl : z_in (.methodLink Y0.1.cls idx Y.1)) (hR : Y.2.2.2.2.1 + 1 ≤ Y0.2.2.2.2.1 ∧ w + (Y.2.2.1 + 11) + Y.2.2.2.2.2 ≤ Y0.2.2.2.2.2) (hw : z_wd rest ≤ w) (d : decode Y0.2.1 pc = .ok (.invokespecial idx, 3)) (hst : st0 = as.reverse ++ z_r k o :: rest) (kk : Wp Y0 S0 F (pc + 3) lo rest S1) : Wp Y0 S0 F pc lo st0 S := x_callIW w ho hM CW hl hR hw d hst kk
end ZCALLW
