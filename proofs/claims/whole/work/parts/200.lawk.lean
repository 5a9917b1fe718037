/-! THE CLAIM OUT OF ONE WALK OF THE LAW'S BODY. Your part is whole_start (and what it stands on); all else here is the same for every law, but numbers. -/
def R_law : String := "PressedMenLaw"
def lw_P (b : Addr) (xs : List Int32) (args : Array Value) (s : State) : Prop := args = #[.ref b] ∧ s.IntsAt b xs ∧ xs.length ≤ 5120 ∧ (Jvm.Cond.and given_1 narrow_1).before args s = true
def lw_Q (_ : Array Value) (s : State) (o : Outcome) (t : State) : Prop := o = .returned (some (.int 1)) ∧ Framed s o t [] 600000 7302250
def lw_Z (below : List Frame) (a : Array Value) (s : State) : State → Prop := fun t => ∃ o, t.status = .running ∧ Ended t below o ∧ lw_Q a s o t
/-- the law's own end, with 1 on the stack, nothing written that was there before, its room as the claim has it -/
theorem lw_ret {p : Program} {l : Launch} {e : Env} {s : State} {m : MethodId} {below : List Frame} {meth : Method} {c : Code} {b : Nat} (hx : p.tables.exec = Jvm.exec) (hb : c.code = code) (hr : meth.sig.returnType = ret) (hlocks : meth.locks = false) {pc : Nat} {H : Heap} {ls : Array Slot} (hdg : decode code pc = .ok (.ireturn, 1)) : W p l e room_1 s m #[Value.ref b] below meth c H [] 600000 7302250 (lw_Z below #[Value.ref b] s) (F0 m pc ls [.int 1]) := by
  intro T hT X
  obtain ⟨fs, hret, hrun, hended, hW, hframe⟩ := X.leave (v := some (.int 1)) (hlocks := hlocks) (fun h => by rw [hr] at h; cases h)
  have hmeth' : T.vm.method? m = some meth := X.method'
  refine ⟨T.setFrames fs, ?_, .returned (some (.int 1)), hrun, hended, rfl, ⟨_, rfl⟩, hW, hframe⟩
  jvm_step X.here [X.here.top, hx, hb, hdg, hmeth', hr, ret, narrow_b1]
  (try refine ⟨rfl, ?_⟩); (try refine ⟨rfl, ?_⟩)
  first | (intro acts; rw [hret _ acts rfl rfl rfl]) | rw [hret _ _ rfl rfl rfl]
  exact Steps.refl _
/-- what holds at the law's entry: the machine, the code, the tables' words (any of lw_tbl by 'hts w (by decide +kernel)'), the script of L ints xs at the cell b, what the Statement gives of the start (any of its parts by flat_of_before) -/
def lw_At (p : Program) (s : State) (m : MethodId) (meth : Method) (c : Code) (b L : Nat) (xs : Nat → Int32) : Prop :=
  p.tables.exec = Jvm.exec ∧ c.code = code ∧ meth.sig.returnType = ret ∧ c.maxLocals = 4 ∧ s.vm.findClass R_law = some m.cls ∧ (∀ w ∈ lw_tbl, w.before #[Value.ref b] s = true) ∧ va_X b L xs s s.heap ∧ b < s.heap.size ∧ meth.locks = false ∧ (Jvm.Cond.and given_1 narrow_1).before #[Value.ref b] s = true
/-! ===== the law's own rules: the script (kind 99), its end ===== -/
def zE : ZH := (fun k => if k = 99 then 1 else 0, fun _ _ => 0, fun _ _ _ => 0, fun _ _ _ => none, 0, 0)
def zldX (L : Nat) (xs : Nat → Int32) (x : Int32) : Option Int32 := if x < 0 ∨ L ≤ x.toNatClampNeg then none else some (xs x.toNatClampNeg)
def z_FL (L : Nat) (xs : Nat → Int32) : ZP := fun _ _ s args below ad0 Q => va_X (ad0 99 0) L xs s s.heap ∧ ad0 99 0 < s.heap.size ∧ args = #[Value.ref (ad0 99 0)] ∧ Q = lw_Z below #[Value.ref (ad0 99 0)] s
theorem zE_N {k : Nat} (h : k < 99) : zN zE k = 0 := if_neg (by omega)
theorem zE_A {ad0 : Nat → Nat → Nat} {sz q : Nat} (h : z_A ad0 zE sz q) : sz ≤ q := by
  rcases h with ⟨k, i, hk, hi, -⟩ | h
  · rw [zE_N hk] at hi; omega
  · exact h
section ZLAW
variable {Y : ZM} {L : Nat} {xs : Nat → Int32} {pc : Nat} {lo : List (Nat × ZV)} {st : List ZV} {S : ZH}
theorem x_sld {α : Type} {x : Int32} {f : Int32 → Option α} {z : α} (d : decode Y.2.1 pc = .ok (.iaload, 1)) (h : (zldX L xs x).bind f = some z) (kk : ∀ v, zldX L xs x = some v → f v = some z → Wp Y zE (z_FL L xs) (pc + 1) lo (z_i v :: st) S) : Wp Y zE (z_FL L xs) pc lo (z_i x :: z_r 99 (some 0) :: st) S := by
  obtain ⟨v, hv, h⟩ := Option.bind_eq_some_iff.mp h
  intro p l e R s m args below meth c D cA ad0 ad Ls H locs cells slots ls Q hC hF hS
  have hk := kk v hv h p l e R s m args below meth c D cA ad0 ad Ls H locs cells slots ls Q hC hF (hS.stk (fun h => z_oI (z_oT (z_oT h))))
  obtain ⟨hX, hbl, -, -⟩ := hF
  have hv0 := hv
  unfold zldX at hv0
  by_cases hc : x < 0 ∨ L ≤ x.toNatClampNeg
  · rw [if_pos hc] at hv0; cases hv0
  rw [if_neg hc] at hv0
  cases hv0
  have had : ad 99 0 = ad0 99 0 := hS.2.2.2.2.2.1.2 99 0 (by show 0 < zN zE 99; decide)
  have e : (z_i x :: z_r 99 (some 0) :: st).map (z_v ad) = .int x :: .ref (ad0 99 0) :: st.map (z_v ad) := by
    show Value.int x :: va_rf (some (ad 99 0)) :: st.map (z_v ad) = _
    rw [had]
    rfl
  rw [e]
  exact va_sld hC.1 hC.2.1 hX hbl (fun q => by have := zE_A q; omega) hS.2.2.2.2.1 hc d hk
theorem x_slen (d : decode Y.2.1 pc = .ok (.arraylength, 1)) (kk : Wp Y zE (z_FL L xs) (pc + 1) lo (z_i (nI L) :: st) S) : Wp Y zE (z_FL L xs) pc lo (z_r 99 (some 0) :: st) S := by
  intro p l e R s m args below meth c D cA ad0 ad Ls H locs cells slots ls Q hC hF hS
  have hk := kk p l e R s m args below meth c D cA ad0 ad Ls H locs cells slots ls Q hC hF (hS.stk (fun h => z_oI (z_oT h)))
  obtain ⟨hX, hbl, -, -⟩ := hF
  have had : ad 99 0 = ad0 99 0 := hS.2.2.2.2.2.1.2 99 0 (by show 0 < zN zE 99; decide)
  have e : (z_r 99 (some 0) :: st).map (z_v ad) = .ref (ad0 99 0) :: st.map (z_v ad) := by
    show va_rf (some (ad 99 0)) :: st.map (z_v ad) = _
    rw [had]
    rfl
  rw [e]
  exact va_slen hC.1 hC.2.1 hX hbl (fun q => by have := zE_A q; omega) hS.2.2.2.2.1 d hk
theorem z_lret {p : Program} {l : Launch} {e : Env} {R : Room} {s : State} {m : MethodId} {below : List Frame} {meth : Method} {c : Code} {b : Nat} (hx : p.tables.exec = Jvm.exec) (hb : c.code = code) (hr : meth.sig.returnType = ret) (hlocks : meth.locks = false) {pc : Nat} {H : Heap} {ls : Array Slot} (hdg : decode code pc = .ok (.ireturn, 1)) : W p l e R s m #[Value.ref b] below meth c H [] 600000 7302250 (lw_Z below #[Value.ref b] s) (F0 m pc ls [.int 1]) := by
  intro T hT X
  obtain ⟨fs, hret, hrun, hended, hW, hframe⟩ := X.leave (v := some (.int 1)) (hlocks := hlocks) (fun h => by rw [hr] at h; cases h)
  have hmeth' : T.vm.method? m = some meth := X.method'
  refine ⟨T.setFrames fs, ?_, .returned (some (.int 1)), hrun, hended, rfl, ⟨_, rfl⟩, hW, hframe⟩
  jvm_step X.here [X.here.top, hx, hb, hdg, hmeth', hr, ret, narrow_b1]
  (try refine ⟨rfl, ?_⟩); (try refine ⟨rfl, ?_⟩)
  first | (intro acts; rw [hret _ acts rfl rfl rfl]) | rw [hret _ _ rfl rfl rfl]
  exact Steps.refl _
theorem x_lret0 (hY : Y.2.1 = code) (hr : Y.2.2.2.1 = ret) (d : decode code pc = .ok (.ireturn, 1)) : Wp Y zE (z_FL L xs) pc lo [z_i 1] S := by
  intro p l e R s m args below meth c D cA ad0 ad Ls H locs cells slots ls Q hC hF hS
  obtain ⟨-, -, ha, hQ⟩ := hF
  subst hQ; subst ha
  have hb := hS.2.2.2.2.2.2.2.2.1
  have e1 : zc zE = 0 := rfl
  have e2 : zs zE = 0 := rfl
  have e3 : zC = 600000 := rfl
  have e4 : zZ = 7302250 := rfl
  refine va_forget (fun q hq => zE_A (hS.2.2.2.2.1.2.2 q hq)) ?_
  refine W.widen (k := 600000) (n := 7302250) (by omega) (by omega) ?_
  exact z_lret hC.1 (hC.2.1.trans hY) (hC.2.2.2.1.trans hr) hC.2.2.2.2.1 d
end ZLAW
