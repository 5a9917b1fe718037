def z_nft : List Nat := [6, 4, 4, 14, 6, 3, 5, 2, 6, 5, 4, 19, 39]
def z_nf (k : Nat) : Nat := z_nft.getD k 0
def z_rkt : List (List (Option Nat)) := [[none, none, some 13, none, none, none], [some 10, some 14, some 15, some 16], [none, none, none, none], [none, none, none, none, none, none, none, none, none, none, some 8, some 17, some 18, none], [none, none, none, some 7, some 7, some 7], [none, some 19, none], [none, none, none, none, none], [none, none], [none, none, none, none, none, none], [none, none, none, none, none], [none, some 20, some 21, none], [some 10, some 22, none, some 23, none, some 24, none, some 5, some 25, none, some 26, none, some 27, some 28, some 1, some 2, none, none, none], [none, none, some 29, some 30, none, none, some 31, some 32, some 33, none, some 34, some 35, some 36, some 37, some 38, none, some 39, none, some 40, some 41, some 42, some 43, none, some 44, none, none, none, some 45, some 46, some 47, none, none, some 48, some 49, some 50, some 51, some 52, some 53, some 54]]
def z_ekt : List (Option Nat) := [none, none, none, none, none, none, some 8, none, none, some 3, some 4, some 0, some 6, some 9, none, none, none, none, none, none, none, none, none, none, none, none, none, none, none, none, none, none, none, none, none, none, none, none, none, none, none, none]
def z_rk (k j : Nat) : Option Nat := if k < 13 then (z_rkt.getD k []).getD j none else z_ekt.getD (k - 13) none
def z_tyt : List FieldType := [.byte, .int, .int, .int, .int, .int, .object "PressedMen$Taking", .boolean, .int, .object "PressedMen$Man", .object "PressedMen$Paper", .object "PressedMen$Act", .object "PressedMen$Ship", .object "PressedMen$Ticket", .int, .int, .boolean, .int, .int, .int, .int, .int, .int, .int, .int, .boolean, .int, .int, .int, .int, .boolean, .int, .int, .int, .int, .int, .int, .int, .boolean, .int, .int, .int]
def z_ty (k : Nat) : FieldType := z_tyt.getD (k - 13) .int
/-! ===== the abstract heap: typed stores (kind, index, slot); an abstract value ===== -/
abbrev ZV : Type := Int32 ⊕ Int64 ⊕ (Nat × Option Nat)
abbrev z_i (x : Int32) : ZV := Sum.inl x
abbrev z_l (x : Int64) : ZV := Sum.inr (Sum.inl x)
abbrev z_r (k : Nat) (o : Option Nat) : ZV := Sum.inr (Sum.inr (k, o))
def z_v (ad : Nat → Nat → Nat) : ZV → Value
  | .inl x => .int x
  | .inr (.inl x) => .long x
  | .inr (.inr q) => va_rf (q.2.map (ad q.1))
abbrev ZH : Type := (Nat → Nat) × (Nat → Nat → Nat) × (Nat → Nat → Nat → Int32) × (Nat → Nat → Nat → Option Nat) × Nat × Nat
def zN (S : ZH) : Nat → Nat := S.1
def zL (S : ZH) : Nat → Nat → Nat := S.2.1
def zI (S : ZH) : Nat → Nat → Nat → Int32 := S.2.2.1
def zR (S : ZH) : Nat → Nat → Nat → Option Nat := S.2.2.2.1
def zc (S : ZH) : Nat := S.2.2.2.2.1
def zs (S : ZH) : Nat := S.2.2.2.2.2
def z_up {α : Type} (f : Nat → Nat → Nat → α) (k i j : Nat) (v : α) : Nat → Nat → Nat → α := fun k' i' j' => if k' = k ∧ i' = i ∧ j' = j then v else f k' i' j'
def zsI (S : ZH) (k i j : Nat) (v : Int32) : ZH := (S.1, S.2.1, z_up S.2.2.1 k i j v, S.2.2.2)
def zsR (S : ZH) (k i j : Nat) (v : Option Nat) : ZH := (S.1, S.2.1, S.2.2.1, z_up S.2.2.2.1 k i j v, S.2.2.2.2)
def zNew (S : ZH) (k n : Nat) : ZH := (fun k' => if k' = k then S.1 k + 1 else S.1 k', fun k' i' => if k' = k ∧ i' = S.1 k then n else S.2.1 k' i', fun k' i' j' => if k' = k ∧ i' = S.1 k then 0 else S.2.2.1 k' i' j', fun k' i' j' => if k' = k ∧ i' = S.1 k then none else S.2.2.2.1 k' i' j', S.2.2.2.2.1 + 1, S.2.2.2.2.2 + n)
def zC : Nat := 600000
def zZ : Nat := 7302250
def zal (S : ZH) (k n : Nat) : Option ZH := if zc S + 1 ≤ zC ∧ zs S + n ≤ zZ then some (zNew S k n) else none
def znw (S : ZH) (k : Nat) (x : Int32) : Option ZH := if x < 0 then none else zal S k x.toNatClampNeg
def zld (S : ZH) (k a : Nat) (x : Int32) : Option Int32 := if x < 0 ∨ zL S k a ≤ x.toNatClampNeg then none else some (zI S k a x.toNatClampNeg)
def zldR (S : ZH) (k a : Nat) (x : Int32) : Option (Option Nat) := if x < 0 ∨ zL S k a ≤ x.toNatClampNeg then none else some (zR S k a x.toNatClampNeg)
def zst (S : ZH) (k a : Nat) (x v : Int32) : Option ZH := if x < 0 ∨ zL S k a ≤ x.toNatClampNeg then none else some (zsI S k a x.toNatClampNeg v)
def zstR (S : ZH) (k a : Nat) (x : Int32) (v : Option Nat) : Option ZH := if x < 0 ∨ zL S k a ≤ x.toNatClampNeg then none else some (zsR S k a x.toNatClampNeg v)
def z_b (x : Int32) : Int32 := vp_nar .boolean x
def z_y (x : Int32) : Int32 := vp_nar .byte x
def z_fld (ad : Nat → Nat → Nat) (S : ZH) (k i j : Nat) : Value := match z_rk k j with
  | none => .int (zI S k i j)
  | some k' => va_rf ((zR S k i j).map (ad k'))
def z_cell (cA : Nat → ClassId) (ad : Nat → Nat → Nat) (S : ZH) (k i : Nat) : va_E :=
  if k < 13 then .inr (k, (List.range (z_nf k)).map (z_fld ad S k i)) else match z_rk k 0 with
    | none => .inl (cA k, zL S k i, .inl (zI S k i))
    | some k' => .inl (cA k, zL S k i, .inr (.inr (.inr (.inr fun j => (zR S k i j).map (ad k')))))
def z_ws (cA : Nat → ClassId) (ad : Nat → Nat → Nat) (S : ZH) (L : List (Nat × Nat)) : va_W := L.map fun q => (ad q.1 q.2, z_cell cA ad S q.1 q.2)
def z_A (ad0 : Nat → Nat → Nat) (S0 : ZH) (sz : Nat) : Nat → Prop := fun q => (∃ k i, k < 99 ∧ i < zN S0 k ∧ q = ad0 k i) ∨ sz ≤ q
def z_ok (S : ZH) : ZV → Prop
  | .inr (.inr (k, some i)) => i < zN S k
  | _ => True
def z_tys (cA : Nat → ClassId) : List (ClassId × FieldType) := (List.range 42).map fun k => (cA (13 + k), z_ty (13 + k))
def z_mem (S : ZH) (L : List (Nat × Nat)) : Prop := ∀ k i, (k, i) ∈ L ↔ k < 99 ∧ i < zN S k
def z_rfs (S : ZH) : Prop := ∀ k i j q k', k < 99 → i < zN S k → z_rk k j = some k' → zR S k i j = some q → q < zN S k'
def z_gd (w : Cond) : Prop := (w.onTables && w.keeps) = true ∨ ∃ ty, w = .arrayClass ty
def z_Wd (s : State) : Prop := (∀ w ∈ lw_tbl, z_gd w → ∀ a, w.before a s = true) ∧ (∀ own idx y host, Cond.methodLinkNest own idx y host ∈ lw_tbl → va_Nw (.methodLinkNest own idx y host) s) ∧ (∀ C, Cond.arrayOver (.object C) ∈ lw_tbl → va_AO C s) ∧ (Cond.native arraycopyName ∈ lw_tbl → va_Nw (.native arraycopyName) s)
theorem z_Wd.warm {s U : State} (hW : s.WarmedH U.vm) (h : z_Wd s) : z_Wd U :=
  ⟨fun w hw hg a => word_at hW hg (h.1 w hw hg #[]), fun own idx y host hw => va_Nw.warmM hW (h.2.1 own idx y host hw), fun C hw => (h.2.2.1 C hw).moved hW.alike, fun hw => by
    have h1 := h.2.2.2 hw
    have h2 := word_at (a' := #[]) hW (c := .native arraycopyName) (Or.inl (by first | rfl | simp [Cond.onTables, Cond.keeps, Cond.steady])) h1
    exact h2⟩
abbrev ZM : Type := MethodName × ByteArray × Nat × Option FieldType × Nat × Nat
def z_Cx (p : Program) (R : Room) (s : State) (m : MethodId) (meth : Method) (c : Code) (Y : ZM) (D : va_G) (cA : Nat → ClassId) (S0 : ZH) : Prop :=
  p.tables.exec = Jvm.exec ∧ c.code = Y.2.1 ∧ c.maxLocals = Y.2.2.1 ∧ meth.sig.returnType = Y.2.2.2.1 ∧ meth.locks = false ∧ s.vm.findClass Y.1.cls = some m.cls ∧ z_Wd s ∧ (Y.1.name = "<init>" → meth.name = "<init>") ∧ (Y.2.2.2.2.1 ≤ R.frames ∧ Y.2.2.2.2.2 ≤ R.locals ∧ zC ≤ zc S0 + R.cells ∧ zZ ≤ zs S0 + R.slots) ∧ va_K D vwCl (z_tys cA) s
def z_lo (ad : Nat → Nat → Nat) (lo : List (Nat × ZV)) : List (Nat × Value) := lo.map fun q => (q.1, z_v ad q.2)
def z_St (nL : Nat) (D : va_G) (cA : Nat → ClassId) (ad0 : Nat → Nat → Nat) (S0 : ZH) (s : State) (ad : Nat → Nat → Nat) (S : ZH) (L : List (Nat × Nat)) (H : Heap) (locs : List Loc) (cells slots : Nat) (ls : Array Slot) (lo : List (Nat × ZV)) (st : List ZV) : Prop :=
  z_mem S L ∧ va_P D vwCl (z_ws cA ad S L) H ∧ va_D (z_A ad0 S0 s.heap.size) (z_ws cA ad S L) ∧ z_rfs S ∧ va_S (z_A ad0 S0 s.heap.size) s.heap H locs ∧ ((∀ k, zN S0 k ≤ zN S k) ∧ ∀ k i, i < zN S0 k → ad k i = ad0 k i) ∧ (∀ q ∈ lo, z_ok S q.2) ∧ (∀ v ∈ st, z_ok S v) ∧ (zc S = zc S0 + cells ∧ zs S = zs S0 + slots ∧ zc S ≤ zC ∧ zs S ≤ zZ) ∧ lv_has ls nL (z_lo ad lo)
abbrev ZP : Type := va_G → (Nat → ClassId) → State → Array Value → List Frame → (Nat → Nat → Nat) → (State → Prop) → Prop
def Wp (Y : ZM) (S0 : ZH) (F : ZP) (pc : Nat) (lo : List (Nat × ZV)) (st : List ZV) (S : ZH) : Prop :=
  ∀ (p : Program) (l : Launch) (e : Env) (R : Room) (s : State) (m : MethodId) (args : Array Value) (below : List Frame) (meth : Method) (c : Code) (D : va_G) (cA : Nat → ClassId) (ad0 ad : Nat → Nat → Nat) (L : List (Nat × Nat)) (H : Heap) (locs : List Loc) (cells slots : Nat) (ls : Array Slot) (Q : State → Prop),
    z_Cx p R s m meth c Y D cA S0 → F D cA s args below ad0 Q → z_St Y.2.2.1 D cA ad0 S0 s ad S L H locs cells slots ls lo st →
    W p l e R s m args below meth c H locs cells slots Q (F0 m pc ls (st.map (z_v ad)))
def z_Q0 (D : va_G) (cA : Nat → ClassId) (s : State) (ad0 : Nat → Nat → Nat) (S0 : ZH) (r : Option ZV) (S1 : ZH) (o : Outcome) (t : State) (Lc : List Loc) (mc ms : Nat) : Prop :=
  ∃ (ad1 : Nat → Nat → Nat) (L1 : List (Nat × Nat)), o = .returned (r.map (z_v ad1)) ∧ z_mem S1 L1 ∧ va_P D vwCl (z_ws cA ad1 S1 L1) t.heap ∧ va_D (z_A ad0 S0 s.heap.size) (z_ws cA ad1 S1 L1) ∧ z_rfs S1 ∧ ((∀ k, zN S0 k ≤ zN S1 k) ∧ ∀ k i, i < zN S0 k → ad1 k i = ad0 k i) ∧ (∀ v, r = some v → z_ok S1 v) ∧ (zc S1 = zc S0 + mc ∧ zs S1 = zs S0 + ms ∧ zc S1 ≤ zC ∧ zs S1 ≤ zZ) ∧ va_F (z_A ad0 S0 s.heap.size) s t ∧ ∀ q ∈ Lc, z_A ad0 S0 s.heap.size q.base
def z_Q (D : va_G) (cA : Nat → ClassId) (s : State) (ad0 : Nat → Nat → Nat) (S0 : ZH) (r : Option ZV) (S1 : ZH) (o : Outcome) (t : State) : Prop := ∃ Lc mc ms, FrameEnd s o t Lc mc ms ∧ z_Q0 D cA s ad0 S0 r S1 o t Lc mc ms
def zF (S0 : ZH) (r : Option ZV) (S1 : ZH) : ZP := fun D cA s _ below ad0 Q => Q = fun t => ∃ o, t.status = .running ∧ Ended t below o ∧ z_Q D cA s ad0 S0 r S1 o t
def z_Pre (D : va_G) (cA : Nat → ClassId) (ad : Nat → Nat → Nat) (S : ZH) (as : List ZV) (a : Array Value) (U : State) : Prop :=
  a = (as.map (z_v ad)).toArray ∧ (∃ L, z_mem S L ∧ va_P D vwCl (z_ws cA ad S L) U.heap ∧ va_D (fun _ => True) (z_ws cA ad S L)) ∧ z_rfs S ∧ (∀ v ∈ as, z_ok S v) ∧ (zc S ≤ zC ∧ zs S ≤ zZ) ∧ z_Wd U ∧ va_K D vwCl (z_tys cA) U
def MetX (Y : ZM) (S : ZH) (as : List ZV) (r : Option ZV) (S1 : ZH) : Prop := ∀ (l : Launch) (D : va_G) (cA : Nat → ClassId) (ad : Nat → Nat → Nat),
  MetFree l Y.1 (headSpec [.code Y.1 Y.2.1 Y.2.2.1 Y.2.2.2.1] { frames := Y.2.2.2.2.1, cells := zC - zc S, slots := zZ - zs S, locals := Y.2.2.2.2.2 }) (z_Pre D cA ad S as) (fun _ _ _ _ _ => True) (fun _ st o t => z_Q D cA st ad S r S1 o t)
/-! entry -/
def z_cat : ZV → Nat
  | .inr (.inl _) => 2
  | _ => 1
theorem z_cat_v (ad : Nat → Nat → Nat) (v : ZV) : (z_v ad v).category = z_cat v := by
  rcases v with x | x | ⟨k, o⟩
  · rfl
  · rfl
  · cases o <;> rfl
def z_args : Nat → List ZV → List (Nat × ZV)
  | _, [] => []
  | i, v :: vs => (i, v) :: z_args (if z_cat v = 2 then i + 2 else i + 1) vs
theorem z_args_v (ad : Nat → Nat → Nat) : ∀ (as : List ZV) (i : Nat), lv_args i (as.map (z_v ad)) = z_lo ad (z_args i as)
  | [], _ => rfl
  | v :: vs, i => by
    show (i, z_v ad v) :: lv_args _ (vs.map (z_v ad)) = (i, z_v ad v) :: z_lo ad (z_args _ vs)
    rw [z_cat_v, z_args_v ad vs]
def z_wd : List ZV → Nat
  | [] => 0
  | v :: vs => z_cat v + z_wd vs
theorem z_wd_v (ad : Nat → Nat → Nat) : ∀ as : List ZV, ((as.map (z_v ad)).map fun v => v.category).sum = z_wd as
  | [] => rfl
  | v :: vs => by
    show ((z_v ad v).category :: ((vs.map (z_v ad)).map fun v => v.category)).sum = z_cat v + z_wd vs
    rw [List.sum_cons, z_cat_v, z_wd_v ad vs]
theorem z_sl_v (ad : Nat → Nat → Nat) : ∀ as : List ZV, (lg_sl (as.map (z_v ad))).length = z_wd as
  | [] => rfl
  | v :: vs => by
    have h := z_sl_v ad vs
    have hc := z_cat_v ad v
    have e : lg_sl ((v :: vs).map (z_v ad)) = (if (z_v ad v).category = 2 then [Slot.val (z_v ad v), .second] else [.val (z_v ad v)]) ++ lg_sl (vs.map (z_v ad)) := by simp [lg_sl]
    rw [e, List.length_append, h, hc]
    show _ = z_cat v + z_wd vs
    rcases lv_cat (z_v ad v) with q | q <;> rw [hc] at q <;> simp [q]
theorem z_args_ok {S : ZH} : ∀ (as : List ZV) (i : Nat), (∀ v ∈ as, z_ok S v) → ∀ q ∈ z_args i as, z_ok S q.2
  | [], _, _, q, hq => by cases hq
  | v :: vs, i, h, q, hq => by
    rcases List.mem_cons.mp hq with rfl | hq
    · exact h v List.mem_cons_self
    · exact z_args_ok vs _ (fun w hw => h w (List.mem_cons_of_mem _ hw)) q hq
theorem z_mem_ws {S : ZH} {L : List (Nat × Nat)} {cA : Nat → ClassId} {ad : Nat → Nat → Nat} (hL : z_mem S L) {k i : Nat} (hk : k < 99) (hi : i < zN S k) : ∃ q0 : Nat, L[q0]? = some (k, i) ∧ (z_ws cA ad S L)[q0]? = some (ad k i, z_cell cA ad S k i) := by
  obtain ⟨q0, hq⟩ := List.getElem?_of_mem ((hL k i).mpr ⟨hk, hi⟩)
  exact ⟨q0, hq, by simp [z_ws, hq]⟩
theorem z_A_of {S : ZH} {L : List (Nat × Nat)} {cA : Nat → ClassId} {ad : Nat → Nat → Nat} {sz n : Nat} (hL : z_mem S L) {q : Nat × va_E} (hq : (z_ws cA ad S L)[n]? = some q) : z_A ad S sz q.1 := by
  rw [z_ws, List.getElem?_map] at hq
  cases h : L[n]? with
  | none => rw [h] at hq; cases hq
  | some x =>
    rw [h] at hq
    cases hq
    obtain ⟨k, i⟩ := x
    have h2 := (hL k i).mp (List.mem_of_getElem? h)
    exact Or.inl ⟨k, i, h2.1, h2.2, rfl⟩
set_option maxHeartbeats 1000000 in
theorem MetX.of {Y : ZM} {S : ZH} {as : List ZV} {r : Option ZV} {S1 : ZH} {lo : List (Nat × ZV)} (hlo : z_args 0 as = lo) (hy : plainName Y.1.cls = true) (hw : z_wd as ≤ Y.2.2.1) (h : Wp Y S (zF S r S1) 0 lo [] S) : MetX Y S as r S1 := by
  intro l D cA ad
  subst hlo
  refine MetFree.of_bodyS (code := Y.2.1) (maxLocals := Y.2.2.1) (ret := Y.2.2.2.1) hy ?_ ?_
  · intro args s m hp hn
    obtain ⟨meth, c, h1, h2, h3, h4, h5, h6, -, -⟩ := Cond.code_spec hn (atoms_spec (ws := [.code Y.1 Y.2.1 Y.2.2.1 Y.2.2.2.1]) hp _ List.mem_cons_self)
    exact ⟨meth, c, h1, h2, h3, h4, h5, h6⟩
  · intro p e s m args below meth c s₁ B hml hP _
    obtain ⟨rfl, ⟨L, hL, hPw, hD⟩, hrf, hok, hcap, hwd, hK⟩ := hP
    have hh0 : s₁.heap = s.heap := by rw [B.state]; rfl
    have hl := lv_entry (as.map (z_v ad)) (n := Y.2.2.1) (by rw [z_sl_v]; exact hw)
    rw [z_args_v] at hl
    have key := h p l e ({ frames := Y.2.2.2.2.1, cells := zC - zc S, slots := zZ - zs S, locals := Y.2.2.2.2.2 } : Room) s m (as.map (z_v ad)).toArray below meth c D cA ad ad L s.heap [] 0 0 _ _
      ⟨B.exec, B.bytes, hml, B.returns, B.notSynchronized, findClass_of_methodNamed B.named, hwd, fun q => (name_of_methodNamed B.named B.method).1.trans q, ⟨Nat.le_refl _, Nat.le_refl _, by show zC ≤ zc S + (zC - zc S); omega, by show zZ ≤ zs S + (zZ - zs S); omega⟩, hK⟩ rfl
      ⟨hL, hPw, ⟨hD.1, fun n q hq => z_A_of hL hq⟩, hrf, va_S.rf, ⟨fun _ => Nat.le_refl _, fun _ _ _ => rfl⟩, z_args_ok as 0 hok, (fun v hv => by cases hv), ⟨rfl, rfl, hcap.1, hcap.2⟩, hl⟩
    obtain ⟨t, a1, o, b1, b2, b3⟩ := key s₁ hh0 (Stand.of_body B)
    exact ⟨t, o, by rw [lg_entry_eq]; exact a1, b1, b2, b3⟩
/-! ===== rules: an instruction each ===== -/
theorem z_St.stk {nL : Nat} {D : va_G} {cA : Nat → ClassId} {ad0 : Nat → Nat → Nat} {S0 : ZH} {s : State} {ad : Nat → Nat → Nat} {S : ZH} {L : List (Nat × Nat)} {H : Heap} {locs : List Loc} {cells slots : Nat} {ls : Array Slot} {lo : List (Nat × ZV)} {st st' : List ZV} (h : z_St nL D cA ad0 S0 s ad S L H locs cells slots ls lo st) (h' : (∀ v ∈ st, z_ok S v) → ∀ v ∈ st', z_ok S v) : z_St nL D cA ad0 S0 s ad S L H locs cells slots ls lo st' :=
  ⟨h.1, h.2.1, h.2.2.1, h.2.2.2.1, h.2.2.2.2.1, h.2.2.2.2.2.1, h.2.2.2.2.2.2.1, h' h.2.2.2.2.2.2.2.1, h.2.2.2.2.2.2.2.2.1, h.2.2.2.2.2.2.2.2.2⟩
theorem z_St.loc {nL : Nat} {D : va_G} {cA : Nat → ClassId} {ad0 : Nat → Nat → Nat} {S0 : ZH} {s : State} {ad : Nat → Nat → Nat} {S : ZH} {L : List (Nat × Nat)} {H : Heap} {locs : List Loc} {cells slots : Nat} {ls ls' : Array Slot} {lo lo' : List (Nat × ZV)} {st st' : List ZV} (h : z_St nL D cA ad0 S0 s ad S L H locs cells slots ls lo st) (h1 : ∀ q ∈ lo', z_ok S q.2) (h' : ∀ v ∈ st', z_ok S v) (hl : lv_has ls' nL (z_lo ad lo')) : z_St nL D cA ad0 S0 s ad S L H locs cells slots ls' lo' st' :=
  ⟨h.1, h.2.1, h.2.2.1, h.2.2.2.1, h.2.2.2.2.1, h.2.2.2.2.2.1, h1, h', h.2.2.2.2.2.2.2.2.1, hl⟩
theorem z_oI {S : ZH} {x : Int32} {st : List ZV} (h : ∀ v ∈ st, z_ok S v) : ∀ v ∈ z_i x :: st, z_ok S v := List.forall_mem_cons.mpr ⟨trivial, h⟩
theorem z_oL {S : ZH} {x : Int64} {st : List ZV} (h : ∀ v ∈ st, z_ok S v) : ∀ v ∈ z_l x :: st, z_ok S v := List.forall_mem_cons.mpr ⟨trivial, h⟩
theorem z_oT {S : ZH} {x : ZV} {st : List ZV} (h : ∀ v ∈ x :: st, z_ok S v) : ∀ v ∈ st, z_ok S v := (List.forall_mem_cons.mp h).2
theorem z_oH {S : ZH} {x : ZV} {st : List ZV} (h : ∀ v ∈ x :: st, z_ok S v) : z_ok S x := (List.forall_mem_cons.mp h).1
theorem z_oC {S : ZH} {x : ZV} {st : List ZV} (hx : z_ok S x) (h : ∀ v ∈ st, z_ok S v) : ∀ v ∈ x :: st, z_ok S v := List.forall_mem_cons.mpr ⟨hx, h⟩
theorem z_lo_at {ad : Nat → Nat → Nat} {ls : Array Slot} {nL : Nat} {lo : List (Nat × ZV)} (h : lv_has ls nL (z_lo ad lo)) (n : Nat) {i : Nat} {v : ZV} (hn : lo[n]? = some (i, v)) : ls[i]? = some (.val (z_v ad v)) := lv_at h n (by rw [z_lo, List.getElem?_map, hn]; rfl)
def z_put (lo : List (Nat × ZV)) (i : Nat) (v : ZV) : List (Nat × ZV) := (i, v) :: lo.filter (fun q => !(q.1 == i) && !(q.1 + 1 == i && z_cat q.2 == 2))
def z_put2 (lo : List (Nat × ZV)) (i : Nat) (v : ZV) : List (Nat × ZV) := (i, v) :: lo.filter (fun q => !(q.1 == i) && (!(q.1 == i + 1) && !(q.1 + 1 == i && z_cat q.2 == 2)))
theorem z_put_lo (ad : Nat → Nat → Nat) (lo : List (Nat × ZV)) (i : Nat) (v : ZV) : (i, z_v ad v) :: (z_lo ad lo).filter (fun q => !(q.1 == i) && !(q.1 + 1 == i && q.2.category == 2)) = z_lo ad (z_put lo i v) := by
  rw [z_lo, List.filter_map]
  show _ = (i, z_v ad v) :: (lo.filter _).map _
  congr 2
  apply List.filter_congr
  intro q _
  show (!(q.1 == i) && !(q.1 + 1 == i && (z_v ad q.2).category == 2)) = _
  rw [z_cat_v]
theorem z_put2_lo (ad : Nat → Nat → Nat) (lo : List (Nat × ZV)) (i : Nat) (v : ZV) : (i, z_v ad v) :: (z_lo ad lo).filter (fun q => !(q.1 == i) && (!(q.1 == i + 1) && !(q.1 + 1 == i && q.2.category == 2))) = z_lo ad (z_put2 lo i v) := by
  rw [z_lo, List.filter_map]
  show _ = (i, z_v ad v) :: (lo.filter _).map _
  congr 2
  apply List.filter_congr
  intro q _
  show (!(q.1 == i) && (!(q.1 == i + 1) && !(q.1 + 1 == i && (z_v ad q.2).category == 2))) = _
  rw [z_cat_v]
theorem z_put_ok {S : ZH} {lo : List (Nat × ZV)} {i : Nat} {v : ZV} (h : ∀ q ∈ lo, z_ok S q.2) (hv : z_ok S v) : ∀ q ∈ z_put lo i v, z_ok S q.2 := List.forall_mem_cons.mpr ⟨hv, fun q hq => h q (List.mem_filter.mp hq).1⟩
theorem z_put2_ok {S : ZH} {lo : List (Nat × ZV)} {i : Nat} {v : ZV} (h : ∀ q ∈ lo, z_ok S q.2) (hv : z_ok S v) : ∀ q ∈ z_put2 lo i v, z_ok S q.2 := List.forall_mem_cons.mpr ⟨hv, fun q hq => h q (List.mem_filter.mp hq).1⟩
section ZRULES
variable {Y : ZM} {S0 : ZH} {F : ZP} {pc : Nat} {lo lo' : List (Nat × ZV)} {st : List ZV} {S : ZH}
/-- fewer locals -/
theorem x_lo (is : List Nat) (hs : is.filterMap (fun i => lo[i]?) = lo') (k : Wp Y S0 F pc lo' st S) : Wp Y S0 F pc lo st S := by
  intro p l e R s m args below meth c D cA ad0 ad L H locs cells slots ls Q hC hF hS
  have hsub : ∀ q ∈ lo', q ∈ lo := fun q hq => by
    rw [← hs] at hq
    obtain ⟨i, -, hi⟩ := List.mem_filterMap.mp hq
    exact List.mem_of_getElem? hi
  refine k p l e R s m args below meth c D cA ad0 ad L H locs cells slots ls Q hC hF (hS.loc (fun q hq => hS.2.2.2.2.2.2.1 q (hsub q hq)) hS.2.2.2.2.2.2.2.1 ⟨hS.2.2.2.2.2.2.2.2.2.1, hS.2.2.2.2.2.2.2.2.2.2.1, fun q hq => ?_⟩)
  obtain ⟨x, hx, rfl⟩ := List.mem_map.mp hq
  exact hS.2.2.2.2.2.2.2.2.2.2.2 _ (List.mem_map.mpr ⟨x, hsub x hx, rfl⟩)
theorem x_iconst {n : Int} {v : Int32} (d : decode Y.2.1 pc = .ok (.iconst n, 1)) (hv : Int32.ofInt n = v) (k : Wp Y S0 F (pc + 1) lo (z_i v :: st) S) : Wp Y S0 F pc lo (st) S := by
  intro p l e R s m args below meth c D cA ad0 ad L H locs cells slots ls Q hC hF hS
  exact lv_iconst hC.1 hC.2.1 d hv (k p l e R s m args below meth c D cA ad0 ad L H locs cells slots ls Q hC hF (hS.stk z_oI))
theorem x_bipush {n : Int} {v : Int32} (d : decode Y.2.1 pc = .ok (.bipush n, 2)) (hv : (Int8.ofInt n).toInt32 = v) (k : Wp Y S0 F (pc + 2) lo (z_i v :: st) S) : Wp Y S0 F pc lo (st) S := by
  intro p l e R s m args below meth c D cA ad0 ad L H locs cells slots ls Q hC hF hS
  exact lv_bipush hC.1 hC.2.1 d hv (k p l e R s m args below meth c D cA ad0 ad L H locs cells slots ls Q hC hF (hS.stk z_oI))
theorem x_sipush {n : Int} {v : Int32} (d : decode Y.2.1 pc = .ok (.sipush n, 3)) (hv : (Int16.ofInt n).toInt32 = v) (k : Wp Y S0 F (pc + 3) lo (z_i v :: st) S) : Wp Y S0 F pc lo (st) S := by
  intro p l e R s m args below meth c D cA ad0 ad L H locs cells slots ls Q hC hF hS
  exact lv_sipush hC.1 hC.2.1 d hv (k p l e R s m args below meth c D cA ad0 ad L H locs cells slots ls Q hC hF (hS.stk z_oI))
theorem x_lconst {n : Fin 2} {v : Int64} (d : decode Y.2.1 pc = .ok (.lconst n, 1)) (hv : Int64.ofNat (n : Nat) = v) (k : Wp Y S0 F (pc + 1) lo (z_l v :: st) S) : Wp Y S0 F pc lo (st) S := by
  intro p l e R s m args below meth c D cA ad0 ad L H locs cells slots ls Q hC hF hS
  exact lv_lconst hC.1 hC.2.1 d hv (k p l e R s m args below meth c D cA ad0 ad L H locs cells slots ls Q hC hF (hS.stk z_oL))
theorem x_null (kd : Nat) (d : decode Y.2.1 pc = .ok (.aconst_null, 1)) (k : Wp Y S0 F (pc + 1) lo (z_r kd none :: st) S) : Wp Y S0 F pc lo (st) S := by
  intro p l e R s m args below meth c D cA ad0 ad L H locs cells slots ls Q hC hF hS
  exact lv_null hC.1 hC.2.1 d (k p l e R s m args below meth c D cA ad0 ad L H locs cells slots ls Q hC hF (hS.stk (z_oC trivial)))
theorem x_iload_n {n : Fin 4} {i : Nat} {x : Int32} (q : Nat) (d : decode Y.2.1 pc = .ok (.iload_n n, 1)) (hi : (n : Nat) = i) (hl : lo[q]? = some (i, z_i x)) (k : Wp Y S0 F (pc + 1) lo (z_i x :: st) S) : Wp Y S0 F pc lo (st) S := by
  intro p l e R s m args below meth c D cA ad0 ad L H locs cells slots ls Q hC hF hS
  exact lv_iload_n hC.1 hC.2.1 d hi (z_lo_at hS.2.2.2.2.2.2.2.2.2 q hl) (k p l e R s m args below meth c D cA ad0 ad L H locs cells slots ls Q hC hF (hS.stk z_oI))
theorem x_iload {i : Nat} {x : Int32} (q : Nat) (d : decode Y.2.1 pc = .ok (.iload i, 2)) (hl : lo[q]? = some (i, z_i x)) (k : Wp Y S0 F (pc + 2) lo (z_i x :: st) S) : Wp Y S0 F pc lo (st) S := by
  intro p l e R s m args below meth c D cA ad0 ad L H locs cells slots ls Q hC hF hS
  exact lv_iload hC.1 hC.2.1 d (z_lo_at hS.2.2.2.2.2.2.2.2.2 q hl) (k p l e R s m args below meth c D cA ad0 ad L H locs cells slots ls Q hC hF (hS.stk z_oI))
theorem x_lload_n {n : Fin 4} {i : Nat} {x : Int64} (q : Nat) (d : decode Y.2.1 pc = .ok (.lload_n n, 1)) (hi : (n : Nat) = i) (hl : lo[q]? = some (i, z_l x)) (k : Wp Y S0 F (pc + 1) lo (z_l x :: st) S) : Wp Y S0 F pc lo (st) S := by
  intro p l e R s m args below meth c D cA ad0 ad L H locs cells slots ls Q hC hF hS
  exact lv_lload_n hC.1 hC.2.1 d hi (z_lo_at hS.2.2.2.2.2.2.2.2.2 q hl) (k p l e R s m args below meth c D cA ad0 ad L H locs cells slots ls Q hC hF (hS.stk z_oL))
theorem x_lload {i : Nat} {x : Int64} (q : Nat) (d : decode Y.2.1 pc = .ok (.lload i, 2)) (hl : lo[q]? = some (i, z_l x)) (k : Wp Y S0 F (pc + 2) lo (z_l x :: st) S) : Wp Y S0 F pc lo (st) S := by
  intro p l e R s m args below meth c D cA ad0 ad L H locs cells slots ls Q hC hF hS
  exact lv_lload hC.1 hC.2.1 d (z_lo_at hS.2.2.2.2.2.2.2.2.2 q hl) (k p l e R s m args below meth c D cA ad0 ad L H locs cells slots ls Q hC hF (hS.stk z_oL))
theorem x_aload_n {n : Fin 4} {i kd : Nat} {x : Option Nat} (q : Nat) (d : decode Y.2.1 pc = .ok (.aload_n n, 1)) (hi : (n : Nat) = i) (hl : lo[q]? = some (i, z_r kd x)) (k : Wp Y S0 F (pc + 1) lo (z_r kd x :: st) S) : Wp Y S0 F pc lo st S := by
  intro p l e R s m args below meth c D cA ad0 ad L H locs cells slots ls Q hC hF hS
  have h1 := z_lo_at hS.2.2.2.2.2.2.2.2.2 q hl
  have hx : z_ok S (z_r kd x) := hS.2.2.2.2.2.2.1 _ (List.mem_of_getElem? hl)
  have h2 := k p l e R s m args below meth c D cA ad0 ad L H locs cells slots ls Q hC hF (hS.stk (z_oC hx))
  cases x with
  | none => exact lv_aload_nN hC.1 hC.2.1 d hi h1 h2
  | some a => exact lv_aload_n hC.1 hC.2.1 d hi h1 h2
theorem x_aload {i kd : Nat} {x : Option Nat} (q : Nat) (d : decode Y.2.1 pc = .ok (.aload i, 2)) (hl : lo[q]? = some (i, z_r kd x)) (k : Wp Y S0 F (pc + 2) lo (z_r kd x :: st) S) : Wp Y S0 F pc lo st S := by
  intro p l e R s m args below meth c D cA ad0 ad L H locs cells slots ls Q hC hF hS
  have h1 := z_lo_at hS.2.2.2.2.2.2.2.2.2 q hl
  have hx : z_ok S (z_r kd x) := hS.2.2.2.2.2.2.1 _ (List.mem_of_getElem? hl)
  have h2 := k p l e R s m args below meth c D cA ad0 ad L H locs cells slots ls Q hC hF (hS.stk (z_oC hx))
  cases x with
  | none => exact lv_aloadN hC.1 hC.2.1 d h1 h2
  | some a => exact lv_aload hC.1 hC.2.1 d h1 h2
theorem x_istore_n {n : Fin 4} {i : Nat} {x : Int32} (d : decode Y.2.1 pc = .ok (.istore_n n, 1)) (hi : (n : Nat) = i) (hn : i < Y.2.2.1) (hl : z_put lo i (z_i x) = lo') (k : Wp Y S0 F (pc + 1) lo' st S) : Wp Y S0 F pc lo (z_i x :: st) S := by
  intro p l e R s m args below meth c D cA ad0 ad L H locs cells slots ls Q hC hF hS
  subst hl
  exact lv_istore_n hC.1 hC.2.1 d hi hS.2.2.2.2.2.2.2.2.2 hn (z_put_lo ad lo i (z_i x)) (fun ls' hl' => k p l e R s m args below meth c D cA ad0 ad L H locs cells slots ls' Q hC hF (hS.loc (z_put_ok hS.2.2.2.2.2.2.1 trivial) (z_oT hS.2.2.2.2.2.2.2.1) hl'))
theorem x_istore {i : Nat} {x : Int32} (d : decode Y.2.1 pc = .ok (.istore i, 2)) (hn : i < Y.2.2.1) (hl : z_put lo i (z_i x) = lo') (k : Wp Y S0 F (pc + 2) lo' st S) : Wp Y S0 F pc lo (z_i x :: st) S := by
  intro p l e R s m args below meth c D cA ad0 ad L H locs cells slots ls Q hC hF hS
  subst hl
  exact lv_istore hC.1 hC.2.1 d hS.2.2.2.2.2.2.2.2.2 hn (z_put_lo ad lo i (z_i x)) (fun ls' hl' => k p l e R s m args below meth c D cA ad0 ad L H locs cells slots ls' Q hC hF (hS.loc (z_put_ok hS.2.2.2.2.2.2.1 trivial) (z_oT hS.2.2.2.2.2.2.2.1) hl'))
theorem x_lstore_n {n : Fin 4} {i : Nat} {x : Int64} (d : decode Y.2.1 pc = .ok (.lstore_n n, 1)) (hi : (n : Nat) = i) (hn : i + 1 < Y.2.2.1) (hl : z_put2 lo i (z_l x) = lo') (k : Wp Y S0 F (pc + 1) lo' st S) : Wp Y S0 F pc lo (z_l x :: st) S := by
  intro p l e R s m args below meth c D cA ad0 ad L H locs cells slots ls Q hC hF hS
  subst hl
  exact lv_lstore_n hC.1 hC.2.1 d hi hS.2.2.2.2.2.2.2.2.2 hn (z_put2_lo ad lo i (z_l x)) (fun ls' hl' => k p l e R s m args below meth c D cA ad0 ad L H locs cells slots ls' Q hC hF (hS.loc (z_put2_ok hS.2.2.2.2.2.2.1 trivial) (z_oT hS.2.2.2.2.2.2.2.1) hl'))
theorem x_lstore {i : Nat} {x : Int64} (d : decode Y.2.1 pc = .ok (.lstore i, 2)) (hn : i + 1 < Y.2.2.1) (hl : z_put2 lo i (z_l x) = lo') (k : Wp Y S0 F (pc + 2) lo' st S) : Wp Y S0 F pc lo (z_l x :: st) S := by
  intro p l e R s m args below meth c D cA ad0 ad L H locs cells slots ls Q hC hF hS
  subst hl
  exact lv_lstore hC.1 hC.2.1 d hS.2.2.2.2.2.2.2.2.2 hn (z_put2_lo ad lo i (z_l x)) (fun ls' hl' => k p l e R s m args below meth c D cA ad0 ad L H locs cells slots ls' Q hC hF (hS.loc (z_put2_ok hS.2.2.2.2.2.2.1 trivial) (z_oT hS.2.2.2.2.2.2.2.1) hl'))
theorem x_astore_n {n : Fin 4} {i kd : Nat} {x : Option Nat} (d : decode Y.2.1 pc = .ok (.astore_n n, 1)) (hi : (n : Nat) = i) (hn : i < Y.2.2.1) (hl : z_put lo i (z_r kd x) = lo') (k : Wp Y S0 F (pc + 1) lo' st S) : Wp Y S0 F pc lo (z_r kd x :: st) S := by
  intro p l e R s m args below meth c D cA ad0 ad L H locs cells slots ls Q hC hF hS
  subst hl
  have h1 : ∀ ls', lv_has ls' Y.2.2.1 (z_lo ad (z_put lo i (z_r kd x))) → _ := fun ls' hl' => k p l e R s m args below meth c D cA ad0 ad L H locs cells slots ls' Q hC hF (hS.loc (z_put_ok hS.2.2.2.2.2.2.1 (z_oH hS.2.2.2.2.2.2.2.1)) (z_oT hS.2.2.2.2.2.2.2.1) hl')
  have h2 := z_put_lo ad lo i (z_r kd x)
  cases x with
  | none => exact lv_astore_nN hC.1 hC.2.1 d hi hS.2.2.2.2.2.2.2.2.2 hn h2 h1
  | some a => exact lv_astore_n hC.1 hC.2.1 d hi hS.2.2.2.2.2.2.2.2.2 hn h2 h1
theorem x_astore {i kd : Nat} {x : Option Nat} (d : decode Y.2.1 pc = .ok (.astore i, 2)) (hn : i < Y.2.2.1) (hl : z_put lo i (z_r kd x) = lo') (k : Wp Y S0 F (pc + 2) lo' st S) : Wp Y S0 F pc lo (z_r kd x :: st) S := by
  intro p l e R s m args below meth c D cA ad0 ad L H locs cells slots ls Q hC hF hS
  subst hl
  have h1 : ∀ ls', lv_has ls' Y.2.2.1 (z_lo ad (z_put lo i (z_r kd x))) → _ := fun ls' hl' => k p l e R s m args below meth c D cA ad0 ad L H locs cells slots ls' Q hC hF (hS.loc (z_put_ok hS.2.2.2.2.2.2.1 (z_oH hS.2.2.2.2.2.2.2.1)) (z_oT hS.2.2.2.2.2.2.2.1) hl')
  have h2 := z_put_lo ad lo i (z_r kd x)
  cases x with
  | none => exact lv_astoreN hC.1 hC.2.1 d hS.2.2.2.2.2.2.2.2.2 hn h2 h1
  | some a => exact lv_astore hC.1 hC.2.1 d hS.2.2.2.2.2.2.2.2.2 hn h2 h1
theorem x_iinc {i : Nat} {n : Int} {x v : Int32} (q : Nat) (d : decode Y.2.1 pc = .ok (.iinc i n, 3)) (hq : lo[q]? = some (i, z_i x)) (hv : x + Int32.ofInt n = v) (hn : i < Y.2.2.1) (hl : z_put lo i (z_i v) = lo') (k : Wp Y S0 F (pc + 3) lo' st S) : Wp Y S0 F pc lo st S := by
  intro p l e R s m args below meth c D cA ad0 ad L H locs cells slots ls Q hC hF hS
  subst hl
  exact lv_iinc (k := q) hC.1 hC.2.1 d hS.2.2.2.2.2.2.2.2.2 (by rw [z_lo, List.getElem?_map, hq]; rfl) hv hn (z_put_lo ad lo i (z_i v)) (fun ls' hl' => k p l e R s m args below meth c D cA ad0 ad L H locs cells slots ls' Q hC hF (hS.loc (z_put_ok hS.2.2.2.2.2.2.1 trivial) hS.2.2.2.2.2.2.2.1 hl'))
theorem x_iadd {x y : Int32} (d : decode Y.2.1 pc = .ok (.iadd, 1)) (k : Wp Y S0 F (pc + 1) lo (z_i (x + y) :: st) S) : Wp Y S0 F pc lo (z_i y :: z_i x :: st) S := by
  intro p l e R s m args below meth c D cA ad0 ad L H locs cells slots ls Q hC hF hS
  exact lv_iadd hC.1 hC.2.1 d (k p l e R s m args below meth c D cA ad0 ad L H locs cells slots ls Q hC hF (hS.stk (fun h => z_oI (z_oT (z_oT h)))))
theorem x_isub {x y : Int32} (d : decode Y.2.1 pc = .ok (.isub, 1)) (k : Wp Y S0 F (pc + 1) lo (z_i (x - y) :: st) S) : Wp Y S0 F pc lo (z_i y :: z_i x :: st) S := by
  intro p l e R s m args below meth c D cA ad0 ad L H locs cells slots ls Q hC hF hS
  exact lv_isub hC.1 hC.2.1 d (k p l e R s m args below meth c D cA ad0 ad L H locs cells slots ls Q hC hF (hS.stk (fun h => z_oI (z_oT (z_oT h)))))
theorem x_imul {x y : Int32} (d : decode Y.2.1 pc = .ok (.imul, 1)) (k : Wp Y S0 F (pc + 1) lo (z_i (x * y) :: st) S) : Wp Y S0 F pc lo (z_i y :: z_i x :: st) S := by
  intro p l e R s m args below meth c D cA ad0 ad L H locs cells slots ls Q hC hF hS
  exact lv_imul hC.1 hC.2.1 d (k p l e R s m args below meth c D cA ad0 ad L H locs cells slots ls Q hC hF (hS.stk (fun h => z_oI (z_oT (z_oT h)))))
theorem x_iand {x y : Int32} (d : decode Y.2.1 pc = .ok (.iand, 1)) (k : Wp Y S0 F (pc + 1) lo (z_i (x &&& y) :: st) S) : Wp Y S0 F pc lo (z_i y :: z_i x :: st) S := by
  intro p l e R s m args below meth c D cA ad0 ad L H locs cells slots ls Q hC hF hS
  exact lv_iand hC.1 hC.2.1 d (k p l e R s m args below meth c D cA ad0 ad L H locs cells slots ls Q hC hF (hS.stk (fun h => z_oI (z_oT (z_oT h)))))
theorem x_ior {x y : Int32} (d : decode Y.2.1 pc = .ok (.ior, 1)) (k : Wp Y S0 F (pc + 1) lo (z_i (x ||| y) :: st) S) : Wp Y S0 F pc lo (z_i y :: z_i x :: st) S := by
  intro p l e R s m args below meth c D cA ad0 ad L H locs cells slots ls Q hC hF hS
  exact lv_ior hC.1 hC.2.1 d (k p l e R s m args below meth c D cA ad0 ad L H locs cells slots ls Q hC hF (hS.stk (fun h => z_oI (z_oT (z_oT h)))))
theorem x_ixor {x y : Int32} (d : decode Y.2.1 pc = .ok (.ixor, 1)) (k : Wp Y S0 F (pc + 1) lo (z_i (x ^^^ y) :: st) S) : Wp Y S0 F pc lo (z_i y :: z_i x :: st) S := by
  intro p l e R s m args below meth c D cA ad0 ad L H locs cells slots ls Q hC hF hS
  exact lv_ixor hC.1 hC.2.1 d (k p l e R s m args below meth c D cA ad0 ad L H locs cells slots ls Q hC hF (hS.stk (fun h => z_oI (z_oT (z_oT h)))))
theorem x_ishl {x y : Int32} (d : decode Y.2.1 pc = .ok (.ishl, 1)) (k : Wp Y S0 F (pc + 1) lo (z_i (x <<< (y &&& 31)) :: st) S) : Wp Y S0 F pc lo (z_i y :: z_i x :: st) S := by
  intro p l e R s m args below meth c D cA ad0 ad L H locs cells slots ls Q hC hF hS
  exact lv_ishl hC.1 hC.2.1 d (k p l e R s m args below meth c D cA ad0 ad L H locs cells slots ls Q hC hF (hS.stk (fun h => z_oI (z_oT (z_oT h)))))
theorem x_ishr {x y : Int32} (d : decode Y.2.1 pc = .ok (.ishr, 1)) (k : Wp Y S0 F (pc + 1) lo (z_i (x >>> (y &&& 31)) :: st) S) : Wp Y S0 F pc lo (z_i y :: z_i x :: st) S := by
  intro p l e R s m args below meth c D cA ad0 ad L H locs cells slots ls Q hC hF hS
  exact lv_ishr hC.1 hC.2.1 d (k p l e R s m args below meth c D cA ad0 ad L H locs cells slots ls Q hC hF (hS.stk (fun h => z_oI (z_oT (z_oT h)))))
theorem x_iushr {x y : Int32} (d : decode Y.2.1 pc = .ok (.iushr, 1)) (k : Wp Y S0 F (pc + 1) lo (z_i ((x.toUInt32 >>> (y.toUInt32 &&& Int32.toUInt32 31)).toInt32) :: st) S) : Wp Y S0 F pc lo (z_i y :: z_i x :: st) S := by
  intro p l e R s m args below meth c D cA ad0 ad L H locs cells slots ls Q hC hF hS
  exact lv_iushr hC.1 hC.2.1 d rfl (k p l e R s m args below meth c D cA ad0 ad L H locs cells slots ls Q hC hF (hS.stk (fun h => z_oI (z_oT (z_oT h)))))
theorem x_idiv {x y : Int32} (d : decode Y.2.1 pc = .ok (.idiv, 1)) (hne : ¬ y = 0) (k : Wp Y S0 F (pc + 1) lo (z_i (x / y) :: st) S) : Wp Y S0 F pc lo (z_i y :: z_i x :: st) S := by
  intro p l e R s m args below meth c D cA ad0 ad L H locs cells slots ls Q hC hF hS
  exact lv_idiv hC.1 hC.2.1 d hne (k p l e R s m args below meth c D cA ad0 ad L H locs cells slots ls Q hC hF (hS.stk (fun h => z_oI (z_oT (z_oT h)))))
theorem x_irem {x y : Int32} (d : decode Y.2.1 pc = .ok (.irem, 1)) (hne : ¬ y = 0) (k : Wp Y S0 F (pc + 1) lo (z_i (x - x / y * y) :: st) S) : Wp Y S0 F pc lo (z_i y :: z_i x :: st) S := by
  intro p l e R s m args below meth c D cA ad0 ad L H locs cells slots ls Q hC hF hS
  exact lv_irem hC.1 hC.2.1 d hne (k p l e R s m args below meth c D cA ad0 ad L H locs cells slots ls Q hC hF (hS.stk (fun h => z_oI (z_oT (z_oT h)))))
theorem x_ineg {x : Int32} (d : decode Y.2.1 pc = .ok (.ineg, 1)) (k : Wp Y S0 F (pc + 1) lo (z_i (-x) :: st) S) : Wp Y S0 F pc lo (z_i x :: st) S := by
  intro p l e R s m args below meth c D cA ad0 ad L H locs cells slots ls Q hC hF hS
  exact lv_ineg hC.1 hC.2.1 d (k p l e R s m args below meth c D cA ad0 ad L H locs cells slots ls Q hC hF (hS.stk (fun h => z_oI (z_oT h))))
theorem x_ladd {x y : Int64} (d : decode Y.2.1 pc = .ok (.ladd, 1)) (k : Wp Y S0 F (pc + 1) lo (z_l (x + y) :: st) S) : Wp Y S0 F pc lo (z_l y :: z_l x :: st) S := by
  intro p l e R s m args below meth c D cA ad0 ad L H locs cells slots ls Q hC hF hS
  exact lv_ladd hC.1 hC.2.1 d (k p l e R s m args below meth c D cA ad0 ad L H locs cells slots ls Q hC hF (hS.stk (fun h => z_oL (z_oT (z_oT h)))))
theorem x_lsub {x y : Int64} (d : decode Y.2.1 pc = .ok (.lsub, 1)) (k : Wp Y S0 F (pc + 1) lo (z_l (x - y) :: st) S) : Wp Y S0 F pc lo (z_l y :: z_l x :: st) S := by
  intro p l e R s m args below meth c D cA ad0 ad L H locs cells slots ls Q hC hF hS
  exact lv_lsub hC.1 hC.2.1 d (k p l e R s m args below meth c D cA ad0 ad L H locs cells slots ls Q hC hF (hS.stk (fun h => z_oL (z_oT (z_oT h)))))
theorem x_land {x y : Int64} (d : decode Y.2.1 pc = .ok (.land, 1)) (k : Wp Y S0 F (pc + 1) lo (z_l (x &&& y) :: st) S) : Wp Y S0 F pc lo (z_l y :: z_l x :: st) S := by
  intro p l e R s m args below meth c D cA ad0 ad L H locs cells slots ls Q hC hF hS
  exact lv_land hC.1 hC.2.1 d (k p l e R s m args below meth c D cA ad0 ad L H locs cells slots ls Q hC hF (hS.stk (fun h => z_oL (z_oT (z_oT h)))))
theorem x_lor {x y : Int64} (d : decode Y.2.1 pc = .ok (.lor, 1)) (k : Wp Y S0 F (pc + 1) lo (z_l (x ||| y) :: st) S) : Wp Y S0 F pc lo (z_l y :: z_l x :: st) S := by
  intro p l e R s m args below meth c D cA ad0 ad L H locs cells slots ls Q hC hF hS
  exact lv_lor hC.1 hC.2.1 d (k p l e R s m args below meth c D cA ad0 ad L H locs cells slots ls Q hC hF (hS.stk (fun h => z_oL (z_oT (z_oT h)))))
theorem x_lxor {x y : Int64} (d : decode Y.2.1 pc = .ok (.lxor, 1)) (k : Wp Y S0 F (pc + 1) lo (z_l (x ^^^ y) :: st) S) : Wp Y S0 F pc lo (z_l y :: z_l x :: st) S := by
  intro p l e R s m args below meth c D cA ad0 ad L H locs cells slots ls Q hC hF hS
  exact lv_lxor hC.1 hC.2.1 d (k p l e R s m args below meth c D cA ad0 ad L H locs cells slots ls Q hC hF (hS.stk (fun h => z_oL (z_oT (z_oT h)))))
theorem x_lushr {x : Int64} {y : Int32} (d : decode Y.2.1 pc = .ok (.lushr, 1)) (k : Wp Y S0 F (pc + 1) lo (z_l ((x.toUInt64 >>> (y.toInt64.toUInt64 &&& Int64.toUInt64 63)).toInt64) :: st) S) : Wp Y S0 F pc lo (z_i y :: z_l x :: st) S := by
  intro p l e R s m args below meth c D cA ad0 ad L H locs cells slots ls Q hC hF hS
  exact lv_lushr hC.1 hC.2.1 d rfl (k p l e R s m args below meth c D cA ad0 ad L H locs cells slots ls Q hC hF (hS.stk (fun h => z_oL (z_oT (z_oT h)))))
theorem x_lshl {x : Int64} {y : Int32} (d : decode Y.2.1 pc = .ok (.lshl, 1)) (k : Wp Y S0 F (pc + 1) lo (z_l (x <<< (y.toInt64 &&& 63)) :: st) S) : Wp Y S0 F pc lo (z_i y :: z_l x :: st) S := by
  intro p l e R s m args below meth c D cA ad0 ad L H locs cells slots ls Q hC hF hS
  exact lv_lshl hC.1 hC.2.1 d rfl (k p l e R s m args below meth c D cA ad0 ad L H locs cells slots ls Q hC hF (hS.stk (fun h => z_oL (z_oT (z_oT h)))))
theorem x_lcmp {x y : Int64} (d : decode Y.2.1 pc = .ok (.lcmp, 1)) (k : Wp Y S0 F (pc + 1) lo (z_i (lg_cmp x y) :: st) S) : Wp Y S0 F pc lo (z_l y :: z_l x :: st) S := by
  intro p l e R s m args below meth c D cA ad0 ad L H locs cells slots ls Q hC hF hS
  exact W.lcmp hC.1 hC.2.1 d (k p l e R s m args below meth c D cA ad0 ad L H locs cells slots ls Q hC hF (hS.stk (fun h => z_oI (z_oT (z_oT h)))))
theorem x_i2l {x : Int32} (d : decode Y.2.1 pc = .ok (.i2l, 1)) (k : Wp Y S0 F (pc + 1) lo (z_l x.toInt64 :: st) S) : Wp Y S0 F pc lo (z_i x :: st) S := by
  intro p l e R s m args below meth c D cA ad0 ad L H locs cells slots ls Q hC hF hS
  exact lv_i2l hC.1 hC.2.1 d rfl (k p l e R s m args below meth c D cA ad0 ad L H locs cells slots ls Q hC hF (hS.stk (fun h => z_oL (z_oT h))))
theorem x_l2i {x : Int64} (d : decode Y.2.1 pc = .ok (.l2i, 1)) (k : Wp Y S0 F (pc + 1) lo (z_i x.toInt32 :: st) S) : Wp Y S0 F pc lo (z_l x :: st) S := by
  intro p l e R s m args below meth c D cA ad0 ad L H locs cells slots ls Q hC hF hS
  exact lv_l2i hC.1 hC.2.1 d rfl (k p l e R s m args below meth c D cA ad0 ad L H locs cells slots ls Q hC hF (hS.stk (fun h => z_oI (z_oT h))))
theorem x_i2b {x : Int32} (d : decode Y.2.1 pc = .ok (.i2b, 1)) (k : Wp Y S0 F (pc + 1) lo (z_i x.toInt8.toInt32 :: st) S) : Wp Y S0 F pc lo (z_i x :: st) S := by
  intro p l e R s m args below meth c D cA ad0 ad L H locs cells slots ls Q hC hF hS
  exact lv_i2b hC.1 hC.2.1 d rfl (k p l e R s m args below meth c D cA ad0 ad L H locs cells slots ls Q hC hF (hS.stk (fun h => z_oI (z_oT h))))
theorem x_dup {v : ZV} (d : decode Y.2.1 pc = .ok (.dup, 1)) (hc : z_cat v = 1) (k : Wp Y S0 F (pc + 1) lo (v :: v :: st) S) : Wp Y S0 F pc lo (v :: st) S := by
  intro p l e R s m args below meth c D cA ad0 ad L H locs cells slots ls Q hC hF hS
  exact lv_dup hC.1 hC.2.1 d ((z_cat_v ad v).trans hc) (k p l e R s m args below meth c D cA ad0 ad L H locs cells slots ls Q hC hF (hS.stk (fun h => z_oC (z_oH h) h)))
theorem x_pop {v : ZV} (d : decode Y.2.1 pc = .ok (.pop, 1)) (hc : z_cat v = 1) (k : Wp Y S0 F (pc + 1) lo (st) S) : Wp Y S0 F pc lo (v :: st) S := by
  intro p l e R s m args below meth c D cA ad0 ad L H locs cells slots ls Q hC hF hS
  exact lv_pop hC.1 hC.2.1 d ((z_cat_v ad v).trans hc) (k p l e R s m args below meth c D cA ad0 ad L H locs cells slots ls Q hC hF (hS.stk z_oT))
theorem x_dup2 {v w : ZV} (d : decode Y.2.1 pc = .ok (.dup2, 1)) (hc : z_cat v = 1) (hw : z_cat w = 1) (k : Wp Y S0 F (pc + 1) lo (v :: w :: v :: w :: st) S) : Wp Y S0 F pc lo (v :: w :: st) S := by
  intro p l e R s m args below meth c D cA ad0 ad L H locs cells slots ls Q hC hF hS
  exact lv_dup2_11 hC.1 hC.2.1 d ((z_cat_v ad v).trans hc) ((z_cat_v ad w).trans hw) (k p l e R s m args below meth c D cA ad0 ad L H locs cells slots ls Q hC hF (hS.stk (fun h => z_oC (z_oH h) (z_oC (z_oH (z_oT h)) h))))
theorem x_if_eq {α : Type} {x : Int32} {off : Int} {tgt : Nat} {A B : Option α} {z : α} (d : decode Y.2.1 pc = .ok (.ifCond .eq off, 3)) (ht : (pc : Int) + off = (tgt : Int)) (h : (if x = 0 then A else B) = some z) (kt : A = some z → Wp Y S0 F tgt lo st S) (kf : B = some z → Wp Y S0 F (pc + 3) lo st S) : Wp Y S0 F pc lo (z_i x :: st) S := by
  intro p l e R s m args below meth c D cA ad0 ad L H locs cells slots ls Q hC hF hS
  exact lv_if_eq hC.1 hC.2.1 d ht (fun q => kt (by rw [if_pos q] at h; exact h) p l e R s m args below meth c D cA ad0 ad L H locs cells slots ls Q hC hF (hS.stk z_oT)) (fun q => kf (by rw [if_neg (by first | exact q | exact fun g => g q)] at h; exact h) p l e R s m args below meth c D cA ad0 ad L H locs cells slots ls Q hC hF (hS.stk z_oT))
theorem x_if_ne {α : Type} {x : Int32} {off : Int} {tgt : Nat} {A B : Option α} {z : α} (d : decode Y.2.1 pc = .ok (.ifCond .ne off, 3)) (ht : (pc : Int) + off = (tgt : Int)) (h : (if ¬ x = 0 then A else B) = some z) (kt : A = some z → Wp Y S0 F tgt lo st S) (kf : B = some z → Wp Y S0 F (pc + 3) lo st S) : Wp Y S0 F pc lo (z_i x :: st) S := by
  intro p l e R s m args below meth c D cA ad0 ad L H locs cells slots ls Q hC hF hS
  exact lv_if_ne hC.1 hC.2.1 d ht (fun q => kt (by rw [if_pos q] at h; exact h) p l e R s m args below meth c D cA ad0 ad L H locs cells slots ls Q hC hF (hS.stk z_oT)) (fun q => kf (by rw [if_neg (by first | exact q | exact fun g => g q)] at h; exact h) p l e R s m args below meth c D cA ad0 ad L H locs cells slots ls Q hC hF (hS.stk z_oT))
theorem x_if_lt {α : Type} {x : Int32} {off : Int} {tgt : Nat} {A B : Option α} {z : α} (d : decode Y.2.1 pc = .ok (.ifCond .lt off, 3)) (ht : (pc : Int) + off = (tgt : Int)) (h : (if x < 0 then A else B) = some z) (kt : A = some z → Wp Y S0 F tgt lo st S) (kf : B = some z → Wp Y S0 F (pc + 3) lo st S) : Wp Y S0 F pc lo (z_i x :: st) S := by
  intro p l e R s m args below meth c D cA ad0 ad L H locs cells slots ls Q hC hF hS
  exact lv_if_lt hC.1 hC.2.1 d ht (fun q => kt (by rw [if_pos q] at h; exact h) p l e R s m args below meth c D cA ad0 ad L H locs cells slots ls Q hC hF (hS.stk z_oT)) (fun q => kf (by rw [if_neg (by first | exact q | exact fun g => g q)] at h; exact h) p l e R s m args below meth c D cA ad0 ad L H locs cells slots ls Q hC hF (hS.stk z_oT))
theorem x_if_ge {α : Type} {x : Int32} {off : Int} {tgt : Nat} {A B : Option α} {z : α} (d : decode Y.2.1 pc = .ok (.ifCond .ge off, 3)) (ht : (pc : Int) + off = (tgt : Int)) (h : (if 0 ≤ x then A else B) = some z) (kt : A = some z → Wp Y S0 F tgt lo st S) (kf : B = some z → Wp Y S0 F (pc + 3) lo st S) : Wp Y S0 F pc lo (z_i x :: st) S := by
  intro p l e R s m args below meth c D cA ad0 ad L H locs cells slots ls Q hC hF hS
  exact lv_if_ge hC.1 hC.2.1 d ht (fun q => kt (by rw [if_pos q] at h; exact h) p l e R s m args below meth c D cA ad0 ad L H locs cells slots ls Q hC hF (hS.stk z_oT)) (fun q => kf (by rw [if_neg (by first | exact q | exact fun g => g q)] at h; exact h) p l e R s m args below meth c D cA ad0 ad L H locs cells slots ls Q hC hF (hS.stk z_oT))
theorem x_if_gt {α : Type} {x : Int32} {off : Int} {tgt : Nat} {A B : Option α} {z : α} (d : decode Y.2.1 pc = .ok (.ifCond .gt off, 3)) (ht : (pc : Int) + off = (tgt : Int)) (h : (if 0 < x then A else B) = some z) (kt : A = some z → Wp Y S0 F tgt lo st S) (kf : B = some z → Wp Y S0 F (pc + 3) lo st S) : Wp Y S0 F pc lo (z_i x :: st) S := by
  intro p l e R s m args below meth c D cA ad0 ad L H locs cells slots ls Q hC hF hS
  exact lv_if_gt hC.1 hC.2.1 d ht (fun q => kt (by rw [if_pos q] at h; exact h) p l e R s m args below meth c D cA ad0 ad L H locs cells slots ls Q hC hF (hS.stk z_oT)) (fun q => kf (by rw [if_neg (by first | exact q | exact fun g => g q)] at h; exact h) p l e R s m args below meth c D cA ad0 ad L H locs cells slots ls Q hC hF (hS.stk z_oT))
theorem x_if_le {α : Type} {x : Int32} {off : Int} {tgt : Nat} {A B : Option α} {z : α} (d : decode Y.2.1 pc = .ok (.ifCond .le off, 3)) (ht : (pc : Int) + off = (tgt : Int)) (h : (if x ≤ 0 then A else B) = some z) (kt : A = some z → Wp Y S0 F tgt lo st S) (kf : B = some z → Wp Y S0 F (pc + 3) lo st S) : Wp Y S0 F pc lo (z_i x :: st) S := by
  intro p l e R s m args below meth c D cA ad0 ad L H locs cells slots ls Q hC hF hS
  exact lv_if_le hC.1 hC.2.1 d ht (fun q => kt (by rw [if_pos q] at h; exact h) p l e R s m args below meth c D cA ad0 ad L H locs cells slots ls Q hC hF (hS.stk z_oT)) (fun q => kf (by rw [if_neg (by first | exact q | exact fun g => g q)] at h; exact h) p l e R s m args below meth c D cA ad0 ad L H locs cells slots ls Q hC hF (hS.stk z_oT))
theorem x_ic_eq {α : Type} {x y : Int32} {off : Int} {tgt : Nat} {A B : Option α} {z : α} (d : decode Y.2.1 pc = .ok (.if_icmp .eq off, 3)) (ht : (pc : Int) + off = (tgt : Int)) (h : (if x = y then A else B) = some z) (kt : A = some z → Wp Y S0 F tgt lo st S) (kf : B = some z → Wp Y S0 F (pc + 3) lo st S) : Wp Y S0 F pc lo (z_i y :: z_i x :: st) S := by
  intro p l e R s m args below meth c D cA ad0 ad L H locs cells slots ls Q hC hF hS
  exact lv_icmp_eq hC.1 hC.2.1 d ht (fun q => kt (by rw [if_pos q] at h; exact h) p l e R s m args below meth c D cA ad0 ad L H locs cells slots ls Q hC hF (hS.stk (fun h => z_oT (z_oT h)))) (fun q => kf (by rw [if_neg (by first | exact q | exact fun g => g q)] at h; exact h) p l e R s m args below meth c D cA ad0 ad L H locs cells slots ls Q hC hF (hS.stk (fun h => z_oT (z_oT h))))
theorem x_ic_ne {α : Type} {x y : Int32} {off : Int} {tgt : Nat} {A B : Option α} {z : α} (d : decode Y.2.1 pc = .ok (.if_icmp .ne off, 3)) (ht : (pc : Int) + off = (tgt : Int)) (h : (if ¬ x = y then A else B) = some z) (kt : A = some z → Wp Y S0 F tgt lo st S) (kf : B = some z → Wp Y S0 F (pc + 3) lo st S) : Wp Y S0 F pc lo (z_i y :: z_i x :: st) S := by
  intro p l e R s m args below meth c D cA ad0 ad L H locs cells slots ls Q hC hF hS
  exact lv_icmp_ne hC.1 hC.2.1 d ht (fun q => kt (by rw [if_pos q] at h; exact h) p l e R s m args below meth c D cA ad0 ad L H locs cells slots ls Q hC hF (hS.stk (fun h => z_oT (z_oT h)))) (fun q => kf (by rw [if_neg (by first | exact q | exact fun g => g q)] at h; exact h) p l e R s m args below meth c D cA ad0 ad L H locs cells slots ls Q hC hF (hS.stk (fun h => z_oT (z_oT h))))
theorem x_ic_lt {α : Type} {x y : Int32} {off : Int} {tgt : Nat} {A B : Option α} {z : α} (d : decode Y.2.1 pc = .ok (.if_icmp .lt off, 3)) (ht : (pc : Int) + off = (tgt : Int)) (h : (if x < y then A else B) = some z) (kt : A = some z → Wp Y S0 F tgt lo st S) (kf : B = some z → Wp Y S0 F (pc + 3) lo st S) : Wp Y S0 F pc lo (z_i y :: z_i x :: st) S := by
  intro p l e R s m args below meth c D cA ad0 ad L H locs cells slots ls Q hC hF hS
  exact lv_icmp_lt hC.1 hC.2.1 d ht (fun q => kt (by rw [if_pos q] at h; exact h) p l e R s m args below meth c D cA ad0 ad L H locs cells slots ls Q hC hF (hS.stk (fun h => z_oT (z_oT h)))) (fun q => kf (by rw [if_neg (by first | exact q | exact fun g => g q)] at h; exact h) p l e R s m args below meth c D cA ad0 ad L H locs cells slots ls Q hC hF (hS.stk (fun h => z_oT (z_oT h))))
theorem x_ic_ge {α : Type} {x y : Int32} {off : Int} {tgt : Nat} {A B : Option α} {z : α} (d : decode Y.2.1 pc = .ok (.if_icmp .ge off, 3)) (ht : (pc : Int) + off = (tgt : Int)) (h : (if y ≤ x then A else B) = some z) (kt : A = some z → Wp Y S0 F tgt lo st S) (kf : B = some z → Wp Y S0 F (pc + 3) lo st S) : Wp Y S0 F pc lo (z_i y :: z_i x :: st) S := by
  intro p l e R s m args below meth c D cA ad0 ad L H locs cells slots ls Q hC hF hS
  exact lv_icmp_ge hC.1 hC.2.1 d ht (fun q => kt (by rw [if_pos q] at h; exact h) p l e R s m args below meth c D cA ad0 ad L H locs cells slots ls Q hC hF (hS.stk (fun h => z_oT (z_oT h)))) (fun q => kf (by rw [if_neg (by first | exact q | exact fun g => g q)] at h; exact h) p l e R s m args below meth c D cA ad0 ad L H locs cells slots ls Q hC hF (hS.stk (fun h => z_oT (z_oT h))))
theorem x_ic_gt {α : Type} {x y : Int32} {off : Int} {tgt : Nat} {A B : Option α} {z : α} (d : decode Y.2.1 pc = .ok (.if_icmp .gt off, 3)) (ht : (pc : Int) + off = (tgt : Int)) (h : (if y < x then A else B) = some z) (kt : A = some z → Wp Y S0 F tgt lo st S) (kf : B = some z → Wp Y S0 F (pc + 3) lo st S) : Wp Y S0 F pc lo (z_i y :: z_i x :: st) S := by
  intro p l e R s m args below meth c D cA ad0 ad L H locs cells slots ls Q hC hF hS
  exact lv_icmp_gt hC.1 hC.2.1 d ht (fun q => kt (by rw [if_pos q] at h; exact h) p l e R s m args below meth c D cA ad0 ad L H locs cells slots ls Q hC hF (hS.stk (fun h => z_oT (z_oT h)))) (fun q => kf (by rw [if_neg (by first | exact q | exact fun g => g q)] at h; exact h) p l e R s m args below meth c D cA ad0 ad L H locs cells slots ls Q hC hF (hS.stk (fun h => z_oT (z_oT h))))
theorem x_ic_le {α : Type} {x y : Int32} {off : Int} {tgt : Nat} {A B : Option α} {z : α} (d : decode Y.2.1 pc = .ok (.if_icmp .le off, 3)) (ht : (pc : Int) + off = (tgt : Int)) (h : (if x ≤ y then A else B) = some z) (kt : A = some z → Wp Y S0 F tgt lo st S) (kf : B = some z → Wp Y S0 F (pc + 3) lo st S) : Wp Y S0 F pc lo (z_i y :: z_i x :: st) S := by
  intro p l e R s m args below meth c D cA ad0 ad L H locs cells slots ls Q hC hF hS
  exact lv_icmp_le hC.1 hC.2.1 d ht (fun q => kt (by rw [if_pos q] at h; exact h) p l e R s m args below meth c D cA ad0 ad L H locs cells slots ls Q hC hF (hS.stk (fun h => z_oT (z_oT h)))) (fun q => kf (by rw [if_neg (by first | exact q | exact fun g => g q)] at h; exact h) p l e R s m args below meth c D cA ad0 ad L H locs cells slots ls Q hC hF (hS.stk (fun h => z_oT (z_oT h))))
theorem x_goto {off : Int} {tgt : Nat} (d : decode Y.2.1 pc = .ok (.goto off, 3)) (ht : (pc : Int) + off = (tgt : Int)) (k : Wp Y S0 F tgt lo st S) : Wp Y S0 F pc lo st S := by
  intro p l e R s m args below meth c D cA ad0 ad L H locs cells slots ls Q hC hF hS
  exact lv_goto hC.1 hC.2.1 d ht (k p l e R s m args below meth c D cA ad0 ad L H locs cells slots ls Q hC hF hS)
theorem x_ifnonnull {α : Type} {kd : Nat} {x : Option Nat} {off : Int} {tgt : Nat} {A B : Option α} {z : α} (d : decode Y.2.1 pc = .ok (.ifnonnull off, 3)) (ht : (pc : Int) + off = (tgt : Int)) (h : (if x = none then B else A) = some z) (kt : A = some z → Wp Y S0 F tgt lo st S) (kf : B = some z → Wp Y S0 F (pc + 3) lo st S) : Wp Y S0 F pc lo (z_r kd x :: st) S := by
  intro p l e R s m args below meth c D cA ad0 ad L H locs cells slots ls Q hC hF hS
  cases x with
  | none => exact lv_ifnonnullN hC.1 hC.2.1 d (kf (by rw [if_pos rfl] at h; exact h) p l e R s m args below meth c D cA ad0 ad L H locs cells slots ls Q hC hF (hS.stk z_oT))
  | some a => exact lv_ifnonnull hC.1 hC.2.1 d ht (kt (by rw [if_neg (by simp)] at h; exact h) p l e R s m args below meth c D cA ad0 ad L H locs cells slots ls Q hC hF (hS.stk z_oT))
theorem x_ifnull {α : Type} {kd : Nat} {x : Option Nat} {off : Int} {tgt : Nat} {A B : Option α} {z : α} (d : decode Y.2.1 pc = .ok (.ifnull off, 3)) (ht : (pc : Int) + off = (tgt : Int)) (h : (if x = none then A else B) = some z) (kt : A = some z → Wp Y S0 F tgt lo st S) (kf : B = some z → Wp Y S0 F (pc + 3) lo st S) : Wp Y S0 F pc lo (z_r kd x :: st) S := by
  intro p l e R s m args below meth c D cA ad0 ad L H locs cells slots ls Q hC hF hS
  cases x with
  | none => exact lv_ifnullN hC.1 hC.2.1 d ht (kt (by rw [if_pos rfl] at h; exact h) p l e R s m args below meth c D cA ad0 ad L H locs cells slots ls Q hC hF (hS.stk z_oT))
  | some a => exact lv_ifnull hC.1 hC.2.1 d (kf (by rw [if_neg (by simp)] at h; exact h) p l e R s m args below meth c D cA ad0 ad L H locs cells slots ls Q hC hF (hS.stk z_oT))
theorem x_ldc {idx : Nat} {v : Int32} (d : decode Y.2.1 pc = .ok (.ldc idx, 2)) (hw : Cond.constant Y.1.cls idx v ∈ lw_tbl) (k : Wp Y S0 F (pc + 2) lo (z_i v :: st) S) : Wp Y S0 F pc lo st S := by
  intro p l e R s m args below meth c D cA ad0 ad L H locs cells slots ls Q hC hF hS
  exact lv_ldc hC.1 hC.2.1 hC.2.2.2.2.2.1 (hC.2.2.2.2.2.2.1.1 _ hw (good_of_word rfl) _) d (k p l e R s m args below meth c D cA ad0 ad L H locs cells slots ls Q hC hF (hS.stk z_oI))
theorem x_ldcw {idx : Nat} {v : Int32} (d : decode Y.2.1 pc = .ok (.ldc_w idx, 3)) (hw : Cond.constant Y.1.cls idx v ∈ lw_tbl) (k : Wp Y S0 F (pc + 3) lo (z_i v :: st) S) : Wp Y S0 F pc lo st S := by
  intro p l e R s m args below meth c D cA ad0 ad L H locs cells slots ls Q hC hF hS
  exact lv_ldcw hC.1 hC.2.1 hC.2.2.2.2.2.1 (hC.2.2.2.2.2.2.1.1 _ hw (good_of_word rfl) _) d (k p l e R s m args below meth c D cA ad0 ad L H locs cells slots ls Q hC hF (hS.stk z_oI))
theorem x_ldc2 {idx : Nat} {v : Int64} (d : decode Y.2.1 pc = .ok (.ldc2_w idx, 3)) (hw : Cond.constantLong Y.1.cls idx v ∈ lw_tbl) (k : Wp Y S0 F (pc + 3) lo (z_l v :: st) S) : Wp Y S0 F pc lo st S := by
  intro p l e R s m args below meth c D cA ad0 ad L H locs cells slots ls Q hC hF hS
  exact lv_ldc2 hC.1 hC.2.1 hC.2.2.2.2.2.1 (hC.2.2.2.2.2.2.1.1 _ hw (good_of_word rfl) _) d (k p l e R s m args below meth c D cA ad0 ad L H locs cells slots ls Q hC hF (hS.stk z_oL))
theorem x_tabIn {dflt a b : Int} {offs : Array Int} {len : Nat} {x y : Int32} {off : Int} {tgt : Nat} (d : decode Y.2.1 pc = .ok (.tableswitch dflt a b offs, len)) (hx : x = y) (h1 : ¬ y.toInt < a) (h2 : ¬ b < y.toInt) (ho : offs[(y.toInt - a).toNat]? = some off) (ht : (pc : Int) + off = (tgt : Int)) (k : Wp Y S0 F tgt lo st S) : Wp Y S0 F pc lo (z_i x :: st) S := by
  intro p l e R s m args below meth c D cA ad0 ad L H locs cells slots ls Q hC hF hS
  subst hx
  exact lv_tableIn hC.1 hC.2.1 d h1 h2 ho ht (k p l e R s m args below meth c D cA ad0 ad L H locs cells slots ls Q hC hF (hS.stk z_oT))
theorem x_tabOut {dflt a b : Int} {offs : Array Int} {len : Nat} {x : Int32} {tgt : Nat} (d : decode Y.2.1 pc = .ok (.tableswitch dflt a b offs, len)) (h : x.toInt < a ∨ b < x.toInt) (ht : (pc : Int) + dflt = (tgt : Int)) (k : Wp Y S0 F tgt lo st S) : Wp Y S0 F pc lo (z_i x :: st) S := by
  intro p l e R s m args below meth c D cA ad0 ad L H locs cells slots ls Q hC hF hS
  exact lv_tableOut hC.1 hC.2.1 d h ht (k p l e R s m args below meth c D cA ad0 ad L H locs cells slots ls Q hC hF (hS.stk z_oT))
theorem x_look {dflt : Int} {ps : Array (Int × Int)} {len : Nat} {x : Int32} {off : Int} {tgt : Nat} (d : decode Y.2.1 pc = .ok (.lookupswitch dflt ps, len)) (hp : (ps.toList.zip (ps.toList.drop 1)).all (fun (a, next) => a.1 < next.1) = true) (ho : Op.lookupswitch.offset ps.toList dflt x.toInt = off) (ht : (pc : Int) + off = (tgt : Int)) (k : Wp Y S0 F tgt lo st S) : Wp Y S0 F pc lo (z_i x :: st) S := by
  intro p l e R s m args below meth c D cA ad0 ad L H locs cells slots ls Q hC hF hS
  exact lv_lookup hC.1 hC.2.1 d hp ho ht (k p l e R s m args below meth c D cA ad0 ad L H locs cells slots ls Q hC hF (hS.stk z_oT))
end ZRULES
