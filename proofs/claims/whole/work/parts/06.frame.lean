def z_nft : List Nat := [6, 4, 4, 14, 6, 3, 5, 2, 6, 5, 4, 19, 39]
def z_nf (k : Nat) : Nat := z_nft.getD k 0
def z_rkt : List (List (Option Nat)) := [[none, none, some 13, none, none, none], [some 10, some 14, some 15, some 16], [none, none, none, none], [none, none, none, none, none, none, none, none, none, none, some 8, some 17, some 18, none], [none, none, none, some 7, some 7, some 7], [none, some 19, none], [none, none, none, none, none], [none, none], [none, none, none, none, none, none], [none, none, none, none, none], [none, some 20, some 21, none], [some 10, some 22, none, some 23, none, some 24, none, some 5, some 25, none, some 26, none, some 27, some 28, some 1, some 2, none, none, none], [none, none, some 29, some 30, none, none, some 31, some 32, some 33, none, some 34, some 35, some 36, some 37, some 38, none, some 39, none, some 40, some 41, some 42, some 43, none, some 44, none, none, none, some 45, some 46, some 47, none, none, some 48, some 49, some 50, some 51, some 52, some 53, some 54]]
def z_ekt : List (Option Nat) := [none, none, none, none, none, none, some 8, none, none, some 3, some 4, some 0, some 6, some 9, none, none, none, none, none, none, none, none, none, none, none, none, none, none, none, none, none, none, none, none, none, none, none, none, none, none, none, none]
def z_rk (k j : Nat) : Option Nat := if k < 13 then (z_rkt.getD k []).getD j none else z_ekt.getD (k - 13) none
def z_tyt : List FieldType := [.byte, .int, .int, .int, .int, .int, .object "PressedMen$Taking", .boolean, .int, .object "PressedMen$Man", .object "PressedMen$Paper", .object "PressedMen$Act", .object "PressedMen$Ship", .object "PressedMen$Ticket", .int, .int, .boolean, .int, .int, .int, .int, .int, .int, .int, .int, .boolean, .int, .int, .int, .int, .boolean, .int, .int, .int, .int, .int, .int, .int, .boolean, .int, .int, .int]
def z_ty (k : Nat) : FieldType := z_tyt.getD (k - 13) .int
/-! ===== the abstract heap: typed stores (kind, index, slot); an abstract value ===== -/
abbrev ZV : Type := Int32 ⊕ Int64 ⊕ (Nat × Option Nat)
abbrev z_i (x : Int32) : ZV := Sum.inl x
abbrev z_l (x : Int64) : ZV := Sum.inr (Sum.inl x)
abbrev z_r (k : Nat) (o : Option Nat) : ZV := Sum.inr (Sum.inr (k, o))
def z_v (ad : Nat → Nat → Nat) : ZV → Value
  | .inl x => .int x
  | .inr (.inl x) => .long x
  | .inr (.inr q) => va_rf (q.2.map (ad q.1))
abbrev ZH : Type := (Nat → Nat) × (Nat → Nat → Nat) × (Nat → Nat → Nat → Int32) × (Nat → Nat → Nat → Option Nat) × Nat × Nat
def zN (S : ZH) : Nat → Nat := S.1
def zL (S : ZH) : Nat → Nat → Nat := S.2.1
def zI (S : ZH) : Nat → Nat → Nat → Int32 := S.2.2.1
def zR (S : ZH) : Nat → Nat → Nat → Option Nat := S.2.2.2.1
def zc (S : ZH) : Nat := S.2.2.2.2.1
def zs (S : ZH) : Nat := S.2.2.2.2.2
def z_up {α : Type} (f : Nat → Nat → Nat → α) (k i j : Nat) (v : α) : Nat → Nat → Nat → α := fun k' i' j' => if k' = k ∧ i' = i ∧ j' = j then v else f k' i' j'
def zsI (S : ZH) (k i j : Nat) (v : Int32) : ZH := (S.1, S.2.1, z_up S.2.2.1 k i j v, S.2.2.2)
def zsR (S : ZH) (k i j : Nat) (v : Option Nat) : ZH := (S.1, S.2.1, S.2.2.1, z_up S.2.2.2.1 k i j v, S.2.2.2.2)
def zNew (S : ZH) (k n : Nat) : ZH := (fun k' => if k' = k then S.1 k + 1 else S.1 k', fun k' i' => if k' = k ∧ i' = S.1 k then n else S.2.1 k' i', fun k' i' j' => if k' = k ∧ i' = S.1 k then 0 else S.2.2.1 k' i' j', fun k' i' j' => if k' = k ∧ i' = S.1 k then none else S.2.2.2.1 k' i' j', S.2.2.2.2.1 + 1, S.2.2.2.2.2 + n)
def zC : Nat := 600000
def zZ : Nat := 7302250
def zal (S : ZH) (k n : Nat) : Option ZH := if zc S + 1 ≤ zC ∧ zs S + n ≤ zZ then some (zNew S k n) else none
def znw (S : ZH) (k : Nat) (x : Int32) : Option ZH := if x < 0 then none else zal S k x.toNatClampNeg
def zld (S : ZH) (k a : Nat) (x : Int32) : Option Int32 := if x < 0 ∨ zL S k a ≤ x.toNatClampNeg then none else some (zI S k a x.toNatClampNeg)
def zldR (S : ZH) (k a : Nat) (x : Int32) : Option (Option Nat) := if x < 0 ∨ zL S k a ≤ x.toNatClampNeg then none else some (zR S k a x.toNatClampNeg)
def zst (S : ZH) (k a : Nat) (x v : Int32) : Option ZH := if x < 0 ∨ zL S k a ≤ x.toNatClampNeg then none else some (zsI S k a x.toNatClampNeg v)
def zstR (S : ZH) (k a : Nat) (x : Int32) (v : Option Nat) : Option ZH := if x < 0 ∨ zL S k a ≤ x.toNatClampNeg then none else some (zsR S k a x.toNatClampNeg v)
def z_b (x : Int32) : Int32 := vp_nar .boolean x
def z_y (x : Int32) : Int32 := vp_nar .byte x
def z_fld (ad : Nat → Nat → Nat) (S : ZH) (k i j : Nat) : Value := match z_rk k j with
  | none => .int (zI S k i j)
  | some k' => va_rf ((zR S k i j).map (ad k'))
def z_cell (cA : Nat → ClassId) (ad : Nat → Nat → Nat) (S : ZH) (k i : Nat) : va_E :=
  if k < 13 then .inr (k, (List.range (z_nf k)).map (z_fld ad S k i)) else match z_rk k 0 with
    | none => .inl (cA k, zL S k i, .inl (zI S k i))
    | some k' => .inl (cA k, zL S k i, .inr (.inr (.inr (.inr fun j => (zR S k i j).map (ad k')))))
def z_ws (cA : Nat → ClassId) (ad : Nat → Nat → Nat) (S : ZH) (L : List (Nat × Nat)) : va_W := L.map fun q => (ad q.1 q.2, z_cell cA ad S q.1 q.2)
def z_A (ad0 : Nat → Nat → Nat) (S0 : ZH) (sz : Nat) : Nat → Prop := fun q => (∃ k i, k < 99 ∧ i < zN S0 k ∧ q = ad0 k i) ∨ sz ≤ q
def z_ok (S : ZH) : ZV → Prop
  | .inr (.inr (k, some i)) => i < zN S k
  | _ => True
def z_tys (cA : Nat → ClassId) : List (ClassId × FieldType) := (List.range 42).map fun k => (cA (13 + k), z_ty (13 + k))
def z_mem (S : ZH) (L : List (Nat × Nat)) : Prop := ∀ k i, (k, i) ∈ L ↔ k < 99 ∧ i < zN S k
def z_rfs (S : ZH) : Prop := ∀ k i j q k', k < 99 → i < zN S k → z_rk k j = some k' → zR S k i j = some q → q < zN S k'
def z_gd (w : Cond) : Prop := (w.onTables && w.keeps) = true ∨ ∃ ty, w = .arrayClass ty
def z_Wd (s : State) : Prop := (∀ w ∈ lw_tbl, z_gd w → ∀ a, w.before a s = true) ∧ (∀ own idx y host, Cond.methodLinkNest own idx y host ∈ lw_tbl → va_Nw (.methodLinkNest own idx y host) s) ∧ (∀ C, Cond.arrayOver (.object C) ∈ lw_tbl → va_AO C s) ∧ (Cond.native arraycopyName ∈ lw_tbl → va_Nw (.native arraycopyName) s)
theorem z_Wd.warm {s U : State} (hW : s.WarmedH U.vm) (h : z_Wd s) : z_Wd U :=
  ⟨fun w hw hg a => word_at hW hg (h.1 w hw hg #[]), fun own idx y host hw => va_Nw.warmM hW (h.2.1 own idx y host hw), fun C hw => (h.2.2.1 C hw).moved hW.alike, fun hw => by
    have h1 := h.2.2.2 hw
    have h2 := word_at (a' := #[]) hW (c := .native arraycopyName) (Or.inl (by first | rfl | simp [Cond.onTables, Cond.keeps, Cond.steady])) h1
    exact h2⟩
abbrev ZM : Type := MethodName × ByteArray × Nat × Option FieldType × Nat × Nat
def z_Cx (p : Program) (R : Room) (s : State) (m : MethodId) (meth : Method) (c : Code) (Y : ZM) (D : va_G) (cA : Nat → ClassId) (S0 : ZH) : Prop :=
  p.tables.exec = Jvm.exec ∧ c.code = Y.2.1 ∧ c.maxLocals = Y.2.2.1 ∧ meth.sig.returnType = Y.2.2.2.1 ∧ meth.locks = false ∧ s.vm.findClass Y.1.cls = some m.cls ∧ z_Wd s ∧ (Y.1.name = "<init>" → meth.name = "<init>") ∧ (Y.2.2.2.2.1 ≤ R.frames ∧ Y.2.2.2.2.2 ≤ R.locals ∧ zC ≤ zc S0 + R.cells ∧ zZ ≤ zs S0 + R.slots) ∧ va_K D vwCl (z_tys cA) s
def z_lo (ad : Nat → Nat → Nat) (lo : List (Nat × ZV)) : List (Nat × Value) := lo.map fun q => (q.1, z_v ad q.2)
def z_St (nL : Nat) (D : va_G) (cA : Nat → ClassId) (ad0 : Nat → Nat → Nat) (S0 : ZH) (s : State) (ad : Nat → Nat → Nat) (S : ZH) (L : List (Nat × Nat)) (H : Heap) (locs : List Loc) (cells slots : Nat) (ls : Array Slot) (lo : List (Nat × ZV)) (st : List ZV) : Prop :=
  z_mem S L ∧ va_P D vwCl (z_ws cA ad S L) H ∧ va_D (z_A ad0 S0 s.heap.size) (z_ws cA ad S L) ∧ z_rfs S ∧ va_S (z_A ad0 S0 s.heap.size) s.heap H locs ∧ ((∀ k, zN S0 k ≤ zN S k) ∧ ∀ k i, i < zN S0 k → ad k i = ad0 k i) ∧ (∀ q ∈ lo, z_ok S q.2) ∧ (∀ v ∈ st, z_ok S v) ∧ (zc S = zc S0 + cells ∧ zs S = zs S0 + slots ∧ zc S ≤ zC ∧ zs S ≤ zZ) ∧ lv_has ls nL (z_lo ad lo)
abbrev ZP : Type := va_G → (Nat → ClassId) → State → Array Value → List Frame → (Nat → Nat → Nat) → (State → Prop) → Prop
def Wp (Y : ZM) (S0 : ZH) (F : ZP) (pc : Nat) (lo : List (Nat × ZV)) (st : List ZV) (S : ZH) : Prop :=
  ∀ (p : Program) (l : Launch) (e : Env) (R : Room) (s : State) (m : MethodId) (args : Array Value) (below : List Frame) (meth : Method) (c : Code) (D : va_G) (cA : Nat → ClassId) (ad0 ad : Nat → Nat → Nat) (L : List (Nat × Nat)) (H : Heap) (locs : List Loc) (cells slots : Nat) (ls : Array Slot) (Q : State → Prop),
    z_Cx p R s m meth c Y D cA S0 → F D cA s args below ad0 Q → z_St Y.2.2.1 D cA ad0 S0 s ad S L H locs cells slots ls lo st →
    W p l e R s m args below meth c H locs cells slots Q (F0 m pc ls (st.map (z_v ad)))
def z_Q0 (D : va_G) (cA : Nat → ClassId) (s : State) (ad0 : Nat → Nat → Nat) (S0 : ZH) (r : Option ZV) (S1 : ZH) (o : Outcome) (t : State) (Lc : List Loc) (mc ms : Nat) : Prop :=
  ∃ (ad1 : Nat → Nat → Nat) (L1 : List (Nat × Nat)), o = .returned (r.map (z_v ad1)) ∧ z_mem S1 L1 ∧ va_P D vwCl (z_ws cA ad1 S1 L1) t.heap ∧ va_D (z_A ad0 S0 s.heap.size) (z_ws cA ad1 S1 L1) ∧ z_rfs S1 ∧ ((∀ k, zN S0 k ≤ zN S1 k) ∧ ∀ k i, i < zN S0 k → ad1 k i = ad0 k i) ∧ (∀ v, r = some v → z_ok S1 v) ∧ (zc S1 = zc S0 + mc ∧ zs S1 = zs S0 + ms ∧ zc S1 ≤ zC ∧ zs S1 ≤ zZ) ∧ va_F (z_A ad0 S0 s.heap.size) s t ∧ ∀ q ∈ Lc, z_A ad0 S0 s.heap.size q.base
def z_Q (D : va_G) (cA : Nat → ClassId) (s : State) (ad0 : Nat → Nat → Nat) (S0 : ZH) (r : Option ZV) (S1 : ZH) (o : Outcome) (t : State) : Prop := ∃ Lc mc ms, FrameEnd s o t Lc mc ms ∧ z_Q0 D cA s ad0 S0 r S1 o t Lc mc ms
def zF (S0 : ZH) (r : Option ZV) (S1 : ZH) : ZP := fun D cA s _ below ad0 Q => Q = fun t => ∃ o, t.status = .running ∧ Ended t below o ∧ z_Q D cA s ad0 S0 r S1 o t
def z_Pre (D : va_G) (cA : Nat → ClassId) (ad : Nat → Nat → Nat) (S : ZH) (as : List ZV) (a : Array Value) (U : State) : Prop :=
  a = (as.map (z_v ad)).toArray ∧ (∃ L, z_mem S L ∧ va_P D vwCl (z_ws cA ad S L) U.heap ∧ va_D (fun _ => True) (z_ws cA ad S L)) ∧ z_rfs S ∧ (∀ v ∈ as, z_ok S v) ∧ (zc S ≤ zC ∧ zs S ≤ zZ) ∧ z_Wd U ∧ va_K D vwCl (z_tys cA) U
def MetX (Y : ZM) (S : ZH) (as : List ZV) (r : Option ZV) (S1 : ZH) : Prop := ∀ (l : Launch) (D : va_G) (cA : Nat → ClassId) (ad : Nat → Nat → Nat),
  MetFree l Y.1 (headSpec [.code Y.1 Y.2.1 Y.2.2.1 Y.2.2.2.1] { frames := Y.2.2.2.2.1, cells := zC - zc S, slots := zZ - zs S, locals := Y.2.2.2.2.2 }) (z_Pre D cA ad S as) (fun _ _ _ _ _ => True) (fun _ st o t => z_Q D cA st ad S r S1 o t)
/-! entry -/
def z_cat : ZV → Nat
  | .inr (.inl _) => 2
  | _ => 1
theorem z_cat_v (ad : Nat → Nat → Nat) (v : ZV) : (z_v ad v).category = z_cat v := by
  rcases v with x | x | ⟨k, o⟩
  · rfl
  · rfl
  · cases o <;> rfl
def z_args : Nat → List ZV → List (Nat × ZV)
  | _, [] => []
  | i, v :: vs => (i, v) :: z_args (if z_cat v = 2 then i + 2 else i + 1) vs
theorem z_args_v (ad : Nat → Nat → Nat) : ∀ (as : List ZV) (i : Nat), lv_args i (as.map (z_v ad)) = z_lo ad (z_args i as)
  | [], _ => rfl
  | v :: vs, i => by
    show (i, z_v ad v) :: lv_args _ (vs.map (z_v ad)) = (i, z_v ad v) :: z_lo ad (z_args _ vs)
    rw [z_cat_v, z_args_v ad vs]
def z_wd : List ZV → Nat
  | [] => 0
  | v :: vs => z_cat v + z_wd vs
theorem z_wd_v (ad : Nat → Nat → Nat) : ∀ as : List ZV, ((as.map (z_v ad)).map fun v => v.category).sum = z_wd as
  | [] => rfl
  | v :: vs => by
    show ((z_v ad v).category :: ((vs.map (z_v ad)).map fun v => v.category)).sum = z_cat v + z_wd vs
    rw [List.sum_cons, z_cat_v, z_wd_v ad vs]
theorem z_sl_v (ad : Nat → Nat → Nat) : ∀ as : List ZV, (lg_sl (as.map (z_v ad))).length = z_wd as
  | [] => rfl
  | v :: vs => by
    have h := z_sl_v ad vs
    have hc := z_cat_v ad v
    have e : lg_sl ((v :: vs).map (z_v ad)) = (if (z_v ad v).category = 2 then [Slot.val (z_v ad v), .second] else [.val (z_v ad v)]) ++ lg_sl (vs.map (z_v ad)) := by simp [lg_sl]
    rw [e, List.length_append, h, hc]
    show _ = z_cat v + z_wd vs
    rcases lv_cat (z_v ad v) with q | q <;> rw [hc] at q <;> simp [q]
theorem z_args_ok {S : ZH} : ∀ (as : List ZV) (i : Nat), (∀ v ∈ as, z_ok S v) → ∀ q ∈ z_args i as, z_ok S q.2
  | [], _, _, q, hq => by cases hq
  | v :: vs, i, h, q, hq => by
    rcases List.mem_cons.mp hq with rfl | hq
    · exact h v List.mem_cons_self
    · exact z_args_ok vs _ (fun w hw => h w (List.mem_cons_of_mem _ hw)) q hq
theorem z_mem_ws {S : ZH} {L : List (Nat × Nat)} {cA : Nat → ClassId} {ad : Nat → Nat → Nat} (hL : z_mem S L) {k i : Nat} (hk : k < 99) (hi : i < zN S k) : ∃ q0 : Nat, L[q0]? = some (k, i) ∧ (z_ws cA ad S L)[q0]? = some (ad k i, z_cell cA ad S k i) := by
  obtain ⟨q0, hq⟩ := List.getElem?_of_mem ((hL k i).mpr ⟨hk, hi⟩)
  exact ⟨q0, hq, by simp [z_ws, hq]⟩
theorem z_A_of {S : ZH} {L : List (Nat × Nat)} {cA : Nat → ClassId} {ad : Nat → Nat → Nat} {sz n : Nat} (hL : z_mem S L) {q : Nat × va_E} (hq : (z_ws cA ad S L)[n]? = some q) : z_A ad S sz q.1 := by
  rw [z_ws, List.getElem?_map] at hq
  cases h : L[n]? with
  | none => rw [h] at hq; cases hq
  | some x =>
    rw [h] at hq
    cases hq
    obtain ⟨k, i⟩ := x
    have h2 := (hL k i).mp (List.mem_of_getElem? h)
    exact Or.inl ⟨k, i, h2.1, h2.2, rfl⟩
set_option maxHeartbeats 1000000 in
theorem MetX.of {Y : ZM} {S : ZH} {as : List ZV} {r : Option ZV} {S1 : ZH} {lo : List (Nat × ZV)} (hlo : z_args 0 as = lo) (hy : plainName Y.1.cls = true) (hw : z_wd as ≤ Y.2.2.1) (h : Wp Y S (zF S r S1) 0 lo [] S) : MetX Y S as r S1 := by
  intro l D cA ad
  subst hlo
  refine MetFree.of_bodyS (code := Y.2.1) (maxLocals := Y.2.2.1) (ret := Y.2.2.2.1) hy ?_ ?_
  · intro args s m hp hn
    obtain ⟨meth, c, h1, h2, h3, h4, h5, h6, -, -⟩ := Cond.code_spec hn (atoms_spec (ws := [.code Y.1 Y.2.1 Y.2.2.1 Y.2.2.2.1]) hp _ List.mem_cons_self)
    exact ⟨meth, c, h1, h2, h3, h4, h5, h6⟩
  · intro p e s m args below meth c s₁ B hml hP _
    obtain ⟨rfl, ⟨L, hL, hPw, hD⟩, hrf, hok, hcap, hwd, hK⟩ := hP
    have hh0 : s₁.heap = s.heap := by rw [B.state]; rfl
    have hl := lv_entry (as.map (z_v ad)) (n := Y.2.2.1) (by rw [z_sl_v]; exact hw)
    rw [z_args_v] at hl
    have key := h p l e ({ frames := Y.2.2.2.2.1, cells := zC - zc S, slots := zZ - zs S, locals := Y.2.2.2.2.2 } : Room) s m (as.map (z_v ad)).toArray below meth c D cA ad ad L s.heap [] 0 0 _ _
      ⟨B.exec, B.bytes, hml, B.returns, B.notSynchronized, findClass_of_methodNamed B.named, hwd, fun q => (name_of_methodNamed B.named B.method).1.trans q, ⟨Nat.le_refl _, Nat.le_refl _, by show zC ≤ zc S + (zC - zc S); omega, by show zZ ≤ zs S + (zZ - zs S); omega⟩, hK⟩ rfl
      ⟨hL, hPw, ⟨hD.1, fun n q hq => z_A_of hL hq⟩, hrf, va_S.rf, ⟨fun _ => Nat.le_refl _, fun _ _ _ => rfl⟩, z_args_ok as 0 hok, (fun v hv => by cases hv), ⟨rfl, rfl, hcap.1, hcap.2⟩, hl⟩
    obtain ⟨t, a1, o, b1, b2, b3⟩ := key s₁ hh0 (Stand.of_body B)
    exact ⟨t, o, by rw [lg_entry_eq]; exact a1, b1, b2, b3⟩
/-! ===== rules: an instruction each ===== -/
theorem z_St.stk {nL : Nat} {D : va_G} {cA : Nat → ClassId} {ad0 : Nat → Nat → Nat} {S0 : ZH} {s : State} {ad : Nat → Nat → Nat} {S : ZH} {L : List (Nat × Nat)} {H : Heap} {locs : List Loc} {cells slots : Nat} {ls : Array Slot} {lo : List (Nat × ZV)} {st st' : List ZV} (h : z_St nL D cA ad0 S0 s ad S L H locs cells slots ls lo st) (h' : (∀ v ∈ st, z_ok S v) → ∀ v ∈ st', z_ok S v) : z_St nL D cA ad0 S0 s ad S L H locs cells slots ls lo st' :=
  ⟨h.1, h.2.1, h.2.2.1, h.2.2.2.1, h.2.2.2.2.1, h.2.2.2.2.2.1, h.2.2.2.2.2.2.1, h' h.2.2.2.2.2.2.2.1, h.2.2.2.2.2.2.2.2.1, h.2.2.2.2.2.2.2.2.2⟩
theorem z_St.loc {nL : Nat} {D : va_G} {cA : Nat → ClassId} {ad0 : Nat → Nat → Nat} {S0 : ZH} {s : State} {ad : Nat → Nat → Nat} {S : ZH} {L : List (Nat × Nat)} {H : Heap} {locs : List Loc} {cells slots : Nat} {ls ls' : Array Slot} {lo lo' : List (Nat × ZV)} {st st' : List ZV} (h : z_St nL D cA ad0 S0 s ad S L H locs cells slots ls lo st) (h1 : ∀ q ∈ lo', z_ok S q.2) (h' : ∀ v ∈ st', z_ok S v) (hl : lv_has ls' nL (z_lo ad lo')) : z_St nL D cA ad0 S0 s ad S L H locs cells slots ls' lo' st' :=
  ⟨h.1, h.2.1, h.2.2.1, h.2.2.2.1, h.2.2.2.2.1, h.2.2.2.2.2.1, h1, h', h.2.2.2.2.2.2.2.2.1, hl⟩
theorem z_oI {S : ZH} {x : Int32} {st : List ZV} (h : ∀ v ∈ st, z_ok S v) : ∀ v ∈ z_i x :: st, z_ok S v := List.forall_mem_cons.mpr ⟨trivial, h⟩
theorem z_oL {S : ZH} {x : Int64} {st : List ZV} (h : ∀ v ∈ st, z_ok S v) : ∀ v ∈ z_l x :: st, z_ok S v := List.forall_mem_cons.mpr ⟨trivial, h⟩
theorem z_oT {S : ZH} {x : ZV} {st : List ZV} (h : ∀ v ∈ x :: st, z_ok S v) : ∀ v ∈ st, z_ok S v := (List.forall_mem_cons.mp h).2
theorem z_oH {S : ZH} {x : ZV} {st : List ZV} (h : ∀ v ∈ x :: st, z_ok S v) : z_ok S x := (List.forall_mem_cons.mp h).1
theorem z_oC {S : ZH} {x : ZV} {st : List ZV} (hx : z_ok S x) (h : ∀ v ∈ st, z_ok S v) : ∀ v ∈ x :: st, z_ok S v := List.forall_mem_cons.mpr ⟨hx, h⟩
theorem z_lo_at {ad : Nat → Nat → Nat} {ls : Array Slot} {nL : Nat} {lo : List (Nat × ZV)} (h : lv_has ls nL (z_lo ad lo)) (n : Nat) {i : Nat} {v : ZV} (hn : lo[n]? = some (i, v)) : ls[i]? = some (.val (z_v ad v)) := lv_at h n (by rw [z_lo, List.getElem?_map, hn]; rfl)
def z_put (lo : List (Nat × ZV)) (i : Nat) (v : ZV) : List (Nat × ZV) := (i, v) :: lo.filter (fun q => !(q.1 == i) && !(q.1 + 1 == i && z_cat q.2 == 2))
def z_put2 (lo : List (Nat × ZV)) (i : Nat) (v : ZV) : List (Nat × ZV) := (i, v) :: lo.filter (fun q => !(q.1 == i) && (!(q.1 == i + 1) && !(q.1 + 1 == i && z_cat q.2 == 2)))
theorem z_put_lo (ad : Nat → Nat → Nat) (lo : List (Nat × ZV)) (i : Nat) (v : ZV) : (i, z_v ad v) :: (z_lo ad lo).filter (fun q => !(q.1 == i) && !(q.1 + 1 == i && q.2.category == 2)) = z_lo ad (z_put lo i v) := by
  rw [z_lo, List.filter_map]
  show _ = (i, z_v ad v) :: (lo.filter _).map _
  congr 2
  apply List.filter_congr
  intro q _
  show (!(q.1 == i) && !(q.1 + 1 == i && (z_v ad q.2).category == 2)) = _
  rw [z_cat_v]
theorem z_put2_lo (ad : Nat → Nat → Nat) (lo : List (Nat × ZV)) (i : Nat) (v : ZV) : (i, z_v ad v) :: (z_lo ad lo).filter (fun q => !(q.1 == i) && (!(q.1 == i + 1) && !(q.1 + 1 == i && q.2.category == 2))) = z_lo ad (z_put2 lo i v) := by
  rw [z_lo, List.filter_map]
  show _ = (i, z_v ad v) :: (lo.filter _).map _
  congr 2
  apply List.filter_congr
  intro q _
  show (!(q.1 == i) && (!(q.1 == i + 1) && !(q.1 + 1 == i && (z_v ad q.2).category == 2))) = _
  rw [z_cat_v]
theorem z_put_ok {S : ZH} {lo : List (Nat × ZV)} {i : Nat} {v : ZV} (h : ∀ q ∈ lo, z_ok S q.2) (hv : z_ok S v) : ∀ q ∈ z_put lo i v, z_ok S q.2 := List.forall_mem_cons.mpr ⟨hv, fun q hq => h q (List.mem_filter.mp hq).1⟩
theorem z_put2_ok {S : ZH} {lo : List (Nat × ZV)} {i : Nat} {v : ZV} (h : ∀ q ∈ lo, z_ok S q.2) (hv : z_ok S v) : ∀ q ∈ z_put2 lo i v, z_ok S q.2 := List.forall_mem_cons.mpr ⟨hv, fun q hq => h q (List.mem_filter.mp hq).1⟩
section ZRULES
variable {Y : ZM} {S0 : ZH} {F : ZP} {pc : Nat} {lo lo' : List (Nat × ZV)} {st : List ZV} {S : ZH}
/-- fewer locals -/
theorem x_lo (is : List Nat) (hs : is.filterMap (fun i => lo[i]?) = lo') (k : Wp Y S0 F pc lo' st S) : Wp Y S0 F pc lo st S := by
  intro p l e R s m args below meth c D cA ad0 ad L H locs cells slots ls Q hC hF hS
  have hsub : ∀ q ∈ lo', q ∈ lo := fun q hq => by
    rw [← hs] at hq
    obtain ⟨i, -, hi⟩ := List.mem_filterMap.mp hq
    exact List.mem_of_getElem? hi
  refine k p l e R s m args below meth c D cA ad0 ad L H locs cells slots ls Q hC hF (hS.loc (fun q hq => hS.2.2.2.2.2.2.1 q (hsub q hq)) hS.2.2.2.2.2.2.2.1 ⟨hS.2.2.2.2.2.2.2.2.2.1, hS.2.2.2.2.2.2.2.2.2.2.1, fun q hq => ?_⟩)
  obtain ⟨x, hx, rfl⟩ := List.mem_map.mp hq
  exact hS.2.2.2.2.2.2.2.2.2.2.2 _ (List.mem_map.mpr ⟨x, hsub x hx, rfl⟩)
theorem x_iconst {n : Int} {v : Int32} (d : decode Y.2.1 pc = .ok (.iconst n, 1)) (hv : Int32.ofInt n = v) (k : Wp Y S0 F (pc + 1) lo (z_i v :: st) S) : Wp Y S0 F pc lo (st) S := by
  intro p l e R s m args below meth c D cA ad0 ad L H locs cells slots ls Q hC hF hS
  exact lv_iconst hC.1 hC.2.1 d hv (k p l e R s m args below meth c D cA ad0 ad L H locs cells slots ls Q hC hF (hS.stk z_oI))
theorem x_bipush {n : Int} {v : Int32} (d : decode Y.2.1 pc = .ok (.bipush n, 2)) (hv : (Int8.ofInt n).toInt32 = v) (k : Wp Y S0 F (pc + 2) lo (z_i v :: st) S) : Wp Y S0 F pc lo (st) S := by
  intro p l e R s m args below meth c D cA ad0 ad L H locs cells slots ls Q hC hF hS
  exact lv_bipush hC.1 hC.2.1 d hv (k p l e R s m args below meth c D cA ad0 ad L H locs cells slots ls Q hC hF (hS.stk z_oI))
theorem x_sipush {n : Int} {v : Int32} (d : decode Y.2.1 pc = .ok (.sipush n, 3)) (hv : (Int16.ofInt n).toInt32 = v) (k : Wp Y S0 F (pc + 3) lo (z_i v :: st) S) : Wp Y S0 F pc lo (st) S := by
  intro p l e R s m args below meth c D cA ad0 ad L H locs cells slots ls Q hC hF hS
  exact lv_sipush hC.1 hC.2.1 d hv (k p l e R s m args below meth c D cA ad0 ad L H locs cells slots ls Q hC hF (hS.stk z_oI))
theorem x_lconst {n : Fin 2} {v : Int64} (d : decode Y.2.1 pc = .ok (.lconst n, 1)) (hv : Int64.ofNat (n : Nat) = v) (k : Wp Y S0 F (pc + 1) lo (z_l v :: st) S) : Wp Y S0 F pc lo (st) S := by
  intro p l e R s m args below meth c D cA ad0 ad L H locs cells slots ls Q hC hF hS
  exact lv_lconst hC.1 hC.2.1 d hv (k p l e R s m args below meth c D cA ad0 ad L H locs cells slots ls Q hC hF (hS.stk z_oL))
theorem x_null (kd : Nat) (d : decode Y.2.1 pc = .ok (.aconst_null, 1)) (k : Wp Y S0 F (pc + 1) lo (z_r kd none :: st) S) : Wp Y S0 F pc lo (st) S := by
  intro p l e R s m args below meth c D cA ad0 ad L H locs cells slots ls Q hC hF hS
  exact lv_null hC.1 hC.2.1 d (k p l e R s m args below meth c D cA ad0 ad L H locs cells slots ls Q hC hF (hS.stk (z_oC trivial)))
theorem x_iload_n {n : Fin 4} {i : Nat} {x : Int32} (q : Nat) (d : decode Y.2.1 pc = .ok (.iload_n n, 1)) (hi : (n : Nat) = i) (hl : lo[q]? = some (i, z_i x)) (k : Wp Y S0 F (pc + 1) lo (z_i x :: st) S) : Wp Y S0 F pc lo (st) S := by
  intro p l e R s m args below meth c D cA ad0 ad L H locs cells slots ls Q hC hF hS
  exact lv_iload_n hC.1 hC.2.1 d hi (z_lo_at hS.2.2.2.2.2.2.2.2.2 q hl) (k p l e R s m args below meth c D cA ad0 ad L H locs cells slots ls Q hC hF (hS.stk z_oI))
theorem x_iload {i : Nat} {x : Int32} (q : Nat) (d : decode Y.2.1 pc = .ok (.iload i, 2)) (hl : lo[q]? = some (i, z_i x)) (k : Wp Y S0 F (pc + 2) lo (z_i x :: st) S) : Wp Y S0 F pc lo (st) S := by
  intro p l e R s m args below meth c D cA ad0 ad L H locs cells slots ls Q hC hF hS
  exact lv_iload hC.1 hC.2.1 d (z_lo_at hS.2.2.2.2.2.2.2.2.2 q hl) (k p l e R s m args below meth c D cA ad0 ad L H locs cells slots ls Q hC hF (hS.stk z_oI))
theorem x_lload_n {n : Fin 4} {i : Nat} {x : Int64} (q : Nat) (d : decode Y.2.1 pc = .ok (.lload_n n, 1)) (hi : (n : Nat) = i) (hl : lo[q]? = some (i, z_l x)) (k : Wp Y S0 F (pc + 1) lo (z_l x :: st) S) : Wp Y S0 F pc lo (st) S := by
  intro p l e R s m args below meth c D cA ad0 ad L H locs cells slots ls Q hC hF hS
  exact lv_lload_n hC.1 hC.2.1 d hi (z_lo_at hS.2.2.2.2.2.2.2.2.2 q hl) (k p l e R s m args below meth c D cA ad0 ad L H locs cells slots ls Q hC hF (hS.stk z_oL))
theorem x_lload {i : Nat} {x : Int64} (q : Nat) (d : decode Y.2.1 pc = .ok (.lload i, 2)) (hl : lo[q]? = some (i, z_l x)) (k : Wp Y S0 F (pc + 2) lo (z_l x :: st) S) : Wp Y S0 F pc lo (st) S := by
  intro p l e R s m args below meth c D cA ad0 ad L H locs cells slots ls Q hC hF hS
  exact lv_lload hC.1 hC.2.1 d (z_lo_at hS.2.2.2.2.2.2.2.2.2 q hl) (k p l e R s m args below meth c D cA ad0 ad L H locs cells slots ls Q hC hF (hS.stk z_oL))
theorem x_aload_n {n : Fin 4} {i kd : Nat} {x : Option Nat} (q : Nat) (d : decode Y.2.1 pc = .ok (.aload_n n, 1)) (hi : (n : Nat) = i) (hl : lo[q]? = some (i, z_r kd x)) (k : Wp Y S0 F (pc + 1) lo (z_r kd x :: st) S) : Wp Y S0 F pc lo st S := by
  intro p l e R s m args below meth c D cA ad0 ad L H locs cells slots ls Q hC hF hS
  have h1 := z_lo_at hS.2.2.2.2.2.2.2.2.2 q hl
  have hx : z_ok S (z_r kd x) := hS.2.2.2.2.2.2.1 _ (List.mem_of_getElem? hl)
  have h2 := k p l e R s m args below meth c D cA ad0 ad L H locs cells slots ls Q hC hF (hS.stk (z_oC hx))
  cases x with
  | none => exact lv_aload_nN hC.1 hC.2.1 d hi h1 h2
  | some a => exact lv_aload_n hC.1 hC.2.1 d hi h1 h2
theorem x_aload {i kd : Nat} {x : Option Nat} (q : Nat) (d : decode Y.2.1 pc = .ok (.aload i, 2)) (hl : lo[q]? = some (i, z_r kd x)) (k : Wp Y S0 F (pc + 2) lo (z_r kd x :: st) S) : Wp Y S0 F pc lo st S := by
  intro p l e R s m args below meth c D cA ad0 ad L H locs cells slots ls Q hC hF hS
  have h1 := z_lo_at hS.2.2.2.2.2.2.2.2.2 q hl
  have hx : z_ok S (z_r kd x) := hS.2.2.2.2.2.2.1 _ (List.mem_of_getElem? hl)
  have h2 := k p l e R s m args below meth c D cA ad0 ad L H locs cells slots ls Q hC hF (hS.stk (z_oC hx))
  cases x with
  | none => exact lv_aloadN hC.1 hC.2.1 d h1 h2
  | some a => exact lv_aload hC.1 hC.2.1 d h1 h2
theorem x_istore_n {n : Fin 4} {i : Nat} {x : Int32} (d : decode Y.2.1 pc = .ok (.istore_n n, 1)) (hi : (n : Nat) = i) (hn : i < Y.2.2.1) (hl : z_put lo i (z_i x) = lo') (k : Wp Y S0 F (pc + 1) lo' st S) : Wp Y S0 F pc lo (z_i x :: st) S := by
  intro p l e R s m args below meth c D cA ad0 ad L H locs cells slots ls Q hC hF hS
  subst hl
  exact lv_istore_n hC.1 hC.2.1 d hi hS.2.2.2.2.2.2.2.2.2 hn (z_put_lo ad lo i (z_i x)) (fun ls' hl' => k p l e R s m args below meth c D cA ad0 ad L H locs cells slots ls' Q hC hF (hS.loc (z_put_ok hS.2.2.2.2.2.2.1 trivial) (z_oT hS.2.2.2.2.2.2.2.1) hl'))
theorem x_istore {i : Nat} {x : Int32} (d : decode Y.2.1 pc = .ok (.istore i, 2)) (hn : i < Y.2.2.1) (hl : z_put lo i (z_i x) = lo') (k : Wp Y S0 F (pc + 2) lo' st S) : Wp Y S0 F pc lo (z_i x :: st) S := by
  intro p l e R s m args below meth c D cA ad0 ad L H locs cells slots ls Q hC hF hS
  subst hl
  exact lv_istore hC.1 hC.2.1 d hS.2.2.2.2.2.2.2.2.2 hn (z_put_lo ad lo i (z_i x)) (fun ls' hl' => k p l e R s m args below meth c D cA ad0 ad L H locs cells slots ls' Q hC hF (hS.loc (z_put_ok hS.2.2.2.2.2.2.1 trivial) (z_oT hS.2.2.2.2.2.2.2.1) hl'))
theorem x_lstore_n {n : Fin 4} {i : Nat} {x : Int64} (d : decode Y.2.1 pc = .ok (.lstore_n n, 1)) (hi : (n : Nat) = i) (hn : i + 1 < Y.2.2.1) (hl : z_put2 lo i (z_l x) = lo') (k : Wp Y S0 F (pc + 1) lo' st S) : Wp Y S0 F pc lo (z_l x :: st) S := by
  intro p l e R s m args below meth c D cA ad0 ad L H locs cells slots ls Q hC hF hS
  subst hl
  exact lv_lstore_n hC.1 hC.2.1 d hi hS.2.2.2.2.2.2.2.2.2 hn (z_put2_lo ad lo i (z_l x)) (fun ls' hl' => k p l e R s m args below meth c D cA ad0 ad L H locs cells slots ls' Q hC hF (hS.loc (z_put2_ok hS.2.2.2.2.2.2.1 trivial) (z_oT hS.2.2.2.2.2.2.2.1) hl'))
theorem x_lstore {i : Nat} {x : Int64} (d : decode Y.2.1 pc = .ok (.lstore i, 2)) (hn : i + 1 < Y.2.2.1) (hl : z_put2 lo i (z_l x) = lo') (k : Wp Y S0 F (pc + 2) lo' st S) : Wp Y S0 F pc lo (z_l x :: st) S := by
  intro p l e R s m args below meth c D cA ad0 ad L H locs cells slots ls Q hC hF hS
  subst hl
  exact lv_lstore hC.1 hC.2.1 d hS.2.2.2.2.2.2.2.2.2 hn (z_put2_lo ad lo i (z_l x)) (fun ls' hl' => k p l e R s m args below meth c D cA ad0 ad L H locs cells slots ls' Q hC hF (hS.loc (z_put2_ok hS.2.2.2.2.2.2.1 trivial) (z_oT hS.2.2.2.2.2.2.2.1) hl'))
theorem x_astore_n {n : Fin 4} {i kd : Nat} {x : Option Nat} (d : decode Y.2.1 pc = .ok (.astore_n n, 1)) (hi : (n : Nat) = i) (hn : i < Y.2.2.1) (hl : z_put lo i (z_r kd x) = lo') (k : Wp Y S0 F (pc + 1) lo' st S) : Wp Y S0 F pc lo (z_r kd x :: st) S := by
  intro p l e R s m args below meth c D cA ad0 ad L H locs cells slots ls Q hC hF hS
  subst hl
  have h1 : ∀ ls', lv_has ls' Y.2.2.1 (z_lo ad (z_put lo i (z_r kd x))) → _ := fun ls' hl' => k p l e R s m args below meth c D cA ad0 ad L H locs cells slots ls' Q hC hF (hS.loc (z_put_ok hS.2.2.2.2.2.2.1 (z_oH hS.2.2.2.2.2.2.2.1)) (z_oT hS.2.2.2.2.2.2.2.1) hl')
  have h2 := z_put_lo ad lo i (z_r kd x)
  cases x with
  | none => exact lv_astore_nN hC.1 hC.2.1 d hi hS.2.2.2.2.2.2.2.2.2 hn h2 h1
  | some a => exact lv_astore_n hC.1 hC.2.1 d hi hS.2.2.2.2.2.2.2.2.2 hn h2 h1
theorem x_astore {i kd : Nat} {x : Option Nat} (d : decode Y.2.1 pc = .ok (.astore i, 2)) (hn : i < Y.2.2.1) (hl : z_put lo i (z_r kd x) = lo') (k : Wp Y S0 F (pc + 2) lo' st S) : Wp Y S0 F pc lo (z_r kd x :: st) S := by
  intro p l e R s m args below meth c D cA ad0 ad L H locs cells slots ls Q hC hF hS
  subst hl
  have h1 : ∀ ls', lv_has ls' Y.2.2.1 (z_lo ad (z_put lo i (z_r kd x))) → _ := fun ls' hl' => k p l e R s m args below meth c D cA ad0 ad L H locs cells slots ls' Q hC hF (hS.loc (z_put_ok hS.2.2.2.2.2.2.1 (z_oH hS.2.2.2.2.2.2.2.1)) (z_oT hS.2.2.2.2.2.2.2.1) hl')
  have h2 := z_put_lo ad lo i (z_r kd x)
  cases x with
  | none => exact lv_astoreN hC.1 hC.2.1 d hS.2.2.2.2.2.2.2.2.2 hn h2 h1
  | some a => exact lv_astore hC.1 hC.2.1 d hS.2.2.2.2.2.2.2.2.2 hn h2 h1
theorem x_iinc {i : Nat} {n : Int} {x v : Int32} (q : Nat) (d : decode Y.2.1 pc = .ok (.iinc i n, 3)) (hq : lo[q]? = some (i, z_i x)) (hv : x + Int32.ofInt n = v) (hn : i < Y.2.2.1) (hl : z_put lo i (z_i v) = lo') (k : Wp Y S0 F (pc + 3) lo' st S) : Wp Y S0 F pc lo st S := by
  intro p l e R s m args below meth c D cA ad0 ad L H locs cells slots ls Q hC hF hS
  subst hl
  exact lv_iinc (k := q) hC.1 hC.2.1 d hS.2.2.2.2.2.2.2.2.2 (by rw [z_lo, List.getElem?_map, hq]; rfl) hv hn (z_put_lo ad lo i (z_i v)) (fun ls' hl' => k p l e R s m args below meth c D cA ad0 ad L H locs cells slots ls' Q hC hF (hS.loc (z_put_ok hS.2.2.2.2.2.2.1 trivial) hS.2.2.2.2.2.2.2.1 hl'))
theorem x_iadd {x y : Int32} (d : decode Y.2.1 pc = .ok (.iadd, 1)) (k : Wp Y S0 F (pc + 1) lo (z_i (x + y) :: st) S) : Wp Y S0 F pc lo (z_i y :: z_i x :: st) S := by
  intro p l e R s m args below meth c D cA ad0 ad L H locs cells slots ls Q hC hF hS
  exact lv_iadd hC.1 hC.2.1 d (k p l e R s m args below meth c D cA ad0 ad L H locs cells slots ls Q hC hF (hS.stk (fun h => z_oI (z_oT (z_oT h)))))
theorem x_isub {x y : Int32} (d : decode Y.2.1 pc = .ok (.isub, 1)) (k : Wp Y S0 F (pc + 1) lo (z_i (x - y) :: st) S) : Wp Y S0 F pc lo (z_i y :: z_i x :: st) S := by
  intro p l e R s m args below meth c D cA ad0 ad L H locs cells slots ls Q hC hF hS
  exact lv_isub hC.1 hC.2.1 d (k p l e R s m args below meth c D cA ad0 ad L H locs cells slots ls Q hC hF (hS.stk (fun h => z_oI (z_oT (z_oT h)))))
theorem x_imul {x y : Int32} (d : decode Y.2.1 pc = .ok (.imul, 1)) (k : Wp Y S0 F (pc + 1) lo (z_i (x * y) :: st) S) : Wp Y S0 F pc lo (z_i y :: z_i x :: st) S := by
  intro p l e R s m args below meth c D cA ad0 ad L H locs cells slots ls Q hC hF hS
  exact lv_imul hC.1 hC.2.1 d (k p l e R s m args below meth c D cA ad0 ad L H locs cells slots ls Q hC hF (hS.stk (fun h => z_oI (z_oT (z_oT h)))))
theorem x_iand {x y : Int32} (d : decode Y.2.1 pc = .ok (.iand, 1)) (k : Wp Y S0 F (pc + 1) lo (z_i (x &&& y) :: st) S) : Wp Y S0 F pc lo (z_i y :: z_i x :: st) S := by
  intro p l e R s m args below meth c D cA ad0 ad L H locs cells slots ls Q hC hF hS
  exact lv_iand hC.1 hC.2.1 d (k p l e R s m args below meth c D cA ad0 ad L H locs cells slots ls Q hC hF (hS.stk (fun h => z_oI (z_oT (z_oT h)))))
theorem x_ior {x y : Int32} (d : decode Y.2.1 pc = .ok (.ior, 1)) (k : Wp Y S0 F (pc + 1) lo (z_i (x ||| y) :: st) S) : Wp Y S0 F pc lo (z_i y :: z_i x :: st) S := by
  intro p l e R s m args below meth c D cA ad0 ad L H locs cells slots ls Q hC hF hS
  exact lv_ior hC.1 hC.2.1 d (k p l e R s m args below meth c D cA ad0 ad L H locs cells slots ls Q hC hF (hS.stk (fun h => z_oI (z_oT (z_oT h)))))
theorem x_ixor {x y : Int32} (d : decode Y.2.1 pc = .ok (.ixor, 1)) (k : Wp Y S0 F (pc + 1) lo (z_i (x ^^^ y) :: st) S) : Wp Y S0 F pc lo (z_i y :: z_i x :: st) S := by
  intro p l e R s m args below meth c D cA ad0 ad L H locs cells slots ls Q hC hF hS
  exact lv_ixor hC.1 hC.2.1 d (k p l e R s m args below meth c D cA ad0 ad L H locs cells slots ls Q hC hF (hS.stk (fun h => z_oI (z_oT (z_oT h)))))
theorem x_ishl {x y : Int32} (d : decode Y.2.1 pc = .ok (.ishl, 1)) (k : Wp Y S0 F (pc + 1) lo (z_i (x <<< (y &&& 31)) :: st) S) : Wp Y S0 F pc lo (z_i y :: z_i x :: st) S := by
  intro p l e R s m args below meth c D cA ad0 ad L H locs cells slots ls Q hC hF hS
  exact lv_ishl hC.1 hC.2.1 d (k p l e R s m args below meth c D cA ad0 ad L H locs cells slots ls Q hC hF (hS.stk (fun h => z_oI (z_oT (z_oT h)))))
theorem x_ishr {x y : Int32} (d : decode Y.2.1 pc = .ok (.ishr, 1)) (k : Wp Y S0 F (pc + 1) lo (z_i (x >>> (y &&& 31)) :: st) S) : Wp Y S0 F pc lo (z_i y :: z_i x :: st) S := by
  intro p l e R s m args below meth c D cA ad0 ad L H locs cells slots ls Q hC hF hS
  exact lv_ishr hC.1 hC.2.1 d (k p l e R s m args below meth c D cA ad0 ad L H locs cells slots ls Q hC hF (hS.stk (fun h => z_oI (z_oT (z_oT h)))))
theorem x_iushr {x y : Int32} (d : decode Y.2.1 pc = .ok (.iushr, 1)) (k : Wp Y S0 F (pc + 1) lo (z_i ((x.toUInt32 >>> (y.toUInt32 &&& Int32.toUInt32 31)).toInt32) :: st) S) : Wp Y S0 F pc lo (z_i y :: z_i x :: st) S := by
  intro p l e R s m args below meth c D cA ad0 ad L H locs cells slots ls Q hC hF hS
  exact lv_iushr hC.1 hC.2.1 d rfl (k p l e R s m args below meth c D cA ad0 ad L H locs cells slots ls Q hC hF (hS.stk (fun h => z_oI (z_oT (z_oT h)))))
theorem x_idiv {x y : Int32} (d : decode Y.2.1 pc = .ok (.idiv, 1)) (hne : ¬ y = 0) (k : Wp Y S0 F (pc + 1) lo (z_i (x / y) :: st) S) : Wp Y S0 F pc lo (z_i y :: z_i x :: st) S := by
  intro p l e R s m args below meth c D cA ad0 ad L H locs cells slots ls Q hC hF hS
  exact lv_idiv hC.1 hC.2.1 d hne (k p l e R s m args below meth c D cA ad0 ad L H locs cells slots ls Q hC hF (hS.stk (fun h => z_oI (z_oT (z_oT h)))))
theorem x_irem {x y : Int32} (d : decode Y.2.1 pc = .ok (.irem, 1)) (hne : ¬ y = 0) (k : Wp Y S0 F (pc + 1) lo (z_i (x - x / y * y) :: st) S) : Wp Y S0 F pc lo (z_i y :: z_i x :: st) S := by
  intro p l e R s m args below meth c D cA ad0 ad L H locs cells slots ls Q hC hF hS
  exact lv_irem hC.1 hC.2.1 d hne (k p l e R s m args below meth c D cA ad0 ad L H locs cells slots ls Q hC hF (hS.stk (fun h => z_oI (z_oT (z_oT h)))))
theorem x_ineg {x : Int32} (d : decode Y.2.1 pc = .ok (.ineg, 1)) (k : Wp Y S0 F (pc + 1) lo (z_i (-x) :: st) S) : Wp Y S0 F pc lo (z_i x :: st) S := by
  intro p l e R s m args below meth c D cA ad0 ad L H locs cells slots ls Q hC hF hS
  exact lv_ineg hC.1 hC.2.1 d (k p l e R s m args below meth c D cA ad0 ad L H locs cells slots ls Q hC hF (hS.stk (fun h => z_oI (z_oT h))))
theorem x_ladd {x y : Int64} (d : decode Y.2.1 pc = .ok (.ladd, 1)) (k : Wp Y S0 F (pc + 1) lo (z_l (x + y) :: st) S) : Wp Y S0 F pc lo (z_l y :: z_l x :: st) S := by
  intro p l e R s m args below meth c D cA ad0 ad L H locs cells slots ls Q hC hF hS
  exact lv_ladd hC.1 hC.2.1 d (k p l e R s m args below meth c D cA ad0 ad L H locs cells slots ls Q hC hF (hS.stk (fun h => z_oL (z_oT (z_oT h)))))
theorem x_lsub {x y : Int64} (d : decode Y.2.1 pc = .ok (.lsub, 1)) (k : Wp Y S0 F (pc + 1) lo (z_l (x - y) :: st) S) : Wp Y S0 F pc lo (z_l y :: z_l x :: st) S := by
  intro p l e R s m args below meth c D cA ad0 ad L H locs cells slots ls Q hC hF hS
  exact lv_lsub hC.1 hC.2.1 d (k p l e R s m args below meth c D cA ad0 ad L H locs cells slots ls Q hC hF (hS.stk (fun h => z_oL (z_oT (z_oT h)))))
theorem x_land {x y : Int64} (d : decode Y.2.1 pc = .ok (.land, 1)) (k : Wp Y S0 F (pc + 1) lo (z_l (x &&& y) :: st) S) : Wp Y S0 F pc lo (z_l y :: z_l x :: st) S := by
  intro p l e R s m args below meth c D cA ad0 ad L H locs cells slots ls Q hC hF hS
  exact lv_land hC.1 hC.2.1 d (k p l e R s m args below meth c D cA ad0 ad L H locs cells slots ls Q hC hF (hS.stk (fun h => z_oL (z_oT (z_oT h)))))
theorem x_lor {x y : Int64} (d : decode Y.2.1 pc = .ok (.lor, 1)) (k : Wp Y S0 F (pc + 1) lo (z_l (x ||| y) :: st) S) : Wp Y S0 F pc lo (z_l y :: z_l x :: st) S := by
  intro p l e R s m args below meth c D cA ad0 ad L H locs cells slots ls Q hC hF hS
  exact lv_lor hC.1 hC.2.1 d (k p l e R s m args below meth c D cA ad0 ad L H locs cells slots ls Q hC hF (hS.stk (fun h => z_oL (z_oT (z_oT h)))))
theorem x_lxor {x y : Int64} (d : decode Y.2.1 pc = .ok (.lxor, 1)) (k : Wp Y S0 F (pc + 1) lo (z_l (x ^^^ y) :: st) S) : Wp Y S0 F pc lo (z_l y :: z_l x :: st) S := by
  intro p l e R s m args below meth c D cA ad0 ad L H locs cells slots ls Q hC hF hS
  exact lv_lxor hC.1 hC.2.1 d (k p l e R s m args below meth c D cA ad0 ad L H locs cells slots ls Q hC hF (hS.stk (fun h => z_oL (z_oT (z_oT h)))))
theorem x_lushr {x : Int64} {y : Int32} (d : decode Y.2.1 pc = .ok (.lushr, 1)) (k : Wp Y S0 F (pc + 1) lo (z_l ((x.toUInt64 >>> (y.toInt64.toUInt64 &&& Int64.toUInt64 63)).toInt64) :: st) S) : Wp Y S0 F pc lo (z_i y :: z_l x :: st) S := by
  intro p l e R s m args below meth c D cA ad0 ad L H locs cells slots ls Q hC hF hS
  exact lv_lushr hC.1 hC.2.1 d rfl (k p l e R s m args below meth c D cA ad0 ad L H locs cells slots ls Q hC hF (hS.stk (fun h => z_oL (z_oT (z_oT h)))))
theorem x_lshl {x : Int64} {y : Int32} (d : decode Y.2.1 pc = .ok (.lshl, 1)) (k : Wp Y S0 F (pc + 1) lo (z_l (x <<< (y.toInt64 &&& 63)) :: st) S) : Wp Y S0 F pc lo (z_i y :: z_l x :: st) S := by
  intro p l e R s m args below meth c D cA ad0 ad L H locs cells slots ls Q hC hF hS
  exact lv_lshl hC.1 hC.2.1 d rfl (k p l e R s m args below meth c D cA ad0 ad L H locs cells slots ls Q hC hF (hS.stk (fun h => z_oL (z_oT (z_oT h)))))
theorem x_lcmp {x y : Int64} (d : decode Y.2.1 pc = .ok (.lcmp, 1)) (k : Wp Y S0 F (pc + 1) lo (z_i (lg_cmp x y) :: st) S) : Wp Y S0 F pc lo (z_l y :: z_l x :: st) S := by
  intro p l e R s m args below meth c D cA ad0 ad L H locs cells slots ls Q hC hF hS
  exact W.lcmp hC.1 hC.2.1 d (k p l e R s m args below meth c D cA ad0 ad L H locs cells slots ls Q hC hF (hS.stk (fun h => z_oI (z_oT (z_oT h)))))
theorem x_i2l {x : Int32} (d : decode Y.2.1 pc = .ok (.i2l, 1)) (k : Wp Y S0 F (pc + 1) lo (z_l x.toInt64 :: st) S) : Wp Y S0 F pc lo (z_i x :: st) S := by
  intro p l e R s m args below meth c D cA ad0 ad L H locs cells slots ls Q hC hF hS
  exact lv_i2l hC.1 hC.2.1 d rfl (k p l e R s m args below meth c D cA ad0 ad L H locs cells slots ls Q hC hF (hS.stk (fun h => z_oL (z_oT h))))
theorem x_l2i {x : Int64} (d : decode Y.2.1 pc = .ok (.l2i, 1)) (k : Wp Y S0 F (pc + 1) lo (z_i x.toInt32 :: st) S) : Wp Y S0 F pc lo (z_l x :: st) S := by
  intro p l e R s m args below meth c D cA ad0 ad L H locs cells slots ls Q hC hF hS
  exact lv_l2i hC.1 hC.2.1 d rfl (k p l e R s m args below meth c D cA ad0 ad L H locs cells slots ls Q hC hF (hS.stk (fun h => z_oI (z_oT h))))
theorem x_i2b {x : Int32} (d : decode Y.2.1 pc = .ok (.i2b, 1)) (k : Wp Y S0 F (pc + 1) lo (z_i x.toInt8.toInt32 :: st) S) : Wp Y S0 F pc lo (z_i x :: st) S := by
  intro p l e R s m args below meth c D cA ad0 ad L H locs cells slots ls Q hC hF hS
  exact lv_i2b hC.1 hC.2.1 d rfl (k p l e R s m args below meth c D cA ad0 ad L H locs cells slots ls Q hC hF (hS.stk (fun h => z_oI (z_oT h))))
theorem x_dup {v : ZV} (d : decode Y.2.1 pc = .ok (.dup, 1)) (hc : z_cat v = 1) (k : Wp Y S0 F (pc + 1) lo (v :: v :: st) S) : Wp Y S0 F pc lo (v :: st) S := by
  intro p l e R s m args below meth c D cA ad0 ad L H locs cells slots ls Q hC hF hS
  exact lv_dup hC.1 hC.2.1 d ((z_cat_v ad v).trans hc) (k p l e R s m args below meth c D cA ad0 ad L H locs cells slots ls Q hC hF (hS.stk (fun h => z_oC (z_oH h) h)))
theorem x_pop {v : ZV} (d : decode Y.2.1 pc = .ok (.pop, 1)) (hc : z_cat v = 1) (k : Wp Y S0 F (pc + 1) lo (st) S) : Wp Y S0 F pc lo (v :: st) S := by
  intro p l e R s m args below meth c D cA ad0 ad L H locs cells slots ls Q hC hF hS
  exact lv_pop hC.1 hC.2.1 d ((z_cat_v ad v).trans hc) (k p l e R s m args below meth c D cA ad0 ad L H locs cells slots ls Q hC hF (hS.stk z_oT))
theorem x_dup2 {v w : ZV} (d : decode Y.2.1 pc = .ok (.dup2, 1)) (hc : z_cat v = 1) (hw : z_cat w = 1) (k : Wp Y S0 F (pc + 1) lo (v :: w :: v :: w :: st) S) : Wp Y S0 F pc lo (v :: w :: st) S := by
  intro p l e R s m args below meth c D cA ad0 ad L H locs cells slots ls Q hC hF hS
  exact lv_dup2_11 hC.1 hC.2.1 d ((z_cat_v ad v).trans hc) ((z_cat_v ad w).trans hw) (k p l e R s m args below meth c D cA ad0 ad L H locs cells slots ls Q hC hF (hS.stk (fun h => z_oC (z_oH h) (z_oC (z_oH (z_oT h)) h))))
theorem x_if_eq {α : Type} {x : Int32} {off : Int} {tgt : Nat} {A B : Option α} {z : α} (d : decode Y.2.1 pc = .ok (.ifCond .eq off, 3)) (ht : (pc : Int) + off = (tgt : Int)) (h : (if x = 0 then A else B) = some z) (kt : A = some z → Wp Y S0 F tgt lo st S) (kf : B = some z → Wp Y S0 F (pc + 3) lo st S) : Wp Y S0 F pc lo (z_i x :: st) S := by
  intro p l e R s m args below meth c D cA ad0 ad L H locs cells slots ls Q hC hF hS
  exact lv_if_eq hC.1 hC.2.1 d ht (fun q => kt (by rw [if_pos q] at h; exact h) p l e R s m args below meth c D cA ad0 ad L H locs cells slots ls Q hC hF (hS.stk z_oT)) (fun q => kf (by rw [if_neg (by first | exact q | exact fun g => g q)] at h; exact h) p l e R s m args below meth c D cA ad0 ad L H locs cells slots ls Q hC hF (hS.stk z_oT))
theorem x_if_ne {α : Type} {x : Int32} {off : Int} {tgt : Nat} {A B : Option α} {z : α} (d : decode Y.2.1 pc = .ok (.ifCond .ne off, 3)) (ht : (pc : Int) + off = (tgt : Int)) (h : (if ¬ x = 0 then A else B) = some z) (kt : A = some z → Wp Y S0 F tgt lo st S) (kf : B = some z → Wp Y S0 F (pc + 3) lo st S) : Wp Y S0 F pc lo (z_i x :: st) S := by
  intro p l e R s m args below meth c D cA ad0 ad L H locs cells slots ls Q hC hF hS
  exact lv_if_ne hC.1 hC.2.1 d ht (fun q => kt (by rw [if_pos q] at h; exact h) p l e R s m args below meth c D cA ad0 ad L H locs cells slots ls Q hC hF (hS.stk z_oT)) (fun q => kf (by rw [if_neg (by first | exact q | exact fun g => g q)] at h; exact h) p l e R s m args below meth c D cA ad0 ad L H locs cells slots ls Q hC hF (hS.stk z_oT))
theorem x_if_lt {α : Type} {x : Int32} {off : Int} {tgt : Nat} {A B : Option α} {z : α} (d : decode Y.2.1 pc = .ok (.ifCond .lt off, 3)) (ht : (pc : Int) + off = (tgt : Int)) (h : (if x < 0 then A else B) = some z) (kt : A = some z → Wp Y S0 F tgt lo st S) (kf : B = some z → Wp Y S0 F (pc + 3) lo st S) : Wp Y S0 F pc lo (z_i x :: st) S := by
  intro p l e R s m args below meth c D cA ad0 ad L H locs cells slots ls Q hC hF hS
  exact lv_if_lt hC.1 hC.2.1 d ht (fun q => kt (by rw [if_pos q] at h; exact h) p l e R s m args below meth c D cA ad0 ad L H locs cells slots ls Q hC hF (hS.stk z_oT)) (fun q => kf (by rw [if_neg (by first | exact q | exact fun g => g q)] at h; exact h) p l e R s m args below meth c D cA ad0 ad L H locs cells slots ls Q hC hF (hS.stk z_oT))
theorem x_if_ge {α : Type} {x : Int32} {off : Int} {tgt : Nat} {A B : Option α} {z : α} (d : decode Y.2.1 pc = .ok (.ifCond .ge off, 3)) (ht : (pc : Int) + off = (tgt : Int)) (h : (if 0 ≤ x then A else B) = some z) (kt : A = some z → Wp Y S0 F tgt lo st S) (kf : B = some z → Wp Y S0 F (pc + 3) lo st S) : Wp Y S0 F pc lo (z_i x :: st) S := by
  intro p l e R s m args below meth c D cA ad0 ad L H locs cells slots ls Q hC hF hS
  exact lv_if_ge hC.1 hC.2.1 d ht (fun q => kt (by rw [if_pos q] at h; exact h) p l e R s m args below meth c D cA ad0 ad L H locs cells slots ls Q hC hF (hS.stk z_oT)) (fun q => kf (by rw [if_neg (by first | exact q | exact fun g => g q)] at h; exact h) p l e R s m args below meth c D cA ad0 ad L H locs cells slots ls Q hC hF (hS.stk z_oT))
theorem x_if_gt {α : Type} {x : Int32} {off : Int} {tgt : Nat} {A B : Option α} {z : α} (d : decode Y.2.1 pc = .ok (.ifCond .gt off, 3)) (ht : (pc : Int) + off = (tgt : Int)) (h : (if 0 < x then A else B) = some z) (kt : A = some z → Wp Y S0 F tgt lo st S) (kf : B = some z → Wp Y S0 F (pc + 3) lo st S) : Wp Y S0 F pc lo (z_i x :: st) S := by
  intro p l e R s m args below meth c D cA ad0 ad L H locs cells slots ls Q hC hF hS
  exact lv_if_gt hC.1 hC.2.1 d ht (fun q => kt (by rw [if_pos q] at h; exact h) p l e R s m args below meth c D cA ad0 ad L H locs cells slots ls Q hC hF (hS.stk z_oT)) (fun q => kf (by rw [if_neg (by first | exact q | exact fun g => g q)] at h; exact h) p l e R s m args below meth c D cA ad0 ad L H locs cells slots ls Q hC hF (hS.stk z_oT))
theorem x_if_le {α : Type} {x : Int32} {off : Int} {tgt : Nat} {A B : Option α} {z : α} (d : decode Y.2.1 pc = .ok (.ifCond .le off, 3)) (ht : (pc : Int) + off = (tgt : Int)) (h : (if x ≤ 0 then A else B) = some z) (kt : A = some z → Wp Y S0 F tgt lo st S) (kf : B = some z → Wp Y S0 F (pc + 3) lo st S) : Wp Y S0 F pc lo (z_i x :: st) S := by
  intro p l e R s m args below meth c D cA ad0 ad L H locs cells slots ls Q hC hF hS
  exact lv_if_le hC.1 hC.2.1 d ht (fun q => kt (by rw [if_pos q] at h; exact h) p l e R s m args below meth c D cA ad0 ad L H locs cells slots ls Q hC hF (hS.stk z_oT)) (fun q => kf (by rw [if_neg (by first | exact q | exact fun g => g q)] at h; exact h) p l e R s m args below meth c D cA ad0 ad L H locs cells slots ls Q hC hF (hS.stk z_oT))
theorem x_ic_eq {α : Type} {x y : Int32} {off : Int} {tgt : Nat} {A B : Option α} {z : α} (d : decode Y.2.1 pc = .ok (.if_icmp .eq off, 3)) (ht : (pc : Int) + off = (tgt : Int)) (h : (if x = y then A else B) = some z) (kt : A = some z → Wp Y S0 F tgt lo st S) (kf : B = some z → Wp Y S0 F (pc + 3) lo st S) : Wp Y S0 F pc lo (z_i y :: z_i x :: st) S := by
  intro p l e R s m args below meth c D cA ad0 ad L H locs cells slots ls Q hC hF hS
  exact lv_icmp_eq hC.1 hC.2.1 d ht (fun q => kt (by rw [if_pos q] at h; exact h) p l e R s m args below meth c D cA ad0 ad L H locs cells slots ls Q hC hF (hS.stk (fun h => z_oT (z_oT h)))) (fun q => kf (by rw [if_neg (by first | exact q | exact fun g => g q)] at h; exact h) p l e R s m args below meth c D cA ad0 ad L H locs cells slots ls Q hC hF (hS.stk (fun h => z_oT (z_oT h))))
theorem x_ic_ne {α : Type} {x y : Int32} {off : Int} {tgt : Nat} {A B : Option α} {z : α} (d : decode Y.2.1 pc = .ok (.if_icmp .ne off, 3)) (ht : (pc : Int) + off = (tgt : Int)) (h : (if ¬ x = y then A else B) = some z) (kt : A = some z → Wp Y S0 F tgt lo st S) (kf : B = some z → Wp Y S0 F (pc + 3) lo st S) : Wp Y S0 F pc lo (z_i y :: z_i x :: st) S := by
  intro p l e R s m args below meth c D cA ad0 ad L H locs cells slots ls Q hC hF hS
  exact lv_icmp_ne hC.1 hC.2.1 d ht (fun q => kt (by rw [if_pos q] at h; exact h) p l e R s m args below meth c D cA ad0 ad L H locs cells slots ls Q hC hF (hS.stk (fun h => z_oT (z_oT h)))) (fun q => kf (by rw [if_neg (by first | exact q | exact fun g => g q)] at h; exact h) p l e R s m args below meth c D cA ad0 ad L H locs cells slots ls Q hC hF (hS.stk (fun h => z_oT (z_oT h))))
theorem x_ic_lt {α : Type} {x y : Int32} {off : Int} {tgt : Nat} {A B : Option α} {z : α} (d : decode Y.2.1 pc = .ok (.if_icmp .lt off, 3)) (ht : (pc : Int) + off = (tgt : Int)) (h : (if x < y then A else B) = some z) (kt : A = some z → Wp Y S0 F tgt lo st S) (kf : B = some z → Wp Y S0 F (pc + 3) lo st S) : Wp Y S0 F pc lo (z_i y :: z_i x :: st) S := by
  intro p l e R s m args below meth c D cA ad0 ad L H locs cells slots ls Q hC hF hS
  exact lv_icmp_lt hC.1 hC.2.1 d ht (fun q => kt (by rw [if_pos q] at h; exact h) p l e R s m args below meth c D cA ad0 ad L H locs cells slots ls Q hC hF (hS.stk (fun h => z_oT (z_oT h)))) (fun q => kf (by rw [if_neg (by first | exact q | exact fun g => g q)] at h; exact h) p l e R s m args below meth c D cA ad0 ad L H locs cells slots ls Q hC hF (hS.stk (fun h => z_oT (z_oT h))))
theorem x_ic_ge {α : Type} {x y : Int32} {off : Int} {tgt : Nat} {A B : Option α} {z : α} (d : decode Y.2.1 pc = .ok (.if_icmp .ge off, 3)) (ht : (pc : Int) + off = (tgt : Int)) (h : (if y ≤ x then A else B) = some z) (kt : A = some z → Wp Y S0 F tgt lo st S) (kf : B = some z → Wp Y S0 F (pc + 3) lo st S) : Wp Y S0 F pc lo (z_i y :: z_i x :: st) S := by
  intro p l e R s m args below meth c D cA ad0 ad L H locs cells slots ls Q hC hF hS
  exact lv_icmp_ge hC.1 hC.2.1 d ht (fun q => kt (by rw [if_pos q] at h; exact h) p l e R s m args below meth c D cA ad0 ad L H locs cells slots ls Q hC hF (hS.stk (fun h => z_oT (z_oT h)))) (fun q => kf (by rw [if_neg (by first | exact q | exact fun g => g q)] at h; exact h) p l e R s m args below meth c D cA ad0 ad L H locs cells slots ls Q hC hF (hS.stk (fun h => z_oT (z_oT h))))
theorem x_ic_gt {α : Type} {x y : Int32} {off : Int} {tgt : Nat} {A B : Option α} {z : α} (d : decode Y.2.1 pc = .ok (.if_icmp .gt off, 3)) (ht : (pc : Int) + off = (tgt : Int)) (h : (if y < x then A else B) = some z) (kt : A = some z → Wp Y S0 F tgt lo st S) (kf : B = some z → Wp Y S0 F (pc + 3) lo st S) : Wp Y S0 F pc lo (z_i y :: z_i x :: st) S := by
  intro p l e R s m args below meth c D cA ad0 ad L H locs cells slots ls Q hC hF hS
  exact lv_icmp_gt hC.1 hC.2.1 d ht (fun q => kt (by rw [if_pos q] at h; exact h) p l e R s m args below meth c D cA ad0 ad L H locs cells slots ls Q hC hF (hS.stk (fun h => z_oT (z_oT h)))) (fun q => kf (by rw [if_neg (by first | exact q | exact fun g => g q)] at h; exact h) p l e R s m args below meth c D cA ad0 ad L H locs cells slots ls Q hC hF (hS.stk (fun h => z_oT (z_oT h))))
theorem x_ic_le {α : Type} {x y : Int32} {off : Int} {tgt : Nat} {A B : Option α} {z : α} (d : decode Y.2.1 pc = .ok (.if_icmp .le off, 3)) (ht : (pc : Int) + off = (tgt : Int)) (h : (if x ≤ y then A else B) = some z) (kt : A = some z → Wp Y S0 F tgt lo st S) (kf : B = some z → Wp Y S0 F (pc + 3) lo st S) : Wp Y S0 F pc lo (z_i y :: z_i x :: st) S := by
  intro p l e R s m args below meth c D cA ad0 ad L H locs cells slots ls Q hC hF hS
  exact lv_icmp_le hC.1 hC.2.1 d ht (fun q => kt (by rw [if_pos q] at h; exact h) p l e R s m args below meth c D cA ad0 ad L H locs cells slots ls Q hC hF (hS.stk (fun h => z_oT (z_oT h)))) (fun q => kf (by rw [if_neg (by first | exact q | exact fun g => g q)] at h; exact h) p l e R s m args below meth c D cA ad0 ad L H locs cells slots ls Q hC hF (hS.stk (fun h => z_oT (z_oT h))))
theorem x_goto {off : Int} {tgt : Nat} (d : decode Y.2.1 pc = .ok (.goto off, 3)) (ht : (pc : Int) + off = (tgt : Int)) (k : Wp Y S0 F tgt lo st S) : Wp Y S0 F pc lo st S := by
  intro p l e R s m args below meth c D cA ad0 ad L H locs cells slots ls Q hC hF hS
  exact lv_goto hC.1 hC.2.1 d ht (k p l e R s m args below meth c D cA ad0 ad L H locs cells slots ls Q hC hF hS)
theorem x_ifnonnull {α : Type} {kd : Nat} {x : Option Nat} {off : Int} {tgt : Nat} {A B : Option α} {z : α} (d : decode Y.2.1 pc = .ok (.ifnonnull off, 3)) (ht : (pc : Int) + off = (tgt : Int)) (h : (if x = none then B else A) = some z) (kt : A = some z → Wp Y S0 F tgt lo st S) (kf : B = some z → Wp Y S0 F (pc + 3) lo st S) : Wp Y S0 F pc lo (z_r kd x :: st) S := by
  intro p l e R s m args below meth c D cA ad0 ad L H locs cells slots ls Q hC hF hS
  cases x with
  | none => exact lv_ifnonnullN hC.1 hC.2.1 d (kf (by rw [if_pos rfl] at h; exact h) p l e R s m args below meth c D cA ad0 ad L H locs cells slots ls Q hC hF (hS.stk z_oT))
  | some a => exact lv_ifnonnull hC.1 hC.2.1 d ht (kt (by rw [if_neg (by simp)] at h; exact h) p l e R s m args below meth c D cA ad0 ad L H locs cells slots ls Q hC hF (hS.stk z_oT))
theorem x_ifnull {α : Type} {kd : Nat} {x : Option Nat} {off : Int} {tgt : Nat} {A B : Option α} {z : α} (d : decode Y.2.1 pc = .ok (.ifnull off, 3)) (ht : (pc : Int) + off = (tgt : Int)) (h : (if x = none then A else B) = some z) (kt : A = some z → Wp Y S0 F tgt lo st S) (kf : B = some z → Wp Y S0 F (pc + 3) lo st S) : Wp Y S0 F pc lo (z_r kd x :: st) S := by
  intro p l e R s m args below meth c D cA ad0 ad L H locs cells slots ls Q hC hF hS
  cases x with
  | none => exact lv_ifnullN hC.1 hC.2.1 d ht (kt (by rw [if_pos rfl] at h; exact h) p l e R s m args below meth c D cA ad0 ad L H locs cells slots ls Q hC hF (hS.stk z_oT))
  | some a => exact lv_ifnull hC.1 hC.2.1 d (kf (by rw [if_neg (by simp)] at h; exact h) p l e R s m args below meth c D cA ad0 ad L H locs cells slots ls Q hC hF (hS.stk z_oT))
theorem x_ldc {idx : Nat} {v : Int32} (d : decode Y.2.1 pc = .ok (.ldc idx, 2)) (hw : Cond.constant Y.1.cls idx v ∈ lw_tbl) (k : Wp Y S0 F (pc + 2) lo (z_i v :: st) S) : Wp Y S0 F pc lo st S := by
  intro p l e R s m args below meth c D cA ad0 ad L H locs cells slots ls Q hC hF hS
  exact lv_ldc hC.1 hC.2.1 hC.2.2.2.2.2.1 (hC.2.2.2.2.2.2.1.1 _ hw (good_of_word rfl) _) d (k p l e R s m args below meth c D cA ad0 ad L H locs cells slots ls Q hC hF (hS.stk z_oI))
theorem x_ldcw {idx : Nat} {v : Int32} (d : decode Y.2.1 pc = .ok (.ldc_w idx, 3)) (hw : Cond.constant Y.1.cls idx v ∈ lw_tbl) (k : Wp Y S0 F (pc + 3) lo (z_i v :: st) S) : Wp Y S0 F pc lo st S := by
  intro p l e R s m args below meth c D cA ad0 ad L H locs cells slots ls Q hC hF hS
  exact lv_ldcw hC.1 hC.2.1 hC.2.2.2.2.2.1 (hC.2.2.2.2.2.2.1.1 _ hw (good_of_word rfl) _) d (k p l e R s m args below meth c D cA ad0 ad L H locs cells slots ls Q hC hF (hS.stk z_oI))
theorem x_ldc2 {idx : Nat} {v : Int64} (d : decode Y.2.1 pc = .ok (.ldc2_w idx, 3)) (hw : Cond.constantLong Y.1.cls idx v ∈ lw_tbl) (k : Wp Y S0 F (pc + 3) lo (z_l v :: st) S) : Wp Y S0 F pc lo st S := by
  intro p l e R s m args below meth c D cA ad0 ad L H locs cells slots ls Q hC hF hS
  exact lv_ldc2 hC.1 hC.2.1 hC.2.2.2.2.2.1 (hC.2.2.2.2.2.2.1.1 _ hw (good_of_word rfl) _) d (k p l e R s m args below meth c D cA ad0 ad L H locs cells slots ls Q hC hF (hS.stk z_oL))
theorem x_tabIn {dflt a b : Int} {offs : Array Int} {len : Nat} {x y : Int32} {off : Int} {tgt : Nat} (d : decode Y.2.1 pc = .ok (.tableswitch dflt a b offs, len)) (hx : x = y) (h1 : ¬ y.toInt < a) (h2 : ¬ b < y.toInt) (ho : offs[(y.toInt - a).toNat]? = some off) (ht : (pc : Int) + off = (tgt : Int)) (k : Wp Y S0 F tgt lo st S) : Wp Y S0 F pc lo (z_i x :: st) S := by
  intro p l e R s m args below meth c D cA ad0 ad L H locs cells slots ls Q hC hF hS
  subst hx
  exact lv_tableIn hC.1 hC.2.1 d h1 h2 ho ht (k p l e R s m args below meth c D cA ad0 ad L H locs cells slots ls Q hC hF (hS.stk z_oT))
theorem x_tabOut {dflt a b : Int} {offs : Array Int} {len : Nat} {x : Int32} {tgt : Nat} (d : decode Y.2.1 pc = .ok (.tableswitch dflt a b offs, len)) (h : x.toInt < a ∨ b < x.toInt) (ht : (pc : Int) + dflt = (tgt : Int)) (k : Wp Y S0 F tgt lo st S) : Wp Y S0 F pc lo (z_i x :: st) S := by
  intro p l e R s m args below meth c D cA ad0 ad L H locs cells slots ls Q hC hF hS
  exact lv_tableOut hC.1 hC.2.1 d h ht (k p l e R s m args below meth c D cA ad0 ad L H locs cells slots ls Q hC hF (hS.stk z_oT))
theorem x_look {dflt : Int} {ps : Array (Int × Int)} {len : Nat} {x : Int32} {off : Int} {tgt : Nat} (d : decode Y.2.1 pc = .ok (.lookupswitch dflt ps, len)) (hp : (ps.toList.zip (ps.toList.drop 1)).all (fun (a, next) => a.1 < next.1) = true) (ho : Op.lookupswitch.offset ps.toList dflt x.toInt = off) (ht : (pc : Int) + off = (tgt : Int)) (k : Wp Y S0 F tgt lo st S) : Wp Y S0 F pc lo (z_i x :: st) S := by
  intro p l e R s m args below meth c D cA ad0 ad L H locs cells slots ls Q hC hF hS
  exact lv_lookup hC.1 hC.2.1 d hp ho ht (k p l e R s m args below meth c D cA ad0 ad L H locs cells slots ls Q hC hF (hS.stk z_oT))
end ZRULES
/-! ===== heap rules ===== -/
def z_in (w : Cond) : Prop := w ∈ lw_tbl ∧ z_gd w
theorem z_Wd.w {s : State} (h : z_Wd s) {w : Cond} (hw : z_in w) {a : Array Value} : w.before a s = true := h.1 w hw.1 hw.2 a
theorem z_Wd.ws {s : State} (h : z_Wd s) {ws : List Cond} (hg : GoodIn lw_tbl ws) {a : Array Value} : ∀ w ∈ ws, w.before a s = true := fun w hw => h.1 w (hg w hw).1 (hg w hw).2 a
/-- a class of the tables -/
def z_CK (k : Nat) (C : String) (T : u_T) (N : Nat) (ty : Nat → FieldType) : Prop := vwCl[k]? = some (C, T, N) ∧ GoodIn lw_tbl (u_ws C T N) ∧ z_nf k = N ∧ k < 13 ∧ (∀ j, j < N → parseFieldDescriptor (T j).2.2.1 = some (ty j)) ∧ (∀ a, a < N → ∀ b, b < N → a ≠ b → (T a).2.1 ≠ (T b).2.1) ∧ z_in (.instantiable C N) ∧ z_in (.initialized C) ∧ ∀ j, j < N → defaultValue (ty j) = match z_rk k j with | none => .int 0 | some _ => .null
theorem z_setL {α : Type} (f g : Nat → α) (N j : Nat) (v : α) (hg : ∀ i, i < N → g i = if i = j then v else f i) : ((List.range N).map f).set j v = (List.range N).map g := by
  apply List.ext_getElem?
  intro n
  rw [List.getElem?_set, List.getElem?_map, List.length_map, List.length_range]
  by_cases hn : n < N
  · rw [List.getElem?_map, List.getElem?_range hn, Option.map_some, Option.map_some, hg n hn]
    by_cases hj : j = n
    · subst hj
      simp [hn]
    · rw [if_neg hj, if_neg (Ne.symm hj)]
  · rw [List.getElem?_map, List.getElem?_eq_none (l := List.range N) (by simp; omega)]
    by_cases hj : j = n
    · subst hj; simp [hn]
    · simp [hj]
theorem z_set_ws {cA : Nat → ClassId} {ad : Nat → Nat → Nat} {S S' : ZH} {L : List (Nat × Nat)} {A : Nat → Prop} (hD : va_D A (z_ws cA ad S L)) {q0 k i : Nat} (hq : L[q0]? = some (k, i)) {e : va_E} (he : z_cell cA ad S' k i = e) (ho : ∀ k' i', ¬ (k' = k ∧ i' = i) → z_cell cA ad S' k' i' = z_cell cA ad S k' i') : (z_ws cA ad S L).set q0 (ad k i, e) = z_ws cA ad S' L := by
  apply List.ext_getElem?
  intro n
  have hlen : q0 < L.length := (List.getElem?_eq_some_iff.mp hq).1
  rw [List.getElem?_set]
  by_cases hn : q0 = n
  · subst hn
    rw [if_pos rfl, if_pos (by simpa [z_ws] using hlen)]
    simp only [z_ws, List.getElem?_map, hq, Option.map_some, he]
  · rw [if_neg hn]
    simp only [z_ws, List.getElem?_map]
    cases hx : L[n]? with
    | none => rfl
    | some x =>
      obtain ⟨k', i'⟩ := x
      have hne : ¬ (k' = k ∧ i' = i) := by
        rintro ⟨rfl, rfl⟩
        exact hn (hD.1 q0 n (ad k' i', z_cell cA ad S k' i') (ad k' i', z_cell cA ad S k' i') (by simp [z_ws, hq]) (by simp [z_ws, hx]) rfl)
      simp only [Option.map_some]
      rw [ho k' i' hne]
theorem z_cell_I {cA : Nat → ClassId} {ad : Nat → Nat → Nat} {S : ZH} {k i j : Nat} {v : Int32} (k' i' : Nat) (h : ¬ (k' = k ∧ i' = i)) : z_cell cA ad (zsI S k i j v) k' i' = z_cell cA ad S k' i' := by
  have e : ∀ j', zI (zsI S k i j v) k' i' j' = zI S k' i' j' := fun j' => by
    show z_up _ _ _ _ _ _ _ _ = _
    unfold z_up
    rw [if_neg (fun q => h ⟨q.1, q.2.1⟩)]
    rfl
  have e2 : zI (zsI S k i j v) k' i' = zI S k' i' := funext e
  have e3 : z_fld ad (zsI S k i j v) k' i' = z_fld ad S k' i' := by
    funext j'
    unfold z_fld
    rw [e j']
    rfl
  unfold z_cell
  rw [e2, e3]
  rfl
theorem z_cell_R {cA : Nat → ClassId} {ad : Nat → Nat → Nat} {S : ZH} {k i j : Nat} {v : Option Nat} (k' i' : Nat) (h : ¬ (k' = k ∧ i' = i)) : z_cell cA ad (zsR S k i j v) k' i' = z_cell cA ad S k' i' := by
  have e : ∀ j', zR (zsR S k i j v) k' i' j' = zR S k' i' j' := fun j' => by
    show z_up _ _ _ _ _ _ _ _ = _
    unfold z_up
    rw [if_neg (fun q => h ⟨q.1, q.2.1⟩)]
    rfl
  have e3 : z_fld ad (zsR S k i j v) k' i' = z_fld ad S k' i' := by
    funext j'
    unfold z_fld
    rw [e j']
    rfl
  unfold z_cell
  rw [e3]
  simp only [e]
  rfl
theorem z_rfs_I {S : ZH} {k i j : Nat} {v : Int32} (h : z_rfs S) : z_rfs (zsI S k i j v) := h
theorem z_rfs_R {S : ZH} {k i j k2 : Nat} {v : Option Nat} (h : z_rfs S) (hk : z_rk k j = some k2 ∨ ∀ j', z_rk k j' = some k2) (hv : z_ok S (z_r k2 v)) : z_rfs (zsR S k i j v) := by
  intro k' i' j' q k'' h1 h2 h3 h4
  have h4 : z_up (zR S) k i j v k' i' j' = some q := h4
  unfold z_up at h4
  by_cases hc : k' = k ∧ i' = i ∧ j' = j
  · rw [if_pos hc] at h4
    subst h4
    obtain ⟨rfl, rfl, rfl⟩ := hc
    have e : k2 = k'' := by
      rcases hk with hk | hk
      · exact Option.some.inj (hk.symm.trans h3)
      · exact Option.some.inj ((hk _).symm.trans h3)
    subst e
    exact hv
  · rw [if_neg hc] at h4
    exact h k' i' j' q k'' h1 h2 h3 h4
theorem z_tys_at (cA : Nat → ClassId) {k : Nat} (h1 : 13 ≤ k) (h2 : k < 55) : (z_tys cA)[k - 13]? = some (cA k, z_ty k) := by
  unfold z_tys
  rw [List.getElem?_map, List.getElem?_range (by omega), Option.map_some, show 13 + (k - 13) = k by omega]
section ZHEAP
variable {Y : ZM} {S0 : ZH} {F : ZP} {pc : Nat} {lo lo' : List (Nat × ZV)} {st : List ZV} {S : ZH}
theorem x_getI {k a : Nat} {o : Option Nat} {C : String} {T : u_T} {N : Nat} {ty : Nat → FieldType} {idx : Nat} (ho : o = some a) (K : z_CK k C T N ty) (j : Nat) (hj : j < N) (hr : z_rk k j = none) (hl : z_in (.fieldLink Y.1.cls idx (T j).1 (T j).2.1 (T j).2.2.1)) (d : decode Y.2.1 pc = .ok (.getfield idx, 3)) (kk : Wp Y S0 F (pc + 3) lo (z_i (zI S k a j) :: st) S) : Wp Y S0 F pc lo (z_r k o :: st) S := by
  intro p l e R s m args below meth c D cA ad0 ad L H locs cells slots ls Q hC hF hS
  subst ho
  obtain ⟨hc, hG, hN, hk, -⟩ := K
  have ha : a < zN S k := z_oH hS.2.2.2.2.2.2.2.1
  obtain ⟨q0, hq, hw⟩ := z_mem_ws (cA := cA) (ad := ad) hS.1 (by omega : k < 99) ha
  have hw' : (z_ws cA ad S L)[q0]? = some (ad k a, .inr (k, (List.range N).map (z_fld ad S k a))) := by rw [hw]; unfold z_cell; rw [if_pos hk, hN]
  exact va_get hC.1 hC.2.1 (hC.2.2.2.2.2.2.1.ws hG) (fun w h => h) hC.2.2.2.2.2.1 hC.2.2.2.2.2.2.2.2.2 hS.2.1 q0 hw' hc j hj (hC.2.2.2.2.2.2.1.w hl) (fun x h => h) (v := .int (zI S k a j)) (by rw [List.getElem?_map, List.getElem?_range hj, Option.map_some]; unfold z_fld; rw [hr]) d
    (kk p l e R s m args below meth c D cA ad0 ad L H locs cells slots ls Q hC hF (hS.stk (fun h => z_oI (z_oT h))))
theorem x_getR {k a k2 : Nat} {o : Option Nat} {C : String} {T : u_T} {N : Nat} {ty : Nat → FieldType} {idx : Nat} (ho : o = some a) (K : z_CK k C T N ty) (j : Nat) (hj : j < N) (hr : z_rk k j = some k2) (hl : z_in (.fieldLink Y.1.cls idx (T j).1 (T j).2.1 (T j).2.2.1)) (d : decode Y.2.1 pc = .ok (.getfield idx, 3)) (kk : Wp Y S0 F (pc + 3) lo (z_r k2 (zR S k a j) :: st) S) : Wp Y S0 F pc lo (z_r k o :: st) S := by
  intro p l e R s m args below meth c D cA ad0 ad L H locs cells slots ls Q hC hF hS
  subst ho
  obtain ⟨hc, hG, hN, hk, -⟩ := K
  have ha : a < zN S k := z_oH hS.2.2.2.2.2.2.2.1
  obtain ⟨q0, hq, hw⟩ := z_mem_ws (cA := cA) (ad := ad) hS.1 (by omega : k < 99) ha
  have hw' : (z_ws cA ad S L)[q0]? = some (ad k a, .inr (k, (List.range N).map (z_fld ad S k a))) := by rw [hw]; unfold z_cell; rw [if_pos hk, hN]
  have hv : z_ok S (z_r k2 (zR S k a j)) := by
    cases hx : zR S k a j with
    | none => exact trivial
    | some q => exact hS.2.2.2.1 k a j q k2 (by omega) ha hr hx
  exact va_get hC.1 hC.2.1 (hC.2.2.2.2.2.2.1.ws hG) (fun w h => h) hC.2.2.2.2.2.1 hC.2.2.2.2.2.2.2.2.2 hS.2.1 q0 hw' hc j hj (hC.2.2.2.2.2.2.1.w hl) (fun x h => h) (v := va_rf ((zR S k a j).map (ad k2))) (by rw [List.getElem?_map, List.getElem?_range hj, Option.map_some]; unfold z_fld; rw [hr]) d
    (kk p l e R s m args below meth c D cA ad0 ad L H locs cells slots ls Q hC hF (hS.stk (fun h => z_oC hv (z_oT h))))
/-- a field may be written: it isn't final, or this is its class's constructor -/
def z_wr (Y : ZM) (T : u_T) (j : Nat) : Prop := (T j).2.2.2 = false ∨ ((T j).2.2.2 = true ∧ Y.1.name = "<init>" ∧ (T j).1 = Y.1.cls)
set_option maxHeartbeats 1000000 in
theorem x_putI {k a : Nat} {o : Option Nat} {C : String} {T : u_T} {N : Nat} {ty : Nat → FieldType} {idx : Nat} {v : Int32} (ho : o = some a) (K : z_CK k C T N ty) (j : Nat) (hj : j < N) (hr : z_rk k j = none) (hfin : z_wr Y T j) (hn : narrow (ty j) (.int v) = .int v) (hfit : fits (ty j) (.int v) = true) (hl : z_in (.fieldLink Y.1.cls idx (T j).1 (T j).2.1 (T j).2.2.1)) (d : decode Y.2.1 pc = .ok (.putfield idx, 3)) (kk : Wp Y S0 F (pc + 3) lo st (zsI S k a j v)) : Wp Y S0 F pc lo (z_i v :: z_r k o :: st) S := by
  intro p l e R s m args below meth c D cA ad0 ad L H locs cells slots ls Q hC hF hS
  subst ho
  obtain ⟨hc, hG, hN, hk, hty, hnm, -⟩ := K
  have ha : a < zN S k := z_oH (z_oT hS.2.2.2.2.2.2.2.1)
  obtain ⟨q0, hq, hw⟩ := z_mem_ws (cA := cA) (ad := ad) hS.1 (by omega : k < 99) ha
  have hw' : (z_ws cA ad S L)[q0]? = some (ad k a, .inr (k, (List.range N).map (z_fld ad S k a))) := by rw [hw]; unfold z_cell; rw [if_pos hk, hN]
  have e1 : (z_ws cA ad S L).set q0 (ad k a, .inr (k, ((List.range N).map (z_fld ad S k a)).set j (.int v))) = z_ws cA ad (zsI S k a j v) L := by
    refine z_set_ws hS.2.2.1 hq ?_ (fun k' i' h => z_cell_I k' i' h)
    unfold z_cell
    rw [if_pos hk, hN]
    congr 2
    refine (z_setL _ _ N j _ (fun i _ => ?_)).symm
    unfold z_fld
    by_cases hij : i = j
    · subst hij
      rw [if_pos rfl, hr]
      simp [zsI, zI, z_up]
    · rw [if_neg hij]
      have e2 : zI (zsI S k a j v) k a i = zI S k a i := by simp [zsI, zI, z_up, hij]
      rw [e2]
      rfl
  have fin : ∀ (H1 : Heap) (locs1 : List Loc), va_P D vwCl ((z_ws cA ad S L).set q0 (ad k a, .inr (k, ((List.range N).map (z_fld ad S k a)).set j (.int v)))) H1 → va_D (z_A ad0 S0 s.heap.size) ((z_ws cA ad S L).set q0 (ad k a, .inr (k, ((List.range N).map (z_fld ad S k a)).set j (.int v)))) → va_S (z_A ad0 S0 s.heap.size) s.heap H1 locs1 → W p l e R s m args below meth c H1 locs1 cells slots Q (F0 m (pc + 3) ls (st.map (z_v ad))) := by
    intro H1 locs1 g1 g2 g3
    rw [e1] at g1 g2
    exact kk p l e R s m args below meth c D cA ad0 ad L H1 locs1 cells slots ls Q hC hF ⟨hS.1, g1, g2, hS.2.2.2.1, g3, hS.2.2.2.2.2.1, hS.2.2.2.2.2.2.1, z_oT (z_oT hS.2.2.2.2.2.2.2.1), hS.2.2.2.2.2.2.2.2.1, hS.2.2.2.2.2.2.2.2.2⟩
  rcases hfin with hfin | ⟨hfin, hi1, hi2⟩
  · exact va_put hC.1 hC.2.1 (hC.2.2.2.2.2.2.1.ws hG) (fun w h => h) ty hty hnm hC.2.2.2.2.2.1 hC.2.2.2.2.2.2.2.2.2 hS.2.1 hS.2.2.1 hS.2.2.2.2.1 q0 hw' hc j hj (hC.2.2.2.2.2.2.1.w hl) (fun x h => h) hfin (hty j hj) hn hfit (by simp [hj]) d fin
  · exact va_putF hC.1 hC.2.1 (hC.2.2.2.2.2.2.1.ws hG) (fun w h => h) ty hty hnm hC.2.2.2.2.2.1 hC.2.2.2.2.2.2.2.2.2 hS.2.1 hS.2.2.1 hS.2.2.2.2.1 q0 hw' hc j hj (hC.2.2.2.2.2.2.1.w hl) (fun x h => h) hfin (hC.2.2.2.2.2.2.2.1 hi1) hi2 (hty j hj) hn hfit (by simp [hj]) d fin
theorem z_nar_rf {ty : FieldType} (h : (∃ n, ty = .object n) ∨ ∃ t, ty = .array t) (o : Option Nat) : narrow ty (va_rf o) = va_rf o ∧ fits ty (va_rf o) = true := by
  rcases h with ⟨n, rfl⟩ | ⟨t, rfl⟩ <;> cases o <;> exact ⟨rfl, rfl⟩
set_option maxHeartbeats 1000000 in
theorem x_putR {k a k2 : Nat} {o : Option Nat} {C : String} {T : u_T} {N : Nat} {ty : Nat → FieldType} {idx : Nat} {v : Option Nat} (ho : o = some a) (K : z_CK k C T N ty) (j : Nat) (hj : j < N) (hr : z_rk k j = some k2) (hfin : z_wr Y T j) (hn : (∃ n, ty j = .object n) ∨ ∃ t, ty j = .array t) (hl : z_in (.fieldLink Y.1.cls idx (T j).1 (T j).2.1 (T j).2.2.1)) (d : decode Y.2.1 pc = .ok (.putfield idx, 3)) (kk : Wp Y S0 F (pc + 3) lo st (zsR S k a j v)) : Wp Y S0 F pc lo (z_r k2 v :: z_r k o :: st) S := by
  intro p l e R s m args below meth c D cA ad0 ad L H locs cells slots ls Q hC hF hS
  subst ho
  obtain ⟨hc, hG, hN, hk, hty, hnm, -⟩ := K
  have ha : a < zN S k := z_oH (z_oT hS.2.2.2.2.2.2.2.1)
  obtain ⟨q0, hq, hw⟩ := z_mem_ws (cA := cA) (ad := ad) hS.1 (by omega : k < 99) ha
  have hw' : (z_ws cA ad S L)[q0]? = some (ad k a, .inr (k, (List.range N).map (z_fld ad S k a))) := by rw [hw]; unfold z_cell; rw [if_pos hk, hN]
  have e1 : (z_ws cA ad S L).set q0 (ad k a, .inr (k, ((List.range N).map (z_fld ad S k a)).set j (va_rf (v.map (ad k2))))) = z_ws cA ad (zsR S k a j v) L := by
    refine z_set_ws hS.2.2.1 hq ?_ (fun k' i' h => z_cell_R k' i' h)
    unfold z_cell
    rw [if_pos hk, hN]
    congr 2
    refine (z_setL _ _ N j _ (fun i _ => ?_)).symm
    unfold z_fld
    by_cases hij : i = j
    · subst hij
      rw [if_pos rfl, hr]
      simp [zsR, zR, z_up]
    · rw [if_neg hij]
      have e2 : zR (zsR S k a j v) k a i = zR S k a i := by simp [zsR, zR, z_up, hij]
      rw [e2]
      rfl
  have fin : ∀ (H1 : Heap) (locs1 : List Loc), va_P D vwCl ((z_ws cA ad S L).set q0 (ad k a, .inr (k, ((List.range N).map (z_fld ad S k a)).set j (va_rf (v.map (ad k2)))))) H1 → va_D (z_A ad0 S0 s.heap.size) ((z_ws cA ad S L).set q0 (ad k a, .inr (k, ((List.range N).map (z_fld ad S k a)).set j (va_rf (v.map (ad k2)))))) → va_S (z_A ad0 S0 s.heap.size) s.heap H1 locs1 → W p l e R s m args below meth c H1 locs1 cells slots Q (F0 m (pc + 3) ls (st.map (z_v ad))) := by
    intro H1 locs1 g1 g2 g3
    rw [e1] at g1 g2
    exact kk p l e R s m args below meth c D cA ad0 ad L H1 locs1 cells slots ls Q hC hF ⟨hS.1, g1, g2, z_rfs_R hS.2.2.2.1 (Or.inl hr) (z_oH hS.2.2.2.2.2.2.2.1), g3, hS.2.2.2.2.2.1, hS.2.2.2.2.2.2.1, z_oT (z_oT hS.2.2.2.2.2.2.2.1), hS.2.2.2.2.2.2.2.2.1, hS.2.2.2.2.2.2.2.2.2⟩
  have hnf := z_nar_rf hn (v.map (ad k2))
  rcases hfin with hfin | ⟨hfin, hi1, hi2⟩
  · exact va_put hC.1 hC.2.1 (hC.2.2.2.2.2.2.1.ws hG) (fun w h => h) ty hty hnm hC.2.2.2.2.2.1 hC.2.2.2.2.2.2.2.2.2 hS.2.1 hS.2.2.1 hS.2.2.2.2.1 q0 hw' hc j hj (hC.2.2.2.2.2.2.1.w hl) (fun x h => h) hfin (hty j hj) hnf.1 hnf.2 (by simp [hj]) d fin
  · exact va_putF hC.1 hC.2.1 (hC.2.2.2.2.2.2.1.ws hG) (fun w h => h) ty hty hnm hC.2.2.2.2.2.1 hC.2.2.2.2.2.2.2.2.2 hS.2.1 hS.2.2.1 hS.2.2.2.2.1 q0 hw' hc j hj (hC.2.2.2.2.2.2.1.w hl) (fun x h => h) hfin (hC.2.2.2.2.2.2.2.1 hi1) hi2 (hty j hj) hnf.1 hnf.2 (by simp [hj]) d fin
/-! arrays -/
theorem z_cellA {cA : Nat → ClassId} {ad : Nat → Nat → Nat} {S : ZH} {k i : Nat} (hk : 13 ≤ k) (hr : z_rk k 0 = none) : z_cell cA ad S k i = .inl (cA k, zL S k i, .inl (zI S k i)) := by
  unfold z_cell
  rw [if_neg (by omega), hr]
theorem z_cellQ {cA : Nat → ClassId} {ad : Nat → Nat → Nat} {S : ZH} {k i k2 : Nat} (hk : 13 ≤ k) (hr : z_rk k 0 = some k2) : z_cell cA ad S k i = .inl (cA k, zL S k i, .inr (.inr (.inr (.inr fun j => (zR S k i j).map (ad k2))))) := by
  unfold z_cell
  rw [if_neg (by omega), hr]
theorem zld_some {S : ZH} {k a : Nat} {x v : Int32} (h : zld S k a x = some v) : vp_in x (zL S k a) ∧ v = zI S k a x.toNatClampNeg := by
  unfold zld at h
  by_cases hc : x < 0 ∨ zL S k a ≤ x.toNatClampNeg
  · rw [if_pos hc] at h; cases h
  · rw [if_neg hc] at h; exact ⟨hc, (Option.some.inj h).symm⟩
theorem zldR_some {S : ZH} {k a : Nat} {x : Int32} {v : Option Nat} (h : zldR S k a x = some v) : vp_in x (zL S k a) ∧ v = zR S k a x.toNatClampNeg := by
  unfold zldR at h
  by_cases hc : x < 0 ∨ zL S k a ≤ x.toNatClampNeg
  · rw [if_pos hc] at h; cases h
  · rw [if_neg hc] at h; exact ⟨hc, (Option.some.inj h).symm⟩
theorem zst_some {S S' : ZH} {k a : Nat} {x v : Int32} (h : zst S k a x v = some S') : vp_in x (zL S k a) ∧ S' = zsI S k a x.toNatClampNeg v := by
  unfold zst at h
  by_cases hc : x < 0 ∨ zL S k a ≤ x.toNatClampNeg
  · rw [if_pos hc] at h; cases h
  · rw [if_neg hc] at h; exact ⟨hc, (Option.some.inj h).symm⟩
theorem zstR_some {S S' : ZH} {k a : Nat} {x : Int32} {v : Option Nat} (h : zstR S k a x v = some S') : vp_in x (zL S k a) ∧ S' = zsR S k a x.toNatClampNeg v := by
  unfold zstR at h
  by_cases hc : x < 0 ∨ zL S k a ≤ x.toNatClampNeg
  · rw [if_pos hc] at h; cases h
  · rw [if_neg hc] at h; exact ⟨hc, (Option.some.inj h).symm⟩
/-- an array kind of a small or int type -/
def z_AK (k : Nat) (ty : FieldType) : Prop := 13 ≤ k ∧ k < 55 ∧ z_rk k 0 = none ∧ z_ty k = ty
theorem x_iaload {α : Type} {k a : Nat} {o : Option Nat} {x : Int32} {f : Int32 → Option α} {z : α} (ho : o = some a) (K : z_AK k .int) (d : decode Y.2.1 pc = .ok (.iaload, 1)) (h : (zld S k a x).bind f = some z) (kk : ∀ v, zld S k a x = some v → f v = some z → Wp Y S0 F (pc + 1) lo (z_i v :: st) S) : Wp Y S0 F pc lo (z_i x :: z_r k o :: st) S := by
  obtain ⟨v, hv, h⟩ := Option.bind_eq_some_iff.mp h
  intro p l e R s m args below meth c D cA ad0 ad L H locs cells slots ls Q hC hF hS
  subst ho
  obtain ⟨hin, rfl⟩ := zld_some hv
  obtain ⟨h13, h55, hr, hty⟩ := K
  have ha : a < zN S k := z_oH (z_oT hS.2.2.2.2.2.2.2.1)
  obtain ⟨q0, hq, hw⟩ := z_mem_ws (cA := cA) (ad := ad) hS.1 (by omega : k < 99) ha
  rw [z_cellA h13 hr] at hw
  have ht := z_tys_at cA h13 h55
  rw [hty] at ht
  exact va_iald hC.1 hC.2.1 hC.2.2.2.2.2.2.2.2.2 hS.2.1 q0 (k - 13) hw ht hin d (kk _ hv h p l e R s m args below meth c D cA ad0 ad L H locs cells slots ls Q hC hF (hS.stk (fun h => z_oI (z_oT (z_oT h)))))
theorem x_baload {α : Type} {k a : Nat} {o : Option Nat} {x : Int32} {f : Int32 → Option α} {z : α} (ho : o = some a) (K : z_AK k .byte) (d : decode Y.2.1 pc = .ok (.baload, 1)) (h : (zld S k a x).bind f = some z) (kk : ∀ v, zld S k a x = some v → f v = some z → Wp Y S0 F (pc + 1) lo (z_i v :: st) S) : Wp Y S0 F pc lo (z_i x :: z_r k o :: st) S := by
  obtain ⟨v, hv, h⟩ := Option.bind_eq_some_iff.mp h
  intro p l e R s m args below meth c D cA ad0 ad L H locs cells slots ls Q hC hF hS
  subst ho
  obtain ⟨hin, rfl⟩ := zld_some hv
  obtain ⟨h13, h55, hr, hty⟩ := K
  have ha : a < zN S k := z_oH (z_oT hS.2.2.2.2.2.2.2.1)
  obtain ⟨q0, hq, hw⟩ := z_mem_ws (cA := cA) (ad := ad) hS.1 (by omega : k < 99) ha
  rw [z_cellA h13 hr] at hw
  have ht := z_tys_at cA h13 h55
  rw [hty] at ht
  exact va_bald hC.1 hC.2.1 hC.2.2.2.2.2.2.2.2.2 hS.2.1 q0 (k - 13) hw ht hin d (kk _ hv h p l e R s m args below meth c D cA ad0 ad L H locs cells slots ls Q hC hF (hS.stk (fun h => z_oI (z_oT (z_oT h)))))
theorem x_zaload {α : Type} {k a : Nat} {o : Option Nat} {x : Int32} {f : Int32 → Option α} {z : α} (ho : o = some a) (K : z_AK k .boolean) (d : decode Y.2.1 pc = .ok (.baload, 1)) (h : (zld S k a x).bind f = some z) (kk : ∀ v, zld S k a x = some v → f v = some z → Wp Y S0 F (pc + 1) lo (z_i v :: st) S) : Wp Y S0 F pc lo (z_i x :: z_r k o :: st) S := by
  obtain ⟨v, hv, h⟩ := Option.bind_eq_some_iff.mp h
  intro p l e R s m args below meth c D cA ad0 ad L H locs cells slots ls Q hC hF hS
  subst ho
  obtain ⟨hin, rfl⟩ := zld_some hv
  obtain ⟨h13, h55, hr, hty⟩ := K
  have ha : a < zN S k := z_oH (z_oT hS.2.2.2.2.2.2.2.1)
  obtain ⟨q0, hq, hw⟩ := z_mem_ws (cA := cA) (ad := ad) hS.1 (by omega : k < 99) ha
  rw [z_cellA h13 hr] at hw
  have ht := z_tys_at cA h13 h55
  rw [hty] at ht
  exact va_zald hC.1 hC.2.1 hC.2.2.2.2.2.2.2.2.2 hS.2.1 q0 (k - 13) hw ht hin d (kk _ hv h p l e R s m args below meth c D cA ad0 ad L H locs cells slots ls Q hC hF (hS.stk (fun h => z_oI (z_oT (z_oT h)))))
theorem x_iastore {α : Type} {k a : Nat} {o : Option Nat} {x v : Int32} {f : ZH → Option α} {z : α} (ho : o = some a) (K : z_AK k .int) (d : decode Y.2.1 pc = .ok (.iastore, 1)) (h : (zst S k a x v).bind f = some z) (kk : ∀ S1, zst S k a x v = some S1 → f S1 = some z → Wp Y S0 F (pc + 1) lo st S1) : Wp Y S0 F pc lo (z_i v :: z_i x :: z_r k o :: st) S := by
  obtain ⟨S1, hv, h⟩ := Option.bind_eq_some_iff.mp h
  intro p l e R s m args below meth c D cA ad0 ad L H locs cells slots ls Q hC hF hS
  subst ho
  obtain ⟨hin, rfl⟩ := zst_some hv
  obtain ⟨h13, h55, hr, hty⟩ := K
  have ha : a < zN S k := z_oH (z_oT (z_oT hS.2.2.2.2.2.2.2.1))
  obtain ⟨q0, hq, hw⟩ := z_mem_ws (cA := cA) (ad := ad) hS.1 (by omega : k < 99) ha
  rw [z_cellA h13 hr] at hw
  have ht := z_tys_at cA h13 h55
  rw [hty] at ht
  have e1 : (z_ws cA ad S L).set q0 (ad k a, .inl (cA k, zL S k a, .inl (upd (zI S k a) x.toNatClampNeg v))) = z_ws cA ad (zsI S k a x.toNatClampNeg v) L := by
    refine z_set_ws hS.2.2.1 hq ?_ (fun k' i' h => z_cell_I k' i' h)
    rw [z_cellA h13 hr]
    have e2 : zI (zsI S k a x.toNatClampNeg v) k a = upd (zI S k a) x.toNatClampNeg v := by
      funext j
      simp [zsI, zI, z_up, upd]
    rw [e2]
    rfl
  refine va_iast hC.1 hC.2.1 hC.2.2.2.2.2.2.2.2.2 hS.2.1 hS.2.2.1 hS.2.2.2.2.1 q0 (k - 13) hw ht hin d (fun H1 locs1 g1 g2 g3 => ?_)
  have g1 : va_P D vwCl ((z_ws cA ad S L).set q0 (ad k a, .inl (cA k, zL S k a, .inl (upd (zI S k a) x.toNatClampNeg v)))) H1 := g1
  have g2 : va_D (z_A ad0 S0 s.heap.size) ((z_ws cA ad S L).set q0 (ad k a, .inl (cA k, zL S k a, .inl (upd (zI S k a) x.toNatClampNeg v)))) := g2
  rw [e1] at g1 g2
  exact kk _ hv h p l e R s m args below meth c D cA ad0 ad L H1 locs1 cells slots ls Q hC hF ⟨hS.1, g1, g2, hS.2.2.2.1, g3, hS.2.2.2.2.2.1, hS.2.2.2.2.2.2.1, z_oT (z_oT (z_oT hS.2.2.2.2.2.2.2.1)), hS.2.2.2.2.2.2.2.2.1, hS.2.2.2.2.2.2.2.2.2⟩
theorem x_bastore {α : Type} {k a : Nat} {o : Option Nat} {x v : Int32} {f : ZH → Option α} {z : α} (ho : o = some a) (K : z_AK k .byte) (d : decode Y.2.1 pc = .ok (.bastore, 1)) (h : (zst S k a x (z_y v)).bind f = some z) (kk : ∀ S1, zst S k a x (z_y v) = some S1 → f S1 = some z → Wp Y S0 F (pc + 1) lo st S1) : Wp Y S0 F pc lo (z_i v :: z_i x :: z_r k o :: st) S := by
  obtain ⟨S1, hv, h⟩ := Option.bind_eq_some_iff.mp h
  intro p l e R s m args below meth c D cA ad0 ad L H locs cells slots ls Q hC hF hS
  subst ho
  obtain ⟨hin, rfl⟩ := zst_some hv
  obtain ⟨h13, h55, hr, hty⟩ := K
  have ha : a < zN S k := z_oH (z_oT (z_oT hS.2.2.2.2.2.2.2.1))
  obtain ⟨q0, hq, hw⟩ := z_mem_ws (cA := cA) (ad := ad) hS.1 (by omega : k < 99) ha
  rw [z_cellA h13 hr] at hw
  have ht := z_tys_at cA h13 h55
  rw [hty] at ht
  have e1 : (z_ws cA ad S L).set q0 (ad k a, .inl (cA k, zL S k a, .inl (upd (zI S k a) x.toNatClampNeg (z_y v)))) = z_ws cA ad (zsI S k a x.toNatClampNeg (z_y v)) L := by
    refine z_set_ws hS.2.2.1 hq ?_ (fun k' i' h => z_cell_I k' i' h)
    rw [z_cellA h13 hr]
    have e2 : zI (zsI S k a x.toNatClampNeg (z_y v)) k a = upd (zI S k a) x.toNatClampNeg (z_y v) := by
      funext j
      simp [zsI, zI, z_up, upd]
    rw [e2]
    rfl
  refine va_bast hC.1 hC.2.1 hC.2.2.2.2.2.2.2.2.2 hS.2.1 hS.2.2.1 hS.2.2.2.2.1 q0 (k - 13) hw ht hin d (fun H1 locs1 g1 g2 g3 => ?_)
  have g1 : va_P D vwCl ((z_ws cA ad S L).set q0 (ad k a, .inl (cA k, zL S k a, .inl (upd (zI S k a) x.toNatClampNeg (z_y v))))) H1 := g1
  have g2 : va_D (z_A ad0 S0 s.heap.size) ((z_ws cA ad S L).set q0 (ad k a, .inl (cA k, zL S k a, .inl (upd (zI S k a) x.toNatClampNeg (z_y v))))) := g2
  rw [e1] at g1 g2
  exact kk _ hv h p l e R s m args below meth c D cA ad0 ad L H1 locs1 cells slots ls Q hC hF ⟨hS.1, g1, g2, hS.2.2.2.1, g3, hS.2.2.2.2.2.1, hS.2.2.2.2.2.2.1, z_oT (z_oT (z_oT hS.2.2.2.2.2.2.2.1)), hS.2.2.2.2.2.2.2.2.1, hS.2.2.2.2.2.2.2.2.2⟩
theorem x_zastore {α : Type} {k a : Nat} {o : Option Nat} {x v : Int32} {f : ZH → Option α} {z : α} (ho : o = some a) (K : z_AK k .boolean) (d : decode Y.2.1 pc = .ok (.bastore, 1)) (h : (zst S k a x (z_b v)).bind f = some z) (kk : ∀ S1, zst S k a x (z_b v) = some S1 → f S1 = some z → Wp Y S0 F (pc + 1) lo st S1) : Wp Y S0 F pc lo (z_i v :: z_i x :: z_r k o :: st) S := by
  obtain ⟨S1, hv, h⟩ := Option.bind_eq_some_iff.mp h
  intro p l e R s m args below meth c D cA ad0 ad L H locs cells slots ls Q hC hF hS
  subst ho
  obtain ⟨hin, rfl⟩ := zst_some hv
  obtain ⟨h13, h55, hr, hty⟩ := K
  have ha : a < zN S k := z_oH (z_oT (z_oT hS.2.2.2.2.2.2.2.1))
  obtain ⟨q0, hq, hw⟩ := z_mem_ws (cA := cA) (ad := ad) hS.1 (by omega : k < 99) ha
  rw [z_cellA h13 hr] at hw
  have ht := z_tys_at cA h13 h55
  rw [hty] at ht
  have e1 : (z_ws cA ad S L).set q0 (ad k a, .inl (cA k, zL S k a, .inl (upd (zI S k a) x.toNatClampNeg (z_b v)))) = z_ws cA ad (zsI S k a x.toNatClampNeg (z_b v)) L := by
    refine z_set_ws hS.2.2.1 hq ?_ (fun k' i' h => z_cell_I k' i' h)
    rw [z_cellA h13 hr]
    have e2 : zI (zsI S k a x.toNatClampNeg (z_b v)) k a = upd (zI S k a) x.toNatClampNeg (z_b v) := by
      funext j
      simp [zsI, zI, z_up, upd]
    rw [e2]
    rfl
  refine va_zast hC.1 hC.2.1 hC.2.2.2.2.2.2.2.2.2 hS.2.1 hS.2.2.1 hS.2.2.2.2.1 q0 (k - 13) hw ht hin d (fun H1 locs1 g1 g2 g3 => ?_)
  have g1 : va_P D vwCl ((z_ws cA ad S L).set q0 (ad k a, .inl (cA k, zL S k a, .inl (upd (zI S k a) x.toNatClampNeg (z_b v))))) H1 := g1
  have g2 : va_D (z_A ad0 S0 s.heap.size) ((z_ws cA ad S L).set q0 (ad k a, .inl (cA k, zL S k a, .inl (upd (zI S k a) x.toNatClampNeg (z_b v))))) := g2
  rw [e1] at g1 g2
  exact kk _ hv h p l e R s m args below meth c D cA ad0 ad L H1 locs1 cells slots ls Q hC hF ⟨hS.1, g1, g2, hS.2.2.2.1, g3, hS.2.2.2.2.2.1, hS.2.2.2.2.2.2.1, z_oT (z_oT (z_oT hS.2.2.2.2.2.2.2.1)), hS.2.2.2.2.2.2.2.2.1, hS.2.2.2.2.2.2.2.2.2⟩
/-- an array kind of references -/
def z_QK (k k2 : Nat) (C : String) : Prop := 13 ≤ k ∧ k < 55 ∧ (∀ j, z_rk k j = some k2) ∧ z_ty k = .object C ∧ k2 < 13 ∧ (vwCl[k2]?).map (fun q => q.1) = some C
theorem x_aaload {α : Type} {k a k2 : Nat} {C : String} {o : Option Nat} {x : Int32} {f : Option Nat → Option α} {z : α} (ho : o = some a) (K : z_QK k k2 C) (d : decode Y.2.1 pc = .ok (.aaload, 1)) (h : (zldR S k a x).bind f = some z) (kk : ∀ v, zldR S k a x = some v → f v = some z → Wp Y S0 F (pc + 1) lo (z_r k2 v :: st) S) : Wp Y S0 F pc lo (z_i x :: z_r k o :: st) S := by
  obtain ⟨v, hv, h⟩ := Option.bind_eq_some_iff.mp h
  intro p l e R s m args below meth c D cA ad0 ad L H locs cells slots ls Q hC hF hS
  subst ho
  obtain ⟨hin, rfl⟩ := zldR_some hv
  obtain ⟨h13, h55, hr, hty, -⟩ := K
  have ha : a < zN S k := z_oH (z_oT hS.2.2.2.2.2.2.2.1)
  obtain ⟨q0, hq, hw⟩ := z_mem_ws (cA := cA) (ad := ad) hS.1 (by omega : k < 99) ha
  rw [z_cellQ h13 (hr 0)] at hw
  have ht := z_tys_at cA h13 h55
  rw [hty] at ht
  have hvv : z_ok S (z_r k2 (zR S k a x.toNatClampNeg)) := by
    cases hx : zR S k a x.toNatClampNeg with
    | none => exact trivial
    | some q => exact hS.2.2.2.1 k a _ q k2 (by omega) ha (hr _) hx
  exact va_aldq hC.1 hC.2.1 hC.2.2.2.2.2.2.2.2.2 hS.2.1 q0 (k - 13) hw ht hin d (kk _ hv h p l e R s m args below meth c D cA ad0 ad L H locs cells slots ls Q hC hF (hS.stk (fun h => z_oC hvv (z_oT (z_oT h)))))
set_option maxHeartbeats 1000000 in
theorem x_aastore {α : Type} {k a k2 b : Nat} {C : String} {o : Option Nat} {x : Int32} {f : ZH → Option α} {z : α} (ho : o = some a) (K : z_QK k k2 C) (d : decode Y.2.1 pc = .ok (.aastore, 1)) (h : (zstR S k a x (some b)).bind f = some z) (kk : ∀ S1, zstR S k a x (some b) = some S1 → f S1 = some z → Wp Y S0 F (pc + 1) lo st S1) : Wp Y S0 F pc lo (z_r k2 (some b) :: z_i x :: z_r k o :: st) S := by
  obtain ⟨S1, hv, h⟩ := Option.bind_eq_some_iff.mp h
  intro p l e R s m args below meth c D cA ad0 ad L H locs cells slots ls Q hC hF hS
  subst ho
  obtain ⟨hin, rfl⟩ := zstR_some hv
  obtain ⟨h13, h55, hr, hty, hk2, hcl⟩ := K
  have ha : a < zN S k := z_oH (z_oT (z_oT hS.2.2.2.2.2.2.2.1))
  have hb : b < zN S k2 := z_oH hS.2.2.2.2.2.2.2.1
  obtain ⟨q0, hq, hw⟩ := z_mem_ws (cA := cA) (ad := ad) hS.1 (by omega : k < 99) ha
  obtain ⟨q1, hq1, hw1⟩ := z_mem_ws (cA := cA) (ad := ad) hS.1 (by omega : k2 < 99) hb
  rw [z_cellQ h13 (hr 0)] at hw
  have hw2 : (z_ws cA ad S L)[q1]? = some (ad k2 b, .inr (k2, (List.range (z_nf k2)).map (z_fld ad S k2 b))) := by rw [hw1]; unfold z_cell; rw [if_pos hk2]
  have ht := z_tys_at cA h13 h55
  rw [hty] at ht
  cases hcr : vwCl[k2]? with
  | none => rw [hcr] at hcl; cases hcl
  | some r =>
    rw [hcr] at hcl
    have hcl : r.1 = C := Option.some.inj hcl
    subst hcl
    have e1 : (z_ws cA ad S L).set q0 (ad k a, .inl (cA k, zL S k a, .inr (.inr (.inr (.inr (va_up (fun j => (zR S k a j).map (ad k2)) x.toNatClampNeg (some (ad k2 b)))))))) = z_ws cA ad (zsR S k a x.toNatClampNeg (some b)) L := by
      refine z_set_ws hS.2.2.1 hq ?_ (fun k' i' h => z_cell_R k' i' h)
      rw [z_cellQ h13 (hr 0)]
      have e2 : (fun j => (zR (zsR S k a x.toNatClampNeg (some b)) k a j).map (ad k2)) = va_up (fun j => (zR S k a j).map (ad k2)) x.toNatClampNeg (some (ad k2 b)) := by
        funext j
        by_cases hj : j = x.toNatClampNeg
        · subst hj; simp [zsR, zR, z_up, va_up]
        · simp [zsR, zR, z_up, va_up, hj]
      rw [e2]
      rfl
    refine va_astq hC.1 hC.2.1 hC.2.2.2.2.2.2.2.2.2 hS.2.1 hS.2.2.1 hS.2.2.2.2.1 q0 (k - 13) q1 k2 hw ht hw2 hcr hin d (fun H1 locs1 g1 g2 g3 => ?_)
    rw [e1] at g1 g2
    exact kk _ hv h p l e R s m args below meth c D cA ad0 ad L H1 locs1 cells slots ls Q hC hF ⟨hS.1, g1, g2, z_rfs_R hS.2.2.2.1 (Or.inr hr) hb, g3, hS.2.2.2.2.2.1, hS.2.2.2.2.2.2.1, z_oT (z_oT (z_oT hS.2.2.2.2.2.2.2.1)), hS.2.2.2.2.2.2.2.2.1, hS.2.2.2.2.2.2.2.2.2⟩
theorem x_alen {k a : Nat} {o : Option Nat} (ho : o = some a) (h13 : 13 ≤ k) (h55 : k < 55) (d : decode Y.2.1 pc = .ok (.arraylength, 1)) (kk : Wp Y S0 F (pc + 1) lo (z_i (nI (zL S k a)) :: st) S) : Wp Y S0 F pc lo (z_r k o :: st) S := by
  intro p l e R s m args below meth c D cA ad0 ad L H locs cells slots ls Q hC hF hS
  subst ho
  have ha : a < zN S k := z_oH hS.2.2.2.2.2.2.2.1
  obtain ⟨q0, hq, hw⟩ := z_mem_ws (cA := cA) (ad := ad) hS.1 (by omega : k < 99) ha
  have hk := kk p l e R s m args below meth c D cA ad0 ad L H locs cells slots ls Q hC hF (hS.stk (fun h => z_oI (z_oT h)))
  have ht := z_tys_at cA h13 h55
  cases hr : z_rk k 0 with
  | none =>
    rw [z_cellA h13 hr] at hw
    exact va_alen hC.1 hC.2.1 hC.2.2.2.2.2.2.2.2.2 hS.2.1 q0 (k - 13) hw ht rfl d hk
  | some k2 =>
    rw [z_cellQ h13 hr] at hw
    exact va_alen hC.1 hC.2.1 hC.2.2.2.2.2.2.2.2.2 hS.2.1 q0 (k - 13) hw ht rfl d hk
end ZHEAP
/-! ===== making cells ===== -/
theorem zal_some {S S' : ZH} {k n : Nat} (h : zal S k n = some S') : (zc S + 1 ≤ zC ∧ zs S + n ≤ zZ) ∧ S' = zNew S k n := by
  unfold zal at h
  by_cases hc : zc S + 1 ≤ zC ∧ zs S + n ≤ zZ
  · rw [if_pos hc] at h; exact ⟨hc, (Option.some.inj h).symm⟩
  · rw [if_neg hc] at h; cases h
def z_ad (ad : Nat → Nat → Nat) (k i q : Nat) : Nat → Nat → Nat := fun k' i' => if k' = k ∧ i' = i then q else ad k' i'
theorem z_ad_ne {ad : Nat → Nat → Nat} {k i q k' i' : Nat} (h : ¬ (k' = k ∧ i' = i)) : z_ad ad k i q k' i' = ad k' i' := if_neg h
theorem z_ad_eq {ad : Nat → Nat → Nat} {k i q : Nat} : z_ad ad k i q k i = q := if_pos ⟨rfl, rfl⟩
theorem z_v_ad {S : ZH} {ad : Nat → Nat → Nat} {k q : Nat} {v : ZV} (h : z_ok S v) : z_v (z_ad ad k (zN S k) q) v = z_v ad v := by
  rcases v with x | x | ⟨k', o⟩
  · rfl
  · rfl
  · cases o with
    | none => rfl
    | some i =>
      have h : i < zN S k' := h
      show va_rf (some (z_ad ad k (zN S k) q k' i)) = va_rf (some (ad k' i))
      rw [z_ad_ne]
      rintro ⟨rfl, rfl⟩
      omega
theorem z_map_ad {S : ZH} {ad : Nat → Nat → Nat} {k q : Nat} {st : List ZV} (h : ∀ v ∈ st, z_ok S v) : st.map (z_v (z_ad ad k (zN S k) q)) = st.map (z_v ad) := List.map_congr_left fun v hv => z_v_ad (h v hv)
theorem z_lo_ad {S : ZH} {ad : Nat → Nat → Nat} {k q : Nat} {lo : List (Nat × ZV)} (h : ∀ x ∈ lo, z_ok S x.2) : z_lo (z_ad ad k (zN S k) q) lo = z_lo ad lo := List.map_congr_left fun v hv => by rw [z_v_ad (h v hv)]
theorem zN_new (S : ZH) (k n k' : Nat) : zN (zNew S k n) k' = if k' = k then zN S k + 1 else zN S k' := rfl
theorem zN_new_le (S : ZH) (k n k' : Nat) : zN S k' ≤ zN (zNew S k n) k' := by
  rw [zN_new]
  by_cases h : k' = k
  · rw [if_pos h, h]; omega
  · rw [if_neg h]; exact Nat.le_refl _
theorem z_ok_le {S S' : ZH} (h : ∀ k, zN S k ≤ zN S' k) {v : ZV} (hv : z_ok S v) : z_ok S' v := by
  rcases v with x | x | ⟨k', o⟩
  · trivial
  · trivial
  · cases o with
    | none => trivial
    | some i => exact Nat.lt_of_lt_of_le (show i < zN S k' from hv) (h k')
theorem z_cell_new {cA : Nat → ClassId} {ad : Nat → Nat → Nat} {S : ZH} {k n q : Nat} (hR : z_rfs S) {k' i' : Nat} (hk : k' < 99) (hi : i' < zN S k') : z_cell cA (z_ad ad k (zN S k) q) (zNew S k n) k' i' = z_cell cA ad S k' i' := by
  have hne : ¬ (k' = k ∧ i' = zN S k) := by rintro ⟨rfl, rfl⟩; omega
  have e1 : ∀ j, zI (zNew S k n) k' i' j = zI S k' i' j := fun j => if_neg hne
  have e2 : ∀ j, zR (zNew S k n) k' i' j = zR S k' i' j := fun j => if_neg hne
  have e3 : zL (zNew S k n) k' i' = zL S k' i' := if_neg hne
  have e4 : ∀ j k2, z_rk k' j = some k2 → (zR S k' i' j).map (z_ad ad k (zN S k) q k2) = (zR S k' i' j).map (ad k2) := by
    intro j k2 hr
    cases hx : zR S k' i' j with
    | none => rfl
    | some y =>
      have hy := hR k' i' j y k2 hk hi hr hx
      show some (z_ad ad k (zN S k) q k2 y) = some (ad k2 y)
      rw [z_ad_ne]
      rintro ⟨rfl, rfl⟩
      omega
  have e5 : z_fld (z_ad ad k (zN S k) q) (zNew S k n) k' i' = z_fld ad S k' i' := by
    funext j
    unfold z_fld
    rw [e1, e2]
    cases hr : z_rk k' j with
    | none => rfl
    | some k2 => show va_rf _ = va_rf _; rw [e4 j k2 hr]
  unfold z_cell
  rw [e5, e3, show zI (zNew S k n) k' i' = zI S k' i' from funext e1]
  by_cases h13 : k' < 13
  · rw [if_pos h13, if_pos h13]
  · rw [if_neg h13, if_neg h13]
    cases hr : z_rk k' 0 with
    | none => rfl
    | some k2 =>
      have hr' : ∀ j, z_rk k' j = some k2 := fun j => by
        rw [← hr]
        unfold z_rk
        rw [if_neg h13, if_neg h13]
      have e6 : (fun j => (zR (zNew S k n) k' i' j).map (z_ad ad k (zN S k) q k2)) = fun j => (zR S k' i' j).map (ad k2) := funext fun j => by rw [e2, e4 j k2 (hr' j)]
      show (Sum.inl (cA k', zL S k' i', .inr (.inr (.inr (.inr (fun j => (zR (zNew S k n) k' i' j).map (z_ad ad k (zN S k) q k2)))))) : va_E) = _
      rw [e6]
theorem z_ws_new {cA : Nat → ClassId} {ad : Nat → Nat → Nat} {S : ZH} {k n q : Nat} {L : List (Nat × Nat)} (hL : z_mem S L) (hR : z_rfs S) : z_ws cA (z_ad ad k (zN S k) q) (zNew S k n) (L ++ [(k, zN S k)]) = z_ws cA ad S L ++ [(q, z_cell cA (z_ad ad k (zN S k) q) (zNew S k n) k (zN S k))] := by
  unfold z_ws
  rw [List.map_append]
  congr 1
  · apply List.map_congr_left
    intro x hx
    obtain ⟨k', i'⟩ := x
    have h := (hL k' i').mp hx
    have hne : ¬ (k' = k ∧ i' = zN S k) := by rintro ⟨rfl, rfl⟩; omega
    show (z_ad ad k (zN S k) q k' i', _) = (ad k' i', _)
    rw [z_ad_ne hne, z_cell_new hR h.1 h.2]
  · show [(z_ad ad k (zN S k) q k (zN S k), _)] = _
    rw [z_ad_eq]
theorem z_mem_new {S : ZH} {k n : Nat} {L : List (Nat × Nat)} (hk : k < 99) (hL : z_mem S L) : z_mem (zNew S k n) (L ++ [(k, zN S k)]) := by
  intro k' i'
  rw [List.mem_append, hL k' i', List.mem_singleton, zN_new]
  by_cases h : k' = k
  · subst h
    rw [if_pos rfl]
    constructor
    · rintro (h | h)
      · omega
      · have := (Prod.mk.inj h).2; omega
    · rintro ⟨h1, h2⟩
      by_cases h3 : i' < zN S k'
      · exact Or.inl ⟨h1, h3⟩
      · exact Or.inr (by rw [show i' = zN S k' by omega])
  · rw [if_neg h]
    constructor
    · rintro (h | h2)
      · exact h
      · exact absurd (Prod.mk.inj h2).1 h
    · exact Or.inl
theorem z_rfs_new {S : ZH} {k n : Nat} (h : z_rfs S) : z_rfs (zNew S k n) := by
  intro k' i' j q k2 h1 h2 h3 h4
  have h4 : (if k' = k ∧ i' = zN S k then none else zR S k' i' j) = some q := h4
  by_cases hc : k' = k ∧ i' = zN S k
  · rw [if_pos hc] at h4; cases h4
  · rw [if_neg hc] at h4
    rw [zN_new] at h2
    have h5 : i' < zN S k' := by
      by_cases hk : k' = k
      · subst hk
        rw [if_pos rfl] at h2
        have : i' ≠ zN S k' := fun e => hc ⟨rfl, e⟩
        omega
      · rw [if_neg hk] at h2; exact h2
    exact Nat.lt_of_lt_of_le (h k' i' j q k2 h1 h5 h3 h4) (zN_new_le S k n k2)
/-- the state behind a new cell -/
theorem z_St.new {nL : Nat} {D : va_G} {cA : Nat → ClassId} {ad0 : Nat → Nat → Nat} {S0 : ZH} {s : State} {ad : Nat → Nat → Nat} {S : ZH} {L : List (Nat × Nat)} {H : Heap} {locs : List Loc} {cells slots : Nat} {ls : Array Slot} {lo : List (Nat × ZV)} {st st' : List ZV} (h : z_St nL D cA ad0 S0 s ad S L H locs cells slots ls lo st) {k n q : Nat} {H1 : Heap} (hk : k < 99) (hc : zc S + 1 ≤ zC ∧ zs S + n ≤ zZ) {e : va_E} (he : z_cell cA (z_ad ad k (zN S k) q) (zNew S k n) k (zN S k) = e)
    (g1 : va_P D vwCl (z_ws cA ad S L ++ [(q, e)]) H1) (g2 : va_D (z_A ad0 S0 s.heap.size) (z_ws cA ad S L ++ [(q, e)])) (g3 : va_S (z_A ad0 S0 s.heap.size) s.heap H1 locs) (hst : ∀ v ∈ st', z_ok (zNew S k n) v) :
    z_St nL D cA ad0 S0 s (z_ad ad k (zN S k) q) (zNew S k n) (L ++ [(k, zN S k)]) H1 locs (cells + 1) (slots + n) ls lo st' := by
  obtain ⟨hL, -, -, hR, -, hE, hlo, -, hb, hl⟩ := h
  subst he
  rw [← z_ws_new hL hR] at g1 g2
  refine ⟨z_mem_new hk hL, g1, g2, z_rfs_new hR, g3, ⟨fun k' => Nat.le_trans (hE.1 k') (zN_new_le S k n k'), fun k' i' hi => ?_⟩, fun x hx => z_ok_le (zN_new_le S k n) (hlo x hx), hst, ?_, by rw [z_lo_ad hlo]; exact hl⟩
  · rw [z_ad_ne]
    · exact hE.2 k' i' hi
    · rintro ⟨rfl, rfl⟩
      have := hE.1 k'
      omega
  · have e1 : zc (zNew S k n) = zc S + 1 := rfl
    have e2 : zs (zNew S k n) = zs S + n := rfl
    rw [e1, e2]
    omega
section ZNEW
variable {Y : ZM} {S0 : ZH} {F : ZP} {pc : Nat} {lo lo' : List (Nat × ZV)} {st : List ZV} {S : ZH}
theorem z_hA {ad0 : Nat → Nat → Nat} {S0 : ZH} {sz : Nat} : ∀ q, sz ≤ q → z_A ad0 S0 sz q := fun _ h => Or.inr h
theorem z_ok_new {S : ZH} {k n : Nat} {st : List ZV} (h : ∀ v ∈ st, z_ok S v) : ∀ v ∈ z_r k (some (zN S k)) :: st, z_ok (zNew S k n) v := by
  refine z_oC ?_ (fun v hv => z_ok_le (zN_new_le S k n) (h v hv))
  show zN S k < zN (zNew S k n) k
  rw [zN_new, if_pos rfl]
  omega
set_option maxHeartbeats 1000000 in
theorem x_new {α : Type} {k : Nat} {C : String} {T : u_T} {N : Nat} {ty : Nat → FieldType} {idx : Nat} {f : ZH → Option α} {z : α} (K : z_CK k C T N ty) (hl : z_in (.classLink Y.1.cls idx C)) (d : decode Y.2.1 pc = .ok (.new idx, 3)) (h : (zal S k N).bind f = some z) (kk : ∀ S1, zal S k N = some S1 → f S1 = some z → Wp Y S0 F (pc + 3) lo (z_r k (some (zN S k)) :: st) S1) : Wp Y S0 F pc lo st S := by
  obtain ⟨S1, hv, h⟩ := Option.bind_eq_some_iff.mp h
  intro p l e R s m args below meth c D cA ad0 ad L H locs cells slots ls Q hC hF hS
  obtain ⟨hcap, rfl⟩ := zal_some hv
  obtain ⟨hc, hG, hN, hk, hty, hnm, hins, hini, hdf⟩ := K
  have hb := hS.2.2.2.2.2.2.2.2.1
  have hR := hC.2.2.2.2.2.2.2.2.1
  refine va_new (fs := (List.range N).map fun j => match z_rk k j with | none => .int 0 | some _ => .null) hC.1 hC.2.1 (hC.2.2.2.2.2.2.1.ws hG) (fun w h => h) ty hty hC.2.2.2.2.2.1 (hC.2.2.2.2.2.2.1.w hl) (hC.2.2.2.2.2.2.1.w hins) (hC.2.2.2.2.2.2.1.w hini) hC.2.2.2.2.2.2.2.2.2 hS.2.1 hS.2.2.1 hS.2.2.2.2.1 z_hA hc (fun j hj => ?_) (by omega) (by omega) d (fun q H1 g1 g2 g3 => ?_)
  · rw [hdf j hj]
    unfold vp_V
    rw [List.getD_eq_getElem?_getD, List.getElem?_map, List.getElem?_range hj]
    rfl
  · have key := kk _ hv h p l e R s m args below meth c D cA ad0 _ _ H1 locs (cells + 1) (slots + N) ls Q hC hF (hS.new (by omega) hcap (by
      unfold z_cell
      rw [if_pos hk, hN]
      congr 2
      apply List.map_congr_left
      intro j _
      unfold z_fld
      have e1 : zI (zNew S k N) k (zN S k) j = 0 := if_pos ⟨rfl, rfl⟩
      have e2 : zR (zNew S k N) k (zN S k) j = none := if_pos ⟨rfl, rfl⟩
      rw [e1, e2]
      cases z_rk k j <;> rfl) g1 g2 g3 (z_ok_new hS.2.2.2.2.2.2.2.1))
    have e3 : (z_r k (some (zN S k)) :: st).map (z_v (z_ad ad k (zN S k) q)) = .ref q :: st.map (z_v ad) := by
      show va_rf (some (z_ad ad k (zN S k) q k (zN S k))) :: st.map _ = _
      rw [z_ad_eq, z_map_ad hS.2.2.2.2.2.2.2.1]
      rfl
    rw [e3] at key
    exact key
/-- a new array of ints, bytes, booleans -/
def z_AT (a : ArrayType) (ty : FieldType) : Prop := newarray.typeOf a = ty ∧ (∀ (cA : ClassId) (n : Nat), vp_cell cA (n, .inl (fun _ => 0)) = arrV cA n (fun _ => defaultValue ty)) ∧ componentBytes ty ≤ 8 ∧ z_in (.arrayClass (newarray.typeOf a)) ∧ ∀ (s : State) (c1 c2 : ClassId), va_RA s c1 ty → va_RA s c2 ty → c1 = c2
set_option maxHeartbeats 1000000 in
theorem x_newa {α : Type} {k : Nat} {a : ArrayType} {ty : FieldType} {x : Int32} {f : ZH → Option α} {z : α} (K : z_AK k ty) (KT : z_AT a ty) (d : decode Y.2.1 pc = .ok (.newarray a, 2)) (h : (znw S k x).bind f = some z) (kk : ∀ S1, znw S k x = some S1 → f S1 = some z → Wp Y S0 F (pc + 2) lo (z_r k (some (zN S k)) :: st) S1) : Wp Y S0 F pc lo (z_i x :: st) S := by
  obtain ⟨S1, hv, h⟩ := Option.bind_eq_some_iff.mp h
  intro p l e R s m args below meth c D cA ad0 ad L H locs cells slots ls Q hC hF hS
  have hv0 := hv
  unfold znw at hv0
  by_cases hx : x < 0
  · rw [if_pos hx] at hv0; cases hv0
  rw [if_neg hx] at hv0
  obtain ⟨hcap, rfl⟩ := zal_some hv0
  obtain ⟨h13, h55, hr, hty⟩ := K
  obtain ⟨t1, t2, t3, t4, t5⟩ := KT
  have hb := hS.2.2.2.2.2.2.2.2.1
  have hR := hC.2.2.2.2.2.2.2.2.1
  have hZ : zZ = 7302250 := rfl
  have hsz : x.toNatClampNeg * componentBytes ty ≤ 536870912 := by
    have h1 : x.toNatClampNeg * componentBytes ty ≤ 7302250 * 8 := Nat.mul_le_mul (by omega) t3
    omega
  refine va_newa (a0 := (x.toNatClampNeg, .inl (fun _ => 0))) hC.1 hC.2.1 (hC.2.2.2.2.2.2.1.w t4) t1 hC.2.2.2.2.2.2.2.2.2 hS.2.1 hS.2.2.1 hS.2.2.2.2.1 z_hA (fun cA => t2 cA _) hx rfl hsz (by omega) (by omega) d (fun q cA' H1 gK g1 g2 g3 => ?_)
  have hcA : cA' = cA k := by
    have e1 := z_tys_at cA h13 h55
    rw [hty] at e1
    have a1 := (hC.2.2.2.2.2.2.2.2.2.2 _ _ e1).2
    have a2 := (gK.2 ((z_tys cA).length) (cA', ty) (by rw [List.getElem?_append_right (Nat.le_refl _), Nat.sub_self]; rfl)).2
    exact t5 s _ _ a2 a1
  subst hcA
  have key := kk _ hv h p l e R s m args below meth c D cA ad0 _ _ H1 locs (cells + 1) (slots + x.toNatClampNeg) ls Q hC hF (hS.new (by omega) hcap (by
    rw [z_cellA h13 hr]
    have e1 : zI (zNew S k x.toNatClampNeg) k (zN S k) = fun _ => 0 := funext fun j => if_pos ⟨rfl, rfl⟩
    have e2 : zL (zNew S k x.toNatClampNeg) k (zN S k) = x.toNatClampNeg := if_pos ⟨rfl, rfl⟩
    rw [e1, e2]) g1 g2 g3 (z_ok_new (z_oT hS.2.2.2.2.2.2.2.1)))
  have e3 : (z_r k (some (zN S k)) :: st).map (z_v (z_ad ad k (zN S k) q)) = .ref q :: st.map (z_v ad) := by
    show va_rf (some (z_ad ad k (zN S k) q k (zN S k))) :: st.map _ = _
    rw [z_ad_eq, z_map_ad (z_oT hS.2.2.2.2.2.2.2.1)]
    rfl
  rw [e3] at key
  exact key
set_option maxHeartbeats 1000000 in
theorem x_newq {α : Type} {k k2 idx : Nat} {C : String} {x : Int32} {f : ZH → Option α} {z : α} (K : z_QK k k2 C) (hl : z_in (.classLink Y.1.cls idx C)) (ho : Cond.arrayOver (.object C) ∈ lw_tbl) (d : decode Y.2.1 pc = .ok (.anewarray idx, 3)) (h : (znw S k x).bind f = some z) (kk : ∀ S1, znw S k x = some S1 → f S1 = some z → Wp Y S0 F (pc + 3) lo (z_r k (some (zN S k)) :: st) S1) : Wp Y S0 F pc lo (z_i x :: st) S := by
  obtain ⟨S1, hv, h⟩ := Option.bind_eq_some_iff.mp h
  intro p l e R s m args below meth c D cA ad0 ad L H locs cells slots ls Q hC hF hS
  have hv0 := hv
  unfold znw at hv0
  by_cases hx : x < 0
  · rw [if_pos hx] at hv0; cases hv0
  rw [if_neg hx] at hv0
  obtain ⟨hcap, rfl⟩ := zal_some hv0
  obtain ⟨h13, h55, hr, hty, hk2, hcl⟩ := K
  have hb := hS.2.2.2.2.2.2.2.2.1
  have hR := hC.2.2.2.2.2.2.2.2.1
  have hZ : zZ = 7302250 := rfl
  refine va_newq hC.1 hC.2.1 hC.2.2.2.2.2.1 (hC.2.2.2.2.2.2.1.w hl) (hC.2.2.2.2.2.2.1.2.2.1 C ho) hC.2.2.2.2.2.2.2.2.2 hS.2.1 hS.2.2.1 hS.2.2.2.2.1 z_hA hx rfl (by omega) (by omega) (by omega) d (fun q cA' H1 gK g1 g2 g3 => ?_)
  have hcA : cA' = cA k := by
    have e1 := z_tys_at cA h13 h55
    rw [hty] at e1
    obtain ⟨_, _, -, -, -, a1⟩ := (hC.2.2.2.2.2.2.2.2.2.2 _ _ e1).2
    obtain ⟨_, _, -, -, -, a2⟩ := (gK.2 ((z_tys cA).length) (cA', .object C) (by rw [List.getElem?_append_right (Nat.le_refl _), Nat.sub_self]; rfl)).2
    exact Option.some.inj (a2.symm.trans a1)
  subst hcA
  have key := kk _ hv h p l e R s m args below meth c D cA ad0 _ _ H1 locs (cells + 1) (slots + x.toNatClampNeg) ls Q hC hF (hS.new (by omega) hcap (by
    rw [z_cellQ h13 (hr 0)]
    have e1 : (fun j => (zR (zNew S k x.toNatClampNeg) k (zN S k) j).map (z_ad ad k (zN S k) q k2)) = fun _ => none := funext fun j => by
      have e0 : zR (zNew S k x.toNatClampNeg) k (zN S k) j = none := if_pos ⟨rfl, rfl⟩
      rw [e0]; rfl
    have e2 : zL (zNew S k x.toNatClampNeg) k (zN S k) = x.toNatClampNeg := if_pos ⟨rfl, rfl⟩
    rw [e1, e2]) g1 g2 g3 (z_ok_new (z_oT hS.2.2.2.2.2.2.2.1)))
  have e3 : (z_r k (some (zN S k)) :: st).map (z_v (z_ad ad k (zN S k) q)) = .ref q :: st.map (z_v ad) := by
    show va_rf (some (z_ad ad k (zN S k) q k (zN S k))) :: st.map _ = _
    rw [z_ad_eq, z_map_ad (z_oT hS.2.2.2.2.2.2.2.1)]
    rfl
  rw [e3] at key
  exact key
end ZNEW
/-! ===== returns, calls ===== -/
theorem z_nar_b (v : Int32) : narrow .boolean (.int v) = .int (z_b v) := rfl
section ZRET
variable {Y : ZM} {S0 : ZH} {pc : Nat} {lo : List (Nat × ZV)} {S : ZH}
theorem z_mono {p : Program} {l : Launch} {e : Env} {R : Room} {s : State} {m : MethodId} {args : Array Value} {below : List Frame} {meth : Method} {c : Code} {H : Heap} {locs : List Loc} {cells slots : Nat} {Q Q' : State → Prop} {g : JFrame} (h : ∀ t, Q t → Q' t) (k : W p l e R s m args below meth c H locs cells slots Q g) : W p l e R s m args below meth c H locs cells slots Q' g := fun T hT X => by
  obtain ⟨t, a, b⟩ := k T hT X
  exact ⟨t, a, h t b⟩
def z_Q1 (D : va_G) (cA : Nat → ClassId) (s : State) (ad0 : Nat → Nat → Nat) (S0 : ZH) (r : Option ZV) (S1 : ZH) (mc ms : Nat) (o : Outcome) (t : State) : Prop :=
  ∃ (ad1 : Nat → Nat → Nat) (L1 : List (Nat × Nat)), o = .returned (r.map (z_v ad1)) ∧ z_mem S1 L1 ∧ va_P D vwCl (z_ws cA ad1 S1 L1) t.heap ∧ va_D (z_A ad0 S0 s.heap.size) (z_ws cA ad1 S1 L1) ∧ z_rfs S1 ∧ ((∀ k, zN S0 k ≤ zN S1 k) ∧ ∀ k i, i < zN S0 k → ad1 k i = ad0 k i) ∧ (∀ v, r = some v → z_ok S1 v) ∧ (zc S1 = zc S0 + mc ∧ zs S1 = zs S0 + ms ∧ zc S1 ≤ zC ∧ zs S1 ≤ zZ) ∧ va_F (z_A ad0 S0 s.heap.size) s t
theorem z_toQ {D : va_G} {cA : Nat → ClassId} {s : State} {ad0 : Nat → Nat → Nat} {S0 : ZH} {r : Option ZV} {S1 : ZH} {mc ms : Nat} {args : Array Value} {below : List Frame} (t : State) (h : MQ below (fun _ st o t => z_Q1 D cA st ad0 S0 r S1 mc ms o t) args s mc ms (z_A ad0 S0 s.heap.size) t) : ∃ o, t.status = .running ∧ Ended t below o ∧ z_Q D cA s ad0 S0 r S1 o t := by
  obtain ⟨o, h1, h2, ⟨ad1, L1, a1, a2, a3, a4, a5, a6, a7, a8, a9⟩, L, hf, hL⟩ := h
  exact ⟨o, h1, h2, L, mc, ms, hf, ad1, L1, a1, a2, a3, a4, a5, a6, a7, a8, a9, hL⟩
theorem z_St.q1 {nL : Nat} {D : va_G} {cA : Nat → ClassId} {ad0 : Nat → Nat → Nat} {S0 : ZH} {s : State} {ad : Nat → Nat → Nat} {S : ZH} {L : List (Nat × Nat)} {H : Heap} {locs : List Loc} {cells slots : Nat} {ls : Array Slot} {lo : List (Nat × ZV)} {st : List ZV} (h : z_St nL D cA ad0 S0 s ad S L H locs cells slots ls lo st) {r : Option ZV} (hr : ∀ v, r = some v → z_ok S v) (t : State) (ht : t.heap = H) : z_Q1 D cA s ad0 S0 r S cells slots (.returned (r.map (z_v ad))) t :=
  ⟨ad, L, rfl, h.1, by rw [ht]; exact h.2.1, h.2.2.1, h.2.2.2.1, h.2.2.2.2.2.1, hr, h.2.2.2.2.2.2.2.2.1, h.2.2.2.2.1.F ht⟩
theorem x_iret0 {v : Int32} (hr : Y.2.2.2.1 = some .int) (d : decode Y.2.1 pc = .ok (.ireturn, 1)) : Wp Y S0 (zF S0 (some (z_i v)) S) pc lo [z_i v] S := by
  intro p l e R s m args below meth c D cA ad0 ad L H locs cells slots ls Q hC hF hS
  have hF : Q = _ := hF
  subst hF
  have hlocks := hC.2.2.2.2.1
  refine z_mono z_toQ (W.iret (Qc := fun _ st o t => z_Q1 D cA st ad0 S0 (some (z_i v)) S cells slots o t) hC.1 hC.2.1 (hC.2.2.2.1.trans hr) (fun t ht _ => ?_) hS.2.2.2.2.1.2.2 d)
  exact hS.q1 (r := some (z_i v)) (fun w hw => by cases hw; trivial) t ht
theorem x_zret0 {v : Int32} (hr : Y.2.2.2.1 = some .boolean) (hb : z_b v = v) (d : decode Y.2.1 pc = .ok (.ireturn, 1)) : Wp Y S0 (zF S0 (some (z_i v)) S) pc lo [z_i v] S := by
  intro p l e R s m args below meth c D cA ad0 ad L H locs cells slots ls Q hC hF hS
  have hF : Q = _ := hF
  subst hF
  have hlocks := hC.2.2.2.2.1
  refine z_mono z_toQ (W.zret (Qc := fun _ st o t => z_Q1 D cA st ad0 S0 (some (z_i v)) S cells slots o t) hC.1 hC.2.1 (hC.2.2.2.1.trans hr) ((z_nar_b v).trans (by rw [hb])) (fun t ht _ => ?_) hS.2.2.2.2.1.2.2 d)
  exact hS.q1 (r := some (z_i v)) (fun w hw => by cases hw; trivial) t ht
theorem x_vret0 (hr : Y.2.2.2.1 = none) (d : decode Y.2.1 pc = .ok (.return_, 1)) : Wp Y S0 (zF S0 none S) pc lo [] S := by
  intro p l e R s m args below meth c D cA ad0 ad L H locs cells slots ls Q hC hF hS
  have hF : Q = _ := hF
  subst hF
  have hlocks := hC.2.2.2.2.1
  refine z_mono z_toQ (W.vret (Qc := fun _ st o t => z_Q1 D cA st ad0 S0 none S cells slots o t) hC.1 hC.2.1 (hC.2.2.2.1.trans hr) (fun t ht _ => ?_) hS.2.2.2.2.1.2.2 d)
  exact hS.q1 (r := none) (fun w hw => by cases hw) t ht
theorem x_aret0 {k : Nat} {o : Option Nat} {rt : FieldType} (hr : Y.2.2.2.1 = some rt) (hrt : (∃ n, rt = .object n) ∨ ∃ t, rt = .array t) (d : decode Y.2.1 pc = .ok (.areturn, 1)) : Wp Y S0 (zF S0 (some (z_r k o)) S) pc lo [z_r k o] S := by
  intro p l e R s m args below meth c D cA ad0 ad L H locs cells slots ls Q hC hF hS
  have hF : Q = _ := hF
  subst hF
  have hlocks := hC.2.2.2.2.1
  refine z_mono z_toQ (W.aret (v := va_rf (o.map (ad k))) (Qc := fun _ st o1 t => z_Q1 D cA st ad0 S0 (some (z_r k o)) S cells slots o1 t) hC.1 hC.2.1 (hC.2.2.2.1.trans hr) hrt (va_rf_or _) (fun t ht _ => ?_) hS.2.2.2.2.1.2.2 d)
  exact hS.q1 (r := some (z_r k o)) (fun w hw => by cases hw; exact z_oH hS.2.2.2.2.2.2.2.1) t ht
theorem x_iret {v q : Int32} (hr : Y.2.2.2.1 = some .int) (d : decode Y.2.1 pc = .ok (.ireturn, 1)) (h : some v = some q) : Wp Y S0 (zF S0 (some (z_i q)) S) pc lo [z_i v] S := by cases h; exact x_iret0 hr d
theorem x_iretE {v : Int32} {q : Int32 × ZH} (hr : Y.2.2.2.1 = some .int) (d : decode Y.2.1 pc = .ok (.ireturn, 1)) (h : some (v, S) = some q) : Wp Y S0 (zF S0 (some (z_i q.1)) q.2) pc lo [z_i v] S := by cases h; exact x_iret0 hr d
theorem x_zret {v q : Int32} (hr : Y.2.2.2.1 = some .boolean) (d : decode Y.2.1 pc = .ok (.ireturn, 1)) (h : (if z_b v = v then some v else none) = some q) : Wp Y S0 (zF S0 (some (z_i q)) S) pc lo [z_i v] S := by
  by_cases hb : z_b v = v
  · rw [if_pos hb] at h; cases h; exact x_zret0 hr hb d
  · rw [if_neg hb] at h; cases h
theorem x_zretE {v : Int32} {q : Int32 × ZH} (hr : Y.2.2.2.1 = some .boolean) (d : decode Y.2.1 pc = .ok (.ireturn, 1)) (h : (if z_b v = v then some (v, S) else none) = some q) : Wp Y S0 (zF S0 (some (z_i q.1)) q.2) pc lo [z_i v] S := by
  by_cases hb : z_b v = v
  · rw [if_pos hb] at h; cases h; exact x_zret0 hr hb d
  · rw [if_neg hb] at h; cases h
theorem x_zretC {v q : Int32} (hr : Y.2.2.2.1 = some .boolean) (hb : z_b v = v) (d : decode Y.2.1 pc = .ok (.ireturn, 1)) (h : some v = some q) : Wp Y S0 (zF S0 (some (z_i q)) S) pc lo [z_i v] S := by cases h; exact x_zret0 hr hb d
theorem x_zretCE {v : Int32} {q : Int32 × ZH} (hr : Y.2.2.2.1 = some .boolean) (hb : z_b v = v) (d : decode Y.2.1 pc = .ok (.ireturn, 1)) (h : some (v, S) = some q) : Wp Y S0 (zF S0 (some (z_i q.1)) q.2) pc lo [z_i v] S := by cases h; exact x_zret0 hr hb d
theorem x_vretE {q : ZH} (hr : Y.2.2.2.1 = none) (d : decode Y.2.1 pc = .ok (.return_, 1)) (h : some S = some q) : Wp Y S0 (zF S0 none q) pc lo [] S := by cases h; exact x_vret0 hr d
theorem x_aret {k : Nat} {v q : Option Nat} {rt : FieldType} (hr : Y.2.2.2.1 = some rt) (hrt : (∃ n, rt = .object n) ∨ ∃ t, rt = .array t) (d : decode Y.2.1 pc = .ok (.areturn, 1)) (h : some v = some q) : Wp Y S0 (zF S0 (some (z_r k q)) S) pc lo [z_r k v] S := by cases h; exact x_aret0 hr hrt d
theorem x_aretE {k : Nat} {v : Option Nat} {q : Option Nat × ZH} {rt : FieldType} (hr : Y.2.2.2.1 = some rt) (hrt : (∃ n, rt = .object n) ∨ ∃ t, rt = .array t) (d : decode Y.2.1 pc = .ok (.areturn, 1)) (h : some (v, S) = some q) : Wp Y S0 (zF S0 (some (z_r k q.1)) q.2) pc lo [z_r k v] S := by cases h; exact x_aret0 hr hrt d
end ZRET
/-! calls -/
theorem z_v_ext {S : ZH} {ad ad1 : Nat → Nat → Nat} (h : ∀ k i, i < zN S k → ad1 k i = ad k i) {v : ZV} (hv : z_ok S v) : z_v ad1 v = z_v ad v := by
  rcases v with x | x | ⟨k', o⟩
  · rfl
  · rfl
  · cases o with
    | none => rfl
    | some i =>
      show va_rf (some (ad1 k' i)) = va_rf (some (ad k' i))
      rw [h k' i hv]
theorem z_map_ext {S : ZH} {ad ad1 : Nat → Nat → Nat} (h : ∀ k i, i < zN S k → ad1 k i = ad k i) {st : List ZV} (hv : ∀ v ∈ st, z_ok S v) : st.map (z_v ad1) = st.map (z_v ad) := List.map_congr_left fun v hq => z_v_ext h (hv v hq)
theorem z_lo_ext {S : ZH} {ad ad1 : Nat → Nat → Nat} (h : ∀ k i, i < zN S k → ad1 k i = ad k i) {lo : List (Nat × ZV)} (hv : ∀ v ∈ lo, z_ok S v.2) : z_lo ad1 lo = z_lo ad lo := List.map_congr_left fun v hq => by rw [z_v_ext h (hv v hq)]
def z_Post (D : va_G) (cA : Nat → ClassId) (ad : Nat → Nat → Nat) (S : ZH) (r : Option ZV) (S1 : ZH) : Pt → Array Value → Option Value → Pt → Prop := fun A a v B =>
  ∃ (g : JFrame) (mk : MethodId) (t : State) (Lc : List Loc) (mc ms : Nat), B.U.heap = t.heap ∧ z_Q0 D cA (A.U.calling g mk a) ad S r S1 (.returned v) t Lc mc ms ∧ B.locs = A.locs ++ Lc ∧ B.cells = A.cells + mc ∧ B.slots = A.slots + ms
theorem z_back {l : Launch} {R : Room} {p : Program} {e : Env} {below : List Frame} {s : State} {sargs : Array Value} {Y : ZM} {S : ZH} {as : List ZV} {r : Option ZV} {S1 : ZH} {D : va_G} {cA : Nat → ClassId} {ad : Nat → Nat → Nat} (hM : MetX Y S as r S1) (hfr : Y.2.2.2.2.1 + 1 ≤ R.frames) (hlo : 8 + (Y.2.2.1 + 11) + Y.2.2.2.2.2 ≤ R.locals)
    (hcode : ∀ a U, s.WarmedH U.vm → (Cond.code Y.1 Y.2.1 Y.2.2.1 Y.2.2.2.1).before a U = true) (hinit : ∀ a U, s.WarmedH U.vm → (Cond.initialized Y.1.cls).before a U = true) :
    Back l R p e below s sargs Y.1 3 8 (fun A a => A.cells + (zC - zc S) ≤ R.cells ∧ A.slots + (zZ - zs S) ≤ R.slots ∧ z_Pre D cA ad S as a A.U) (z_Post D cA ad S r S1) := by
  refine Back.of_free (S := headSpec [.code Y.1 Y.2.1 Y.2.2.1 Y.2.2.2.1] { frames := Y.2.2.2.2.1, cells := zC - zc S, slots := zZ - zs S, locals := Y.2.2.2.2.2 }) (P := z_Pre D cA ad S as) (K := fun _ _ _ _ _ => True) (Q := fun _ st o t => z_Q D cA st ad S r S1 o t) (bytes := Y.2.1) (maxL := Y.2.2.1) (ret := Y.2.2.2.1)
    (E := fun a st o t L k n => z_Q0 D cA st ad S r S1 o t L k n) (hM l D cA ad) hfr hlo ?_ ?_ (fun _ _ _ _ _ _ _ _ _ => trivial) ?_ ?_
  · intro m meth c A a X hp
    exact ⟨atoms_intro fun w hw => by rw [List.mem_singleton.mp hw]; exact hcode _ _ X.warmed, hcode _ _ X.warmed, hinit _ _ X.warmed, hp.1, hp.2.1⟩
  · intro m meth c A a g mk X hp
    obtain ⟨-, -, h1, h2, h3, h4, h5, h6, h7⟩ := hp
    exact ⟨h1, h2, h3, h4, h5, h6.warm (U := A.U.calling g mk a) (State.WarmedH.refl A.U), va_K.moved (u := A.U) (U := A.U.calling g mk a) (Vm.Alike.refl A.U.vm) h7⟩
  · intro a st o t ⟨L, mc, ms, hF, h0⟩
    exact ⟨L, mc, ms, hF, h0⟩
  · intro m meth c A a g mk v t L k n X hp hq hF hE
    exact ⟨g, mk, t, L, k, n, rfl, hE, rfl, rfl, rfl⟩
set_option maxHeartbeats 1000000 in
theorem z_after {Y0 : ZM} {S0 : ZH} {F : ZP} {pc : Nat} {lo : List (Nat × ZV)} {st0 rest : List ZV} {S : ZH} {r : Option ZV} {S1 : ZH} {p : Program} {l : Launch} {e : Env} {R : Room} {s : State} {m : MethodId} {args : Array Value} {below : List Frame} {meth : Method} {c : Code} {D : va_G} {cA : Nat → ClassId} {ad0 ad : Nat → Nat → Nat} {L : List (Nat × Nat)} {H : Heap} {locs : List Loc} {cells slots : Nat} {ls : Array Slot} {Q : State → Prop} {a : Array Value} {v : Option Value} {U U' : State} {l2 : List Loc} {c2 s2 : Nat}
    (hC : z_Cx p R s m meth c Y0 D cA S0) (hF : F D cA s args below ad0 Q) (hS : z_St Y0.2.2.1 D cA ad0 S0 s ad S L H locs cells slots ls lo st0) (hok : ∀ v ∈ rest, z_ok S v) (kk : Wp Y0 S0 F (pc + 3) lo (r.toList ++ rest) S1) (hU : U.heap = H) (hpost : z_Post D cA ad S r S1 ⟨U, locs, cells, slots⟩ a v ⟨U', l2, c2, s2⟩) (X' : Stand p l e R s m args below meth c U' l2 c2 s2) :
    ∃ t, Steps p.tables e below (U'.setTop (F0 m (pc + 3) ls (v.toList ++ rest.map (z_v ad)))) t ∧ Q t := by
  obtain ⟨g, mk, t, Lc, mc, ms, e1, ⟨ad1, L1, hv, hL1, hP1, hD1, hR1, hE1, hr1, hb1, hF1, hLc⟩, e2, e3, e4⟩ := hpost
  have e1 : U'.heap = t.heap := e1
  have e2 : l2 = locs ++ Lc := e2
  have e3 : c2 = cells + mc := e3
  have e4 : s2 = slots + ms := e4
  subst e2; subst e3; subst e4
  have hv : v = r.map (z_v ad1) := Outcome.returned.inj hv
  have hz : (U.calling g mk a).heap = H := hU
  have hz' : ((Pt.U (U, locs, cells, slots)).calling g mk a).heap = H := hU
  have hsub : ∀ q, z_A ad S H.size q → z_A ad0 S0 s.heap.size q := by
    rintro q (⟨k, i, hk, hi, rfl⟩ | h)
    · obtain ⟨q0, -, hw⟩ := z_mem_ws (cA := cA) (ad := ad) hS.1 hk hi
      exact hS.2.2.1.2 q0 _ hw
    · exact Or.inr (Nat.le_trans hS.2.2.2.2.1.1 h)
  rw [hz'] at hD1 hF1 hLc
  have hF2 : H.size ≤ t.heap.size ∧ ∀ q : Nat, q < H.size → ¬ z_A ad S H.size q → t.heap[q]? = H[q]? := by
    have := hF1
    unfold va_F at this
    rw [hz'] at this
    exact this
  have hS0 := hS.2.2.2.2.1
  have hE0 := hS.2.2.2.2.2.1
  have hb0 := hS.2.2.2.2.2.2.2.2.1
  have key := kk p l e R s m args below meth c D cA ad0 ad1 L1 U'.heap (locs ++ Lc) (cells + mc) (slots + ms) ls Q hC hF ⟨hL1, by rw [e1]; exact hP1, hD1.weaken (fun _ q _ h => hsub q.1 h), hR1, ⟨by rw [e1]; exact Nat.le_trans hS0.1 hF2.1, fun q h1 h2 => by
      rw [e1, hF2.2 q (Nat.lt_of_lt_of_le h1 hS0.1) (fun z => h2 (hsub q z))]
      exact hS0.2.1 q h1 h2, fun q hq => by
      rcases List.mem_append.mp hq with h | h
      · exact hS0.2.2 q h
      · exact hsub _ (hLc q h)⟩, ⟨fun k => Nat.le_trans (hE0.1 k) (hE1.1 k), fun k i hi => by rw [hE1.2 k i (Nat.lt_of_lt_of_le hi (hE0.1 k))]; exact hE0.2 k i hi⟩, fun q hq => z_ok_le hE1.1 (hS.2.2.2.2.2.2.1 q hq), fun w hw => by
      rcases List.mem_append.mp hw with h | h
      · exact hr1 w (Option.mem_toList.mp h)
      · exact z_ok_le hE1.1 (hok w h), ⟨by omega, by omega, hb1.2.2.1, hb1.2.2.2⟩, by rw [z_lo_ext hE1.2 hS.2.2.2.2.2.2.1]; exact hS.2.2.2.2.2.2.2.2.2⟩
  have est : (r.toList ++ rest).map (z_v ad1) = v.toList ++ rest.map (z_v ad) := by
    rw [List.map_append, z_map_ext hE1.2 hok, hv]
    cases r <;> rfl
  rw [est] at key
  exact key U' rfl X'
def z_ny (Y : ZM) : Prop := Y.1.cls ≠ "java/lang/invoke/MethodHandle" ∧ Y.1.cls ≠ "java/lang/invoke/VarHandle"
def z_ar (Y : ZM) (n : Nat) : Prop := (parseMethodDescriptor Y.1.desc).map (fun d => d.parameters.length) = some n
def z_CV (Y : ZM) (k n : Nat) : Prop := (∃ T N, vwCl[k]? = some (Y.1.cls, T, N)) ∧ k < 13 ∧ z_in (.instanceMethod Y.1) ∧ z_in (.selects Y.1.cls Y.1 Y.1) ∧ z_in (.code Y.1 Y.2.1 Y.2.2.1 Y.2.2.2.1) ∧ z_in (.initialized Y.1.cls) ∧ z_ny Y ∧ z_ar Y n
def z_CS (Y : ZM) (n : Nat) : Prop := z_in (.static Y.1) ∧ z_in (.code Y.1 Y.2.1 Y.2.2.1 Y.2.2.2.1) ∧ z_in (.initialized Y.1.cls) ∧ z_ny Y ∧ z_ar Y n
def z_CI (Y : ZM) (n : Nat) : Prop := Y.1.name = "<init>" ∧ Y.2.2.2.1 = none ∧ z_in (.instanceMethod Y.1) ∧ z_in (.code Y.1 Y.2.1 Y.2.2.1 Y.2.2.2.1) ∧ z_in (.initialized Y.1.cls) ∧ z_ny Y ∧ z_ar Y n
section ZCALL
variable {Y0 : ZM} {S0 : ZH} {F : ZP} {pc : Nat} {lo : List (Nat × ZV)} {st0 : List ZV} {S : ZH}
set_option maxHeartbeats 1000000 in
theorem x_callV {Y : ZM} {as rest : List ZV} {r : Option ZV} {S1 : ZH} {idx : Nat} {k b : Nat} {o : Option Nat} (ho : o = some b) (hM : MetX Y S (z_r k (some b) :: as) r S1) (CW : z_CV Y k as.length) (hl : z_in (.methodLink Y0.1.cls idx Y.1)) (hR : Y.2.2.2.2.1 + 1 ≤ Y0.2.2.2.2.1 ∧ 8 + (Y.2.2.1 + 11) + Y.2.2.2.2.2 ≤ Y0.2.2.2.2.2) (hw : z_wd rest ≤ 8) (d : decode Y0.2.1 pc = .ok (.invokevirtual idx, 3)) (hst : st0 = as.reverse ++ z_r k o :: rest) (kk : Wp Y0 S0 F (pc + 3) lo (r.toList ++ rest) S1) : Wp Y0 S0 F pc lo st0 S := by
  intro p l e R s m args below meth c D cA ad0 ad L H locs cells slots ls Q hC hF hS
  subst ho
  subst hst
  obtain ⟨⟨T0, N0, hc⟩, hk, hinst, hsel, hcode, hini, hy, hlen⟩ := CW
  have hst0 := hS.2.2.2.2.2.2.2.1
  have hb : b < zN S k := hst0 _ (List.mem_append_right _ List.mem_cons_self)
  obtain ⟨q0, hq0, hw0⟩ := z_mem_ws (cA := cA) (ad := ad) hS.1 (by omega : k < 99) hb
  have hw' : (z_ws cA ad S L)[q0]? = some (ad k b, .inr (k, (List.range (z_nf k)).map (z_fld ad S k b))) := by rw [hw0]; unfold z_cell; rw [if_pos hk]
  obtain ⟨cellB, hcB, hoB, hclB⟩ := va_recv hC.2.2.2.2.2.2.2.2.2 hS.2.1 hc hw'
  intro T hT X
  have hRm := hC.2.2.2.2.2.2.2.2.1
  have hbd := hS.2.2.2.2.2.2.2.2.1
  have hK := z_back (R := R) (p := p) (e := e) (below := below) (s := s) (sargs := args) (l := l) (D := D) (cA := cA) (ad := ad) hM (by omega) (by omega) (fun a U hW => word_at hW hcode.2 (hC.2.2.2.2.2.2.1.w hcode (a := #[]))) (fun a U hW => word_at hW hini.2 (hC.2.2.2.2.2.2.1.w hini (a := #[])))
  obtain ⟨v, vm₁, ⟨U', l2, c2, s2⟩, hW₁, X', hpost, stp⟩ := callV X hC.1 (C := Y.1.cls) (bytes := Y.2.1) (maxL := Y.2.2.1) (ret := Y.2.2.2.1) hC.2.2.2.2.2.1 (hC.2.2.2.2.2.2.1.w hl) (hC.2.2.2.2.2.2.1.w hinst) (hC.2.2.2.2.2.2.1.w hsel) (hC.2.2.2.2.2.2.1.w hcode) hy hK (by rw [hT]; exact hcB) hoB hclB (g := F0 m pc ls ((as.reverse ++ z_r k (some b) :: rest).map (z_v ad))) rfl (hS.2.2.2.2.2.2.2.2.2.1.trans hC.2.2.1.symm) (argsL := as.map (z_v ad)) (rest := rest.map (z_v ad)) (fun sig h => by unfold z_ar at hlen; rw [h] at hlen; rw [List.length_map]; exact (Option.some.inj hlen).symm) (by show ((as.reverse ++ z_r k (some b) :: rest).map (z_v ad)) = _; rw [List.map_append, List.map_reverse]; rfl) (lv_room (by rw [z_wd_v]; exact hw)) (by rw [hC.2.1]; exact d)
    (fun vm₁ hW₁ => ⟨by show cells + (zC - zc S) ≤ R.cells; omega, by show slots + (zZ - zs S) ≤ R.slots; omega, rfl, ⟨L, hS.1, by show va_P D vwCl _ T.heap; rw [hT]; exact hS.2.1, hS.2.2.1.weaken (fun _ _ _ _ => trivial)⟩, hS.2.2.2.1, z_oC hb (fun v hv => hst0 v (List.mem_append_left _ (List.mem_reverse.mpr hv))), ⟨hbd.2.2.1, hbd.2.2.2⟩, hC.2.2.2.2.2.2.1.warm hW₁, va_K.moved hW₁.alike hC.2.2.2.2.2.2.2.2.2⟩)
  obtain ⟨t, a1, b1⟩ := z_after hC hF hS (fun v hv => hst0 v (List.mem_append_right _ (List.mem_cons_of_mem _ hv))) kk (show (T.setVm vm₁).heap = H from hT) hpost X'
  exact ⟨t, stp t a1, b1⟩
set_option maxHeartbeats 1000000 in
theorem x_callVN {Y : ZM} {as rest : List ZV} {r : Option ZV} {S1 : ZH} {idx : Nat} {k b : Nat} {o : Option Nat} (ho : o = some b) (hM : MetX Y S (z_r k (some b) :: as) r S1) (CW : z_CV Y k as.length) {host : String} (hl : Cond.methodLinkNest Y0.1.cls idx Y.1 host ∈ lw_tbl) (hR : Y.2.2.2.2.1 + 1 ≤ Y0.2.2.2.2.1 ∧ 8 + (Y.2.2.1 + 11) + Y.2.2.2.2.2 ≤ Y0.2.2.2.2.2) (hw : z_wd rest ≤ 8) (d : decode Y0.2.1 pc = .ok (.invokevirtual idx, 3)) (hst : st0 = as.reverse ++ z_r k o :: rest) (kk : Wp Y0 S0 F (pc + 3) lo (r.toList ++ rest) S1) : Wp Y0 S0 F pc lo st0 S := by
  intro p l e R s m args below meth c D cA ad0 ad L H locs cells slots ls Q hC hF hS
  subst ho
  subst hst
  obtain ⟨⟨T0, N0, hc⟩, hk, hinst, hsel, hcode, hini, hy, hlen⟩ := CW
  have hst0 := hS.2.2.2.2.2.2.2.1
  have hb : b < zN S k := hst0 _ (List.mem_append_right _ List.mem_cons_self)
  obtain ⟨q0, hq0, hw0⟩ := z_mem_ws (cA := cA) (ad := ad) hS.1 (by omega : k < 99) hb
  have hw' : (z_ws cA ad S L)[q0]? = some (ad k b, .inr (k, (List.range (z_nf k)).map (z_fld ad S k b))) := by rw [hw0]; unfold z_cell; rw [if_pos hk]
  obtain ⟨cellB, hcB, hoB, hclB⟩ := va_recv hC.2.2.2.2.2.2.2.2.2 hS.2.1 hc hw'
  intro T hT X
  have hRm := hC.2.2.2.2.2.2.2.2.1
  have hbd := hS.2.2.2.2.2.2.2.2.1
  have hK := z_back (R := R) (p := p) (e := e) (below := below) (s := s) (sargs := args) (l := l) (D := D) (cA := cA) (ad := ad) hM (by omega) (by omega) (fun a U hW => word_at hW hcode.2 (hC.2.2.2.2.2.2.1.w hcode (a := #[]))) (fun a U hW => word_at hW hini.2 (hC.2.2.2.2.2.2.1.w hini (a := #[])))
  obtain ⟨v, vm₁, ⟨U', l2, c2, s2⟩, hW₁, X', hpost, stp⟩ := va_callVN X hC.1 (C := Y.1.cls) (bytes := Y.2.1) (maxL := Y.2.2.1) (ret := Y.2.2.2.1) hC.2.2.2.2.2.1 (va_Nw.use rfl (hC.2.2.2.2.2.2.1.2.1 _ _ _ _ hl)) (hC.2.2.2.2.2.2.1.w hinst) (hC.2.2.2.2.2.2.1.w hsel) (hC.2.2.2.2.2.2.1.w hcode) hy hK (by rw [hT]; exact hcB) hoB hclB (g := F0 m pc ls ((as.reverse ++ z_r k (some b) :: rest).map (z_v ad))) rfl (hS.2.2.2.2.2.2.2.2.2.1.trans hC.2.2.1.symm) (argsL := as.map (z_v ad)) (rest := rest.map (z_v ad)) (fun sig h => by unfold z_ar at hlen; rw [h] at hlen; rw [List.length_map]; exact (Option.some.inj hlen).symm) (by show ((as.reverse ++ z_r k (some b) :: rest).map (z_v ad)) = _; rw [List.map_append, List.map_reverse]; rfl) (lv_room (by rw [z_wd_v]; exact hw)) (by rw [hC.2.1]; exact d)
    (fun vm₁ hW₁ => ⟨by show cells + (zC - zc S) ≤ R.cells; omega, by show slots + (zZ - zs S) ≤ R.slots; omega, rfl, ⟨L, hS.1, by show va_P D vwCl _ T.heap; rw [hT]; exact hS.2.1, hS.2.2.1.weaken (fun _ _ _ _ => trivial)⟩, hS.2.2.2.1, z_oC hb (fun v hv => hst0 v (List.mem_append_left _ (List.mem_reverse.mpr hv))), ⟨hbd.2.2.1, hbd.2.2.2⟩, hC.2.2.2.2.2.2.1.warm hW₁, va_K.moved hW₁.alike hC.2.2.2.2.2.2.2.2.2⟩)
  obtain ⟨t, a1, b1⟩ := z_after hC hF hS (fun v hv => hst0 v (List.mem_append_right _ (List.mem_cons_of_mem _ hv))) kk (show (T.setVm vm₁).heap = H from hT) hpost X'
  exact ⟨t, stp t a1, b1⟩
set_option maxHeartbeats 1000000 in
theorem x_callS {Y : ZM} {as rest : List ZV} {r : Option ZV} {S1 : ZH} {idx : Nat} (hM : MetX Y S as r S1) (CW : z_CS Y as.length) (hl : z_in (.methodLink Y0.1.cls idx Y.1)) (hR : Y.2.2.2.2.1 + 1 ≤ Y0.2.2.2.2.1 ∧ 8 + (Y.2.2.1 + 11) + Y.2.2.2.2.2 ≤ Y0.2.2.2.2.2) (hw : z_wd rest ≤ 8) (d : decode Y0.2.1 pc = .ok (.invokestatic idx, 3)) (hst : st0 = as.reverse ++ rest) (kk : Wp Y0 S0 F (pc + 3) lo (r.toList ++ rest) S1) : Wp Y0 S0 F pc lo st0 S := by
  intro p l e R s m args below meth c D cA ad0 ad L H locs cells slots ls Q hC hF hS
  subst hst
  obtain ⟨hstat, hcode, hini, hy, hlen⟩ := CW
  have hst0 := hS.2.2.2.2.2.2.2.1
  intro T hT X
  have hRm := hC.2.2.2.2.2.2.2.2.1
  have hbd := hS.2.2.2.2.2.2.2.2.1
  have hK := z_back (R := R) (p := p) (e := e) (below := below) (s := s) (sargs := args) (l := l) (D := D) (cA := cA) (ad := ad) hM (by omega) (by omega) (fun a U hW => word_at hW hcode.2 (hC.2.2.2.2.2.2.1.w hcode (a := #[]))) (fun a U hW => word_at hW hini.2 (hC.2.2.2.2.2.2.1.w hini (a := #[])))
  obtain ⟨v, vm₁, ⟨U', l2, c2, s2⟩, hW₁, X', hpost, stp⟩ := callS X hC.1 (bytes := Y.2.1) (maxL := Y.2.2.1) (ret := Y.2.2.2.1) hC.2.2.2.2.2.1 (hC.2.2.2.2.2.2.1.w hl) (hC.2.2.2.2.2.2.1.w hstat) (hC.2.2.2.2.2.2.1.w hini) (hC.2.2.2.2.2.2.1.w hcode) hy hK (g := F0 m pc ls ((as.reverse ++ rest).map (z_v ad))) rfl (hS.2.2.2.2.2.2.2.2.2.1.trans hC.2.2.1.symm) (argsL := as.map (z_v ad)) (rest := rest.map (z_v ad)) (fun sig h => by unfold z_ar at hlen; rw [h] at hlen; rw [List.length_map]; exact (Option.some.inj hlen).symm) (by show ((as.reverse ++ rest).map (z_v ad)) = _; rw [List.map_append, List.map_reverse]) (lv_room (by rw [z_wd_v]; exact hw)) (by rw [hC.2.1]; exact d)
    (fun vm₁ hW₁ => ⟨by show cells + (zC - zc S) ≤ R.cells; omega, by show slots + (zZ - zs S) ≤ R.slots; omega, rfl, ⟨L, hS.1, by show va_P D vwCl _ T.heap; rw [hT]; exact hS.2.1, hS.2.2.1.weaken (fun _ _ _ _ => trivial)⟩, hS.2.2.2.1, fun v hv => hst0 v (List.mem_append_left _ (List.mem_reverse.mpr hv)), ⟨hbd.2.2.1, hbd.2.2.2⟩, hC.2.2.2.2.2.2.1.warm hW₁, va_K.moved hW₁.alike hC.2.2.2.2.2.2.2.2.2⟩)
  obtain ⟨t, a1, b1⟩ := z_after hC hF hS (fun v hv => hst0 v (List.mem_append_right _ hv)) kk (show (T.setVm vm₁).heap = H from hT) hpost X'
  exact ⟨t, stp t a1, b1⟩
set_option maxHeartbeats 1000000 in
theorem x_callSN {Y : ZM} {as rest : List ZV} {r : Option ZV} {S1 : ZH} {idx : Nat} (hM : MetX Y S as r S1) (CW : z_CS Y as.length) {host : String} (hl : Cond.methodLinkNest Y0.1.cls idx Y.1 host ∈ lw_tbl) (hR : Y.2.2.2.2.1 + 1 ≤ Y0.2.2.2.2.1 ∧ 8 + (Y.2.2.1 + 11) + Y.2.2.2.2.2 ≤ Y0.2.2.2.2.2) (hw : z_wd rest ≤ 8) (d : decode Y0.2.1 pc = .ok (.invokestatic idx, 3)) (hst : st0 = as.reverse ++ rest) (kk : Wp Y0 S0 F (pc + 3) lo (r.toList ++ rest) S1) : Wp Y0 S0 F pc lo st0 S := by
  intro p l e R s m args below meth c D cA ad0 ad L H locs cells slots ls Q hC hF hS
  subst hst
  obtain ⟨hstat, hcode, hini, hy, hlen⟩ := CW
  have hst0 := hS.2.2.2.2.2.2.2.1
  intro T hT X
  have hRm := hC.2.2.2.2.2.2.2.2.1
  have hbd := hS.2.2.2.2.2.2.2.2.1
  have hK := z_back (R := R) (p := p) (e := e) (below := below) (s := s) (sargs := args) (l := l) (D := D) (cA := cA) (ad := ad) hM (by omega) (by omega) (fun a U hW => word_at hW hcode.2 (hC.2.2.2.2.2.2.1.w hcode (a := #[]))) (fun a U hW => word_at hW hini.2 (hC.2.2.2.2.2.2.1.w hini (a := #[])))
  obtain ⟨v, vm₁, ⟨U', l2, c2, s2⟩, hW₁, X', hpost, stp⟩ := va_callSN X hC.1 (bytes := Y.2.1) (maxL := Y.2.2.1) (ret := Y.2.2.2.1) hC.2.2.2.2.2.1 (va_Nw.use rfl (hC.2.2.2.2.2.2.1.2.1 _ _ _ _ hl)) (hC.2.2.2.2.2.2.1.w hstat) (hC.2.2.2.2.2.2.1.w hini) (hC.2.2.2.2.2.2.1.w hcode) hy hK (g := F0 m pc ls ((as.reverse ++ rest).map (z_v ad))) rfl (hS.2.2.2.2.2.2.2.2.2.1.trans hC.2.2.1.symm) (argsL := as.map (z_v ad)) (rest := rest.map (z_v ad)) (fun sig h => by unfold z_ar at hlen; rw [h] at hlen; rw [List.length_map]; exact (Option.some.inj hlen).symm) (by show ((as.reverse ++ rest).map (z_v ad)) = _; rw [List.map_append, List.map_reverse]) (lv_room (by rw [z_wd_v]; exact hw)) (by rw [hC.2.1]; exact d)
    (fun vm₁ hW₁ => ⟨by show cells + (zC - zc S) ≤ R.cells; omega, by show slots + (zZ - zs S) ≤ R.slots; omega, rfl, ⟨L, hS.1, by show va_P D vwCl _ T.heap; rw [hT]; exact hS.2.1, hS.2.2.1.weaken (fun _ _ _ _ => trivial)⟩, hS.2.2.2.1, fun v hv => hst0 v (List.mem_append_left _ (List.mem_reverse.mpr hv)), ⟨hbd.2.2.1, hbd.2.2.2⟩, hC.2.2.2.2.2.2.1.warm hW₁, va_K.moved hW₁.alike hC.2.2.2.2.2.2.2.2.2⟩)
  obtain ⟨t, a1, b1⟩ := z_after hC hF hS (fun v hv => hst0 v (List.mem_append_right _ hv)) kk (show (T.setVm vm₁).heap = H from hT) hpost X'
  exact ⟨t, stp t a1, b1⟩
set_option maxHeartbeats 1000000 in
theorem x_callI {Y : ZM} {as rest : List ZV} {r : Option ZV} {S1 : ZH} {idx : Nat} {k b : Nat} {o : Option Nat} (ho : o = some b) (hM : MetX Y S (z_r k (some b) :: as) r S1) (CW : z_CI Y as.length) (hl : z_in (.methodLink Y0.1.cls idx Y.1)) (hR : Y.2.2.2.2.1 + 1 ≤ Y0.2.2.2.2.1 ∧ 8 + (Y.2.2.1 + 11) + Y.2.2.2.2.2 ≤ Y0.2.2.2.2.2) (hw : z_wd rest ≤ 8) (d : decode Y0.2.1 pc = .ok (.invokespecial idx, 3)) (hst : st0 = as.reverse ++ z_r k o :: rest) (kk : Wp Y0 S0 F (pc + 3) lo (r.toList ++ rest) S1) : Wp Y0 S0 F pc lo st0 S := by
  intro p l e R s m args below meth c D cA ad0 ad L H locs cells slots ls Q hC hF hS
  subst ho
  subst hst
  obtain ⟨hn1, hret, hinst, hcode, hini, hy, hlen⟩ := CW
  have hst0 := hS.2.2.2.2.2.2.2.1
  have hb : b < zN S k := hst0 _ (List.mem_append_right _ List.mem_cons_self)
  intro T hT X
  have hRm := hC.2.2.2.2.2.2.2.2.1
  have hbd := hS.2.2.2.2.2.2.2.2.1
  have hK := z_back (R := R) (p := p) (e := e) (below := below) (s := s) (sargs := args) (l := l) (D := D) (cA := cA) (ad := ad) hM (by omega) (by omega) (fun a U hW => word_at hW hcode.2 (hC.2.2.2.2.2.2.1.w hcode (a := #[]))) (fun a U hW => word_at hW hini.2 (hC.2.2.2.2.2.2.1.w hini (a := #[])))
  obtain ⟨v, vm₁, ⟨U', l2, c2, s2⟩, hW₁, X', hpost, stp⟩ := callI X hC.1 (bytes := Y.2.1) (maxL := Y.2.2.1) (a := ad k b) hC.2.2.2.2.2.1 hn1 (hC.2.2.2.2.2.2.1.w hl) (hC.2.2.2.2.2.2.1.w hinst) (by have h0 := hC.2.2.2.2.2.2.1.w hcode (a := args); rw [hret] at h0; exact h0) hy hK (g := F0 m pc ls ((as.reverse ++ z_r k (some b) :: rest).map (z_v ad))) rfl (hS.2.2.2.2.2.2.2.2.2.1.trans hC.2.2.1.symm) (argsL := as.map (z_v ad)) (rest := rest.map (z_v ad)) (fun sig h => by unfold z_ar at hlen; rw [h] at hlen; rw [List.length_map]; exact (Option.some.inj hlen).symm) (by show ((as.reverse ++ z_r k (some b) :: rest).map (z_v ad)) = _; rw [List.map_append, List.map_reverse]; rfl) (lv_room (by rw [z_wd_v]; exact hw)) (by rw [hC.2.1]; exact d)
    (fun vm₁ hW₁ => ⟨by show cells + (zC - zc S) ≤ R.cells; omega, by show slots + (zZ - zs S) ≤ R.slots; omega, rfl, ⟨L, hS.1, by show va_P D vwCl _ T.heap; rw [hT]; exact hS.2.1, hS.2.2.1.weaken (fun _ _ _ _ => trivial)⟩, hS.2.2.2.1, z_oC hb (fun v hv => hst0 v (List.mem_append_left _ (List.mem_reverse.mpr hv))), ⟨hbd.2.2.1, hbd.2.2.2⟩, hC.2.2.2.2.2.2.1.warm hW₁, va_K.moved hW₁.alike hC.2.2.2.2.2.2.2.2.2⟩)
  obtain ⟨t, a1, b1⟩ := z_after hC hF hS (fun v hv => hst0 v (List.mem_append_right _ (List.mem_cons_of_mem _ hv))) kk (show (T.setVm vm₁).heap = H from hT) hpost X'
  exact ⟨t, stp t a1, b1⟩
set_option maxHeartbeats 1000000 in
theorem x_callIN {Y : ZM} {as rest : List ZV} {r : Option ZV} {S1 : ZH} {idx : Nat} {k b : Nat} {o : Option Nat} (ho : o = some b) (hM : MetX Y S (z_r k (some b) :: as) r S1) (CW : z_CI Y as.length) {host : String} (hl : Cond.methodLinkNest Y0.1.cls idx Y.1 host ∈ lw_tbl) (hR : Y.2.2.2.2.1 + 1 ≤ Y0.2.2.2.2.1 ∧ 8 + (Y.2.2.1 + 11) + Y.2.2.2.2.2 ≤ Y0.2.2.2.2.2) (hw : z_wd rest ≤ 8) (d : decode Y0.2.1 pc = .ok (.invokespecial idx, 3)) (hst : st0 = as.reverse ++ z_r k o :: rest) (kk : Wp Y0 S0 F (pc + 3) lo (r.toList ++ rest) S1) : Wp Y0 S0 F pc lo st0 S := by
  intro p l e R s m args below meth c D cA ad0 ad L H locs cells slots ls Q hC hF hS
  subst ho
  subst hst
  obtain ⟨hn1, hret, hinst, hcode, hini, hy, hlen⟩ := CW
  have hst0 := hS.2.2.2.2.2.2.2.1
  have hb : b < zN S k := hst0 _ (List.mem_append_right _ List.mem_cons_self)
  intro T hT X
  have hRm := hC.2.2.2.2.2.2.2.2.1
  have hbd := hS.2.2.2.2.2.2.2.2.1
  have hK := z_back (R := R) (p := p) (e := e) (below := below) (s := s) (sargs := args) (l := l) (D := D) (cA := cA) (ad := ad) hM (by omega) (by omega) (fun a U hW => word_at hW hcode.2 (hC.2.2.2.2.2.2.1.w hcode (a := #[]))) (fun a U hW => word_at hW hini.2 (hC.2.2.2.2.2.2.1.w hini (a := #[])))
  obtain ⟨v, vm₁, ⟨U', l2, c2, s2⟩, hW₁, X', hpost, stp⟩ := va_callIN X hC.1 (bytes := Y.2.1) (maxL := Y.2.2.1) (a := ad k b) hC.2.2.2.2.2.1 hn1 (va_Nw.use rfl (hC.2.2.2.2.2.2.1.2.1 _ _ _ _ hl)) (hC.2.2.2.2.2.2.1.w hinst) (by have h0 := hC.2.2.2.2.2.2.1.w hcode (a := args); rw [hret] at h0; exact h0) hy hK (g := F0 m pc ls ((as.reverse ++ z_r k (some b) :: rest).map (z_v ad))) rfl (hS.2.2.2.2.2.2.2.2.2.1.trans hC.2.2.1.symm) (argsL := as.map (z_v ad)) (rest := rest.map (z_v ad)) (fun sig h => by unfold z_ar at hlen; rw [h] at hlen; rw [List.length_map]; exact (Option.some.inj hlen).symm) (by show ((as.reverse ++ z_r k (some b) :: rest).map (z_v ad)) = _; rw [List.map_append, List.map_reverse]; rfl) (lv_room (by rw [z_wd_v]; exact hw)) (by rw [hC.2.1]; exact d)
    (fun vm₁ hW₁ => ⟨by show cells + (zC - zc S) ≤ R.cells; omega, by show slots + (zZ - zs S) ≤ R.slots; omega, rfl, ⟨L, hS.1, by show va_P D vwCl _ T.heap; rw [hT]; exact hS.2.1, hS.2.2.1.weaken (fun _ _ _ _ => trivial)⟩, hS.2.2.2.1, z_oC hb (fun v hv => hst0 v (List.mem_append_left _ (List.mem_reverse.mpr hv))), ⟨hbd.2.2.1, hbd.2.2.2⟩, hC.2.2.2.2.2.2.1.warm hW₁, va_K.moved hW₁.alike hC.2.2.2.2.2.2.2.2.2⟩)
  obtain ⟨t, a1, b1⟩ := z_after hC hF hS (fun v hv => hst0 v (List.mem_append_right _ (List.mem_cons_of_mem _ hv))) kk (show (T.setVm vm₁).heap = H from hT) hpost X'
  exact ⟨t, stp t a1, b1⟩
end ZCALL
/-! ===== Object's constructor, arraycopy, loops ===== -/
theorem z_bnd {α β : Type} {o : Option α} {f : α → Option β} {z : β} {P : Prop} (h : o.bind f = some z) (k : ∀ a, o = some a → f a = some z → P) : P := by
  obtain ⟨a, h1, h2⟩ := Option.bind_eq_some_iff.mp h
  exact k a h1 h2
theorem z_ite {α : Type} {c : Prop} {d : Decidable c} {A B : Option α} {z : α} {P : Prop} (h : (@ite _ c d A B) = some z) (k1 : c → A = some z → P) (k2 : ¬ c → B = some z → P) : P := by
  by_cases hc : c
  · rw [if_pos hc] at h; exact k1 hc h
  · rw [if_neg hc] at h; exact k2 hc h
def z_iter {σ ρ : Type} : Nat → (σ → Option (σ ⊕ ρ)) → σ → Option ρ
  | 0, _, _ => none
  | n + 1, b, v => (b v).bind fun r => Sum.elim (fun v' => z_iter n b v') (fun x => some x) r
theorem z_iter_P {σ ρ : Type} {b : σ → Option (σ ⊕ ρ)} {P : σ → Prop} {X : ρ → Prop} (hb : ∀ v r, b v = some r → Sum.elim P X r → P v) : ∀ (n : Nat) (v : σ) (x : ρ), z_iter n b v = some x → X x → P v
  | 0, v, x, h, _ => by cases h
  | n + 1, v, x, h, hx => by
    obtain ⟨r, h1, h2⟩ := Option.bind_eq_some_iff.mp (show (b v).bind _ = some x from h)
    refine hb v r h1 ?_
    rcases r with v' | y
    · exact z_iter_P hb n v' x h2 hx
    · cases (show some y = some x from h2); exact hx
def zFU : Nat := 1000000
section ZMISC
variable {Y : ZM} {S0 : ZH} {F : ZP} {pc : Nat} {lo lo' : List (Nat × ZV)} {st : List ZV} {S : ZH}
theorem x_objInit {k a idx : Nat} {o : Option Nat} (ho : o = some a) (hl : z_in (.methodLink Y.1.cls idx objectInit)) (hi : z_in (.instanceMethod objectInit)) (hcd : z_in (.code objectInit ⟨#[0xb1]⟩ 1 none)) (hR : 1 ≤ Y.2.2.2.2.1 ∧ 20 ≤ Y.2.2.2.2.2) (hw : z_wd st ≤ 8) (d : decode Y.2.1 pc = .ok (.invokespecial idx, 3)) (kk : Wp Y S0 F (pc + 3) lo st S) : Wp Y S0 F pc lo (z_r k o :: st) S := by
  intro p l e R s m args below meth c D cA ad0 ad L H locs cells slots ls Q hC hF hS
  subst ho
  have hRm := hC.2.2.2.2.2.2.2.2.1
  have hrm := lv_room (m := m) (pc := pc) (ls := ls) (rest := (z_r k (some a) :: st).map (z_v ad)) (st := st.map (z_v ad)) (by rw [z_wd_v]; exact hw)
  exact W.objInit hC.1 hC.2.1 hC.2.2.2.2.2.1 (hC.2.2.2.2.2.2.1.w hl) (hC.2.2.2.2.2.2.1.w hi) (hC.2.2.2.2.2.2.1.w hcd) rfl (hS.2.2.2.2.2.2.2.2.2.1.trans hC.2.2.1.symm) (a := ad k a) (rest := st.map (z_v ad)) rfl d (by omega) (by omega) (kk p l e R s m args below meth c D cA ad0 ad L H locs cells slots ls Q hC hF (hS.stk z_oT))
def zcpy (S : ZH) (k a b : Nat) (sp dp n : Nat) : ZH := (S.1, S.2.1, fun k' i' j' => if k' = k ∧ i' = b then va_cpy (S.2.2.1 k a) (S.2.2.1 k b) sp dp n j' else S.2.2.1 k' i' j', S.2.2.2)
def zacp (S : ZH) (k a : Nat) (sp : Int32) (b : Nat) (dp n : Int32) : Option ZH := if sp < 0 ∨ dp < 0 ∨ n < 0 ∨ zL S k a < sp.toNatClampNeg + n.toNatClampNeg ∨ zL S k b < dp.toNatClampNeg + n.toNatClampNeg then none else some (zcpy S k a b sp.toNatClampNeg dp.toNatClampNeg n.toNatClampNeg)
set_option maxHeartbeats 1000000 in
theorem x_acopy {α : Type} {k a b idx : Nat} {oa ob : Option Nat} {sp dp n : Int32} {f : ZH → Option α} {z : α} (hoa : oa = some a) (hob : ob = some b) (K : z_AK k .int) (hl : z_in (.methodLink Y.1.cls idx arraycopyName)) (hnt : Cond.native arraycopyName ∈ lw_tbl) (hs : z_in (.static arraycopyName)) (hi : z_in (.initialized "java/lang/System")) (hR : 1 ≤ Y.2.2.2.2.1 ∧ z_wd st + (nativeFrameWords "java/lang/System" "arraycopy" 5 + 11) ≤ Y.2.2.2.2.2) (d : decode Y.2.1 pc = .ok (.invokestatic idx, 3)) (h : (zacp S k a sp b dp n).bind f = some z) (kk : ∀ S1, zacp S k a sp b dp n = some S1 → f S1 = some z → Wp Y S0 F (pc + 3) lo st S1) : Wp Y S0 F pc lo (z_i n :: z_i dp :: z_r k ob :: z_i sp :: z_r k oa :: st) S := by
  obtain ⟨S1, hv, h⟩ := Option.bind_eq_some_iff.mp h
  intro p l e R s m args below meth c D cA ad0 ad L H locs cells slots ls Q hC hF hS
  subst hoa; subst hob
  have hv0 := hv
  unfold zacp at hv0
  by_cases hc : sp < 0 ∨ dp < 0 ∨ n < 0 ∨ zL S k a < sp.toNatClampNeg + n.toNatClampNeg ∨ zL S k b < dp.toNatClampNeg + n.toNatClampNeg
  · rw [if_pos hc] at hv0; cases hv0
  rw [if_neg hc] at hv0
  have hv1 := Option.some.inj hv0
  subst hv1
  obtain ⟨h13, h55, hr, hty⟩ := K
  have hRm := hC.2.2.2.2.2.2.2.2.1
  have ho := hS.2.2.2.2.2.2.2.1
  have hb : b < zN S k := z_oH (z_oT (z_oT ho))
  have ha : a < zN S k := z_oH (z_oT (z_oT (z_oT (z_oT ho))))
  obtain ⟨q0, hq0, hw0⟩ := z_mem_ws (cA := cA) (ad := ad) hS.1 (by omega : k < 99) ha
  obtain ⟨q1, hq1, hw1⟩ := z_mem_ws (cA := cA) (ad := ad) hS.1 (by omega : k < 99) hb
  rw [z_cellA h13 hr] at hw0 hw1
  have ht := z_tys_at cA h13 h55
  rw [hty] at ht
  have e1 : (z_ws cA ad S L).set q1 (ad k b, .inl (cA k, zL S k b, .inl (va_cpy (zI S k a) (zI S k b) sp.toNatClampNeg dp.toNatClampNeg n.toNatClampNeg))) = z_ws cA ad (zcpy S k a b sp.toNatClampNeg dp.toNatClampNeg n.toNatClampNeg) L := by
    refine z_set_ws hS.2.2.1 hq1 ?_ (fun k' i' hne => ?_)
    · rw [z_cellA h13 hr]
      have e2 : zI (zcpy S k a b sp.toNatClampNeg dp.toNatClampNeg n.toNatClampNeg) k b = va_cpy (zI S k a) (zI S k b) sp.toNatClampNeg dp.toNatClampNeg n.toNatClampNeg := by
        funext j
        exact if_pos ⟨rfl, rfl⟩
      rw [e2]
      rfl
    · have e : ∀ j', zI (zcpy S k a b sp.toNatClampNeg dp.toNatClampNeg n.toNatClampNeg) k' i' j' = zI S k' i' j' := fun j' => if_neg hne
      have e3 : z_fld ad (zcpy S k a b sp.toNatClampNeg dp.toNatClampNeg n.toNatClampNeg) k' i' = z_fld ad S k' i' := by
        funext j'
        unfold z_fld
        rw [e j']
        rfl
      unfold z_cell
      rw [e3, show zI (zcpy S k a b sp.toNatClampNeg dp.toNatClampNeg n.toNatClampNeg) k' i' = zI S k' i' from funext e]
      rfl
  refine va_copyi hC.1 hC.2.1 (hC.2.2.1.trans hS.2.2.2.2.2.2.2.2.2.1.symm) hC.2.2.2.2.2.1 (hC.2.2.2.2.2.2.1.w hl) (va_Nw.use rfl (hC.2.2.2.2.2.2.1.2.2.2 hnt)) (hC.2.2.2.2.2.2.1.w hs) (hC.2.2.2.2.2.2.1.w hi) hC.2.2.2.2.2.2.2.2.2 hS.2.1 hS.2.2.1 hS.2.2.2.2.1 q0 q1 (k - 13) (k - 13) hw0 hw1 ht ht rfl (fun q => hc (Or.inl q)) (fun q => hc (Or.inr (Or.inl q))) (fun q => hc (Or.inr (Or.inr (Or.inl q)))) (by omega) (by omega) (fun i _ => rfl) (by omega) (by rw [z_wd_v]; omega) d (fun H1 locs1 g1 g2 g3 => ?_)
  rw [e1] at g1 g2
  exact kk _ hv h p l e R s m args below meth c D cA ad0 ad L H1 locs1 cells slots ls Q hC hF ⟨hS.1, g1, g2, hS.2.2.2.1, g3, hS.2.2.2.2.2.1, hS.2.2.2.2.2.2.1, z_oT (z_oT (z_oT (z_oT (z_oT ho)))), hS.2.2.2.2.2.2.2.2.1, hS.2.2.2.2.2.2.2.2.2⟩
end ZMISC
section ZCALL2
variable {Y0 : ZM} {S0 : ZH} {F : ZP} {pc : Nat} {lo : List (Nat × ZV)} {st0 : List ZV} {S : ZH}
theorem x_callV1 {Y : ZM} {as rest : List ZV} {v : ZV} {S1 : ZH} {idx : Nat} {k b : Nat} {o : Option Nat} (ho : o = some b) (hM : MetX Y S (z_r k (some b) :: as) (some v) S1) (CW : z_CV Y k as.length) (hl : z_in (.methodLink Y0.1.cls idx Y.1)) (hR : Y.2.2.2.2.1 + 1 ≤ Y0.2.2.2.2.1 ∧ 8 + (Y.2.2.1 + 11) + Y.2.2.2.2.2 ≤ Y0.2.2.2.2.2) (hw : z_wd rest ≤ 8) (d : decode Y0.2.1 pc = .ok (.invokevirtual idx, 3)) (hst : st0 = as.reverse ++ z_r k o :: rest) (kk : Wp Y0 S0 F (pc + 3) lo (v :: rest) S1) : Wp Y0 S0 F pc lo st0 S := x_callV ho hM CW hl hR hw d hst kk
theorem x_callVv {Y : ZM} {as rest : List ZV} {S1 : ZH} {idx : Nat} {k b : Nat} {o : Option Nat} (ho : o = some b) (hM : MetX Y S (z_r k (some b) :: as) none S1) (CW : z_CV Y k as.length) (hl : z_in (.methodLink Y0.1.cls idx Y.1)) (hR : Y.2.2.2.2.1 + 1 ≤ Y0.2.2.2.2.1 ∧ 8 + (Y.2.2.1 + 11) + Y.2.2.2.2.2 ≤ Y0.2.2.2.2.2) (hw : z_wd rest ≤ 8) (d : decode Y0.2.1 pc = .ok (.invokevirtual idx, 3)) (hst : st0 = as.reverse ++ z_r k o :: rest) (kk : Wp Y0 S0 F (pc + 3) lo (rest) S1) : Wp Y0 S0 F pc lo st0 S := x_callV ho hM CW hl hR hw d hst kk
theorem x_callVN1 {Y : ZM} {as rest : List ZV} {v : ZV} {S1 : ZH} {idx : Nat} {k b : Nat} {o : Option Nat} (ho : o = some b) (hM : MetX Y S (z_r k (some b) :: as) (some v) S1) (CW : z_CV Y k as.length) {host : String} (hl : Cond.methodLinkNest Y0.1.cls idx Y.1 host ∈ lw_tbl) (hR : Y.2.2.2.2.1 + 1 ≤ Y0.2.2.2.2.1 ∧ 8 + (Y.2.2.1 + 11) + Y.2.2.2.2.2 ≤ Y0.2.2.2.2.2) (hw : z_wd rest ≤ 8) (d : decode Y0.2.1 pc = .ok (.invokevirtual idx, 3)) (hst : st0 = as.reverse ++ z_r k o :: rest) (kk : Wp Y0 S0 F (pc + 3) lo (v :: rest) S1) : Wp Y0 S0 F pc lo st0 S := x_callVN ho hM CW hl hR hw d hst kk
theorem x_callVNv {Y : ZM} {as rest : List ZV} {S1 : ZH} {idx : Nat} {k b : Nat} {o : Option Nat} (ho : o = some b) (hM : MetX Y S (z_r k (some b) :: as) none S1) (CW : z_CV Y k as.length) {host : String} (hl : Cond.methodLinkNest Y0.1.cls idx Y.1 host ∈ lw_tbl) (hR : Y.2.2.2.2.1 + 1 ≤ Y0.2.2.2.2.1 ∧ 8 + (Y.2.2.1 + 11) + Y.2.2.2.2.2 ≤ Y0.2.2.2.2.2) (hw : z_wd rest ≤ 8) (d : decode Y0.2.1 pc = .ok (.invokevirtual idx, 3)) (hst : st0 = as.reverse ++ z_r k o :: rest) (kk : Wp Y0 S0 F (pc + 3) lo (rest) S1) : Wp Y0 S0 F pc lo st0 S := x_callVN ho hM CW hl hR hw d hst kk
theorem x_callS1 {Y : ZM} {as rest : List ZV} {v : ZV} {S1 : ZH} {idx : Nat} (hM : MetX Y S as (some v) S1) (CW : z_CS Y as.length) (hl : z_in (.methodLink Y0.1.cls idx Y.1)) (hR : Y.2.2.2.2.1 + 1 ≤ Y0.2.2.2.2.1 ∧ 8 + (Y.2.2.1 + 11) + Y.2.2.2.2.2 ≤ Y0.2.2.2.2.2) (hw : z_wd rest ≤ 8) (d : decode Y0.2.1 pc = .ok (.invokestatic idx, 3)) (hst : st0 = as.reverse ++ rest) (kk : Wp Y0 S0 F (pc + 3) lo (v :: rest) S1) : Wp Y0 S0 F pc lo st0 S := x_callS hM CW hl hR hw d hst kk
theorem x_callSv {Y : ZM} {as rest : List ZV} {S1 : ZH} {idx : Nat} (hM : MetX Y S as none S1) (CW : z_CS Y as.length) (hl : z_in (.methodLink Y0.1.cls idx Y.1)) (hR : Y.2.2.2.2.1 + 1 ≤ Y0.2.2.2.2.1 ∧ 8 + (Y.2.2.1 + 11) + Y.2.2.2.2.2 ≤ Y0.2.2.2.2.2) (hw : z_wd rest ≤ 8) (d : decode Y0.2.1 pc = .ok (.invokestatic idx, 3)) (hst : st0 = as.reverse ++ rest) (kk : Wp Y0 S0 F (pc + 3) lo (rest) S1) : Wp Y0 S0 F pc lo st0 S := x_callS hM CW hl hR hw d hst kk
theorem x_callSN1 {Y : ZM} {as rest : List ZV} {v : ZV} {S1 : ZH} {idx : Nat} (hM : MetX Y S as (some v) S1) (CW : z_CS Y as.length) {host : String} (hl : Cond.methodLinkNest Y0.1.cls idx Y.1 host ∈ lw_tbl) (hR : Y.2.2.2.2.1 + 1 ≤ Y0.2.2.2.2.1 ∧ 8 + (Y.2.2.1 + 11) + Y.2.2.2.2.2 ≤ Y0.2.2.2.2.2) (hw : z_wd rest ≤ 8) (d : decode Y0.2.1 pc = .ok (.invokestatic idx, 3)) (hst : st0 = as.reverse ++ rest) (kk : Wp Y0 S0 F (pc + 3) lo (v :: rest) S1) : Wp Y0 S0 F pc lo st0 S := x_callSN hM CW hl hR hw d hst kk
theorem x_callSNv {Y : ZM} {as rest : List ZV} {S1 : ZH} {idx : Nat} (hM : MetX Y S as none S1) (CW : z_CS Y as.length) {host : String} (hl : Cond.methodLinkNest Y0.1.cls idx Y.1 host ∈ lw_tbl) (hR : Y.2.2.2.2.1 + 1 ≤ Y0.2.2.2.2.1 ∧ 8 + (Y.2.2.1 + 11) + Y.2.2.2.2.2 ≤ Y0.2.2.2.2.2) (hw : z_wd rest ≤ 8) (d : decode Y0.2.1 pc = .ok (.invokestatic idx, 3)) (hst : st0 = as.reverse ++ rest) (kk : Wp Y0 S0 F (pc + 3) lo (rest) S1) : Wp Y0 S0 F pc lo st0 S := x_callSN hM CW hl hR hw d hst kk
theorem x_callIv {Y : ZM} {as rest : List ZV} {S1 : ZH} {idx : Nat} {k b : Nat} {o : Option Nat} (ho : o = some b) (hM : MetX Y S (z_r k (some b) :: as) none S1) (CW : z_CI Y as.length) (hl : z_in (.methodLink Y0.1.cls idx Y.1)) (hR : Y.2.2.2.2.1 + 1 ≤ Y0.2.2.2.2.1 ∧ 8 + (Y.2.2.1 + 11) + Y.2.2.2.2.2 ≤ Y0.2.2.2.2.2) (hw : z_wd rest ≤ 8) (d : decode Y0.2.1 pc = .ok (.invokespecial idx, 3)) (hst : st0 = as.reverse ++ z_r k o :: rest) (kk : Wp Y0 S0 F (pc + 3) lo (rest) S1) : Wp Y0 S0 F pc lo st0 S := x_callI ho hM CW hl hR hw d hst kk
theorem x_callINv {Y : ZM} {as rest : List ZV} {S1 : ZH} {idx : Nat} {k b : Nat} {o : Option Nat} (ho : o = some b) (hM : MetX Y S (z_r k (some b) :: as) none S1) (CW : z_CI Y as.length) {host : String} (hl : Cond.methodLinkNest Y0.1.cls idx Y.1 host ∈ lw_tbl) (hR : Y.2.2.2.2.1 + 1 ≤ Y0.2.2.2.2.1 ∧ 8 + (Y.2.2.1 + 11) + Y.2.2.2.2.2 ≤ Y0.2.2.2.2.2) (hw : z_wd rest ≤ 8) (d : decode Y0.2.1 pc = .ok (.invokespecial idx, 3)) (hst : st0 = as.reverse ++ z_r k o :: rest) (kk : Wp Y0 S0 F (pc + 3) lo (rest) S1) : Wp Y0 S0 F pc lo st0 S := x_callIN ho hM CW hl hR hw d hst kk
end ZCALL2
