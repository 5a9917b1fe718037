/-! ===== the two new objects ===== -/
def q2o : Option ZH := (zal zE 11 19).bind fun S1 => f_X11_init 0 S1
def q2s : ZH := q2o.getD zE
def q4o : Option ZH := (zal q2s 12 39).bind fun S3 => f_X12_init 0 S3
def q4s : ZH := q4o.getD zE
theorem q2_ok : q2o.isSome = true := by decide +kernel
theorem q4_ok : q4o.isSome = true := by decide +kernel
theorem q4_SM : SM q4s := by
  refine ⟨fun j hj => ?_, fun q hq => ?_⟩
  · have h : ∀ j ∈ SMr, zR q4s 12 0 j = some 0 := by decide +kernel
    exact h j hj
  · have h : ∀ q ∈ SMl, zL q4s q.1 0 = q.2 := by decide +kernel
    exact h q hq
theorem q4_SC : SC q4s := by
  refine ⟨fun j hj => ?_, fun q hq => ?_⟩
  · have h : ∀ q ∈ SCr, zR q4s q.1 0 q.2 = some 0 := by decide +kernel
    exact h j hj
  · have h : ∀ q ∈ SCl, zL q4s q.1 0 = q.2 := by decide +kernel
    exact h q hq
theorem q4_e : aN (zV q4s) 1 = 4 ∧ aN (zV q4s) 4 = 0 ∧ aN (zV q4s) 5 = 0 ∧ aN (zV q4s) 9 = 0 ∧ aN (zV q4s) 15 = 0 ∧ aN (zV q4s) 17 = 0 ∧ aN (zV q4s) 22 = 0 ∧ aN (zV q4s) 24 = 0 ∧ aN (zV q4s) 31 = 0 := by decide +kernel
theorem q4_c : ∀ j, j < 39 → (zV q4s).1 j = nI (aN (zV q4s) j) := by decide +kernel
theorem q4_r : ∀ k, 29 ≤ k → k < 55 → ∀ j, j < 64 → (zV q4s).2 k j = 0 := by
  have h : ∀ k, k < 55 → ∀ j, j < 64 → (29 ≤ k → (zV q4s).2 k j = 0) := by decide +kernel
  exact fun k a b j hj => h k b j hj a
theorem q4_AIn : AIn (zV q4s) := by
  obtain ⟨e1, e4, e5, e9, e15, e17, e22, e24, e31⟩ := q4_e
  have hc : ∀ j m, j < 39 → aN (zV q4s) j ≤ m → ctr (zV q4s) j m := fun j m a b => ⟨q4_c j a, b⟩
  have hr := q4_r
  refine ⟨⟨hc 1 8 (by omega) (by omega), by omega, hc 4 899 (by omega) (by omega), hc 5 40 (by omega) (by omega), hc 9 10 (by omega) (by omega), hc 15 60 (by omega) (by omega), hc 17 8 (by omega) (by omega), hc 22 60 (by omega) (by omega), hc 24 60 (by omega) (by omega), by omega, hc 31 40 (by omega) (by omega), by decide +kernel, by decide +kernel⟩, ⟨fun j hj => Or.inl (hr 29 (by omega) (by omega) j hj), fun a b ha hb _ => hr 29 (by omega) (by omega) _ (by omega), fun a b ha hb => by rw [hr 29 (by omega) (by omega) _ (by omega), hr 29 (by omega) (by omega) _ (by omega)]⟩, ⟨fun i hi => by omega, fun t i _ hi => by omega⟩, ⟨fun s hs => by omega, fun s _ hs => hr 38 (by omega) (by omega) s (by omega)⟩, fun p hp => by omega, ⟨fun a ha => ?_, fun a _ ha => hr 41 (by omega) (by omega) a (by omega), fun a ha => by omega, fun a k ha => by omega⟩, fun t ht => by omega, fun t ht => ⟨fun z => by omega, fun _ => ⟨hr 51 (by omega) (by omega) t (by omega), hr 52 (by omega) (by omega) t (by omega)⟩⟩, fun m _ hm => hr 54 (by omega) (by omega) m (by omega)⟩
  rw [hr 41 (by omega) (by omega) a (by omega)]
  exact ⟨rfl, by decide⟩
theorem q4_RC : RC (zV q4s) q4s := by
  obtain ⟨e1, e4, e5, e9, e15, e17, e22, e24, e31⟩ := q4_e
  refine ⟨q4_SC, ⟨by decide +kernel, by decide +kernel, Or.inl (by decide +kernel)⟩, ⟨by decide +kernel, by decide +kernel, fun i hi => by omega, fun i j hi => by omega, fun i hi => by omega, by decide +kernel⟩, ⟨by decide +kernel, by decide +kernel, by decide +kernel, fun p hp => by omega⟩, ⟨by decide +kernel, by decide +kernel, by decide +kernel, fun a ha => by omega⟩, ⟨by decide +kernel, by decide +kernel, by decide +kernel, fun t ht => by omega⟩, ⟨by decide +kernel, by decide +kernel, fun s hs => by omega⟩, ⟨by decide +kernel, by decide +kernel, fun t ht => by omega⟩, ⟨by decide +kernel, by decide +kernel, by decide +kernel, by decide +kernel⟩, ?_⟩
  unfold RCb
  decide +kernel
theorem q4_MV : MV (zV q4s) q4s := ⟨q4_SM, eqA.rf⟩
/-- both sides stand for one abstract state -/
def GoodA (S : ZH) : Prop := ∃ A, AIn A ∧ RC A S ∧ MV A S
theorem q4_Good : GoodA q4s := ⟨zV q4s, q4_AIn, q4_RC, q4_MV⟩
theorem law_open {L : Nat} {xs : Nat → Int32} {S' : ZH} (h : z_iter zFU (b_L_law_18 L xs 0 0) ((0 : Int32), q4s) = some S') : f_L_law L xs zE = some S' := by
  have h2 : q2o = some q2s := by
    unfold q2s
    cases e : q2o with
    | none => have := q2_ok; rw [e] at this; cases this
    | some x => rfl
  have h4 : q4o = some q4s := by
    unfold q4s
    cases e : q4o with
    | none => have := q4_ok; rw [e] at this; cases this
    | some x => rfl
  have h2' : ((zal zE 11 19).bind fun S1 => f_X11_init 0 S1) = some q2s := h2
  have h4' : ((zal q2s 12 39).bind fun S3 => f_X12_init 0 S3) = some q4s := h4
  have n1 : zN zE 11 = 0 := rfl
  have n2 : zN q2s 12 = 0 := by decide +kernel
  unfold f_L_law
  rw [n1, ← Option.bind_assoc, h2', Option.bind_some, n2, ← Option.bind_assoc, h4', Option.bind_some]
  exact (o_b h).trans rfl
