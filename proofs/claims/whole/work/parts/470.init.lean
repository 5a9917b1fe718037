/-! ===== the two new objects ===== -/
def q2o : Option ZH := (zal zE 11 19).bind fun S1 => f_X11_init 0 S1
def q2s : ZH := q2o.getD zE
def q4o : Option ZH := (zal q2s 12 39).bind fun S3 => f_X12_init 0 S3
def q4s : ZH := q4o.getD zE
theorem q2_ok : q2o.isSome = true := by decide +kernel
theorem q4_ok : q4o.isSome = true := by decide +kernel
theorem q4_SM : SM q4s := by
  refine ⟨fun j hj => ?_, fun q hq => ?_⟩
  · have h : ∀ j ∈ SMr, zR q4s 12 0 j = some 0 := by decide +kernel
    exact h j hj
  · have h : ∀ q ∈ SMl, zL q4s q.1 0 = q.2 := by decide +kernel
    exact h q hq
theorem q4_SC : SC q4s := by
  refine ⟨fun j hj => ?_, fun q hq => ?_⟩
  · have h : ∀ q ∈ SCr, zR q4s q.1 0 q.2 = some 0 := by decide +kernel
    exact h j hj
  · have h : ∀ q ∈ SCl, zL q4s q.1 0 = q.2 := by decide +kernel
    exact h q hq
