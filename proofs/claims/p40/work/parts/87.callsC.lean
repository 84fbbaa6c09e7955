/-! CALLS 3: trust, forgive, draft, waiter, holder, shown, booking -/
section CC
variable {v : V3} {g : Nat} {B : Int}
theorem vf_d1 : vf_n64 FP.dconst1 := by unfold vf_n64 FP.dconst1; decide
end CC
