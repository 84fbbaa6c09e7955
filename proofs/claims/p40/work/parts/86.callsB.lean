/-! CALLS 2: counts, owners told, trust, forgive, draft -/
section CB
variable {v : V3} {g : Nat} {B : Int}
theorem nI_ne {a b : Nat} (ha : a < 2 ^ 31) (hb : b < 2 ^ 31) (h : a ≠ b) : ¬ nI a = nI b := fun q => h ((nI_eq ha hb).mp q)
end CB
