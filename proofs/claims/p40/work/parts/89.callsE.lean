/-! CALLS 5: gain, best, nextFree, mayWrite, usage -/
def gv (σ : Nat → Int32) (n i j : Nat) : Int32 := if i = j ∨ ¬ bf σ j 7 = 1 then 0 else if bf σ i 7 = 1 then candS σ n i j else if bf σ i 7 = 0 then candB σ n i j else 0
section CE
variable {v : V3} {g : Nat} {B : Int}
theorem Ea_un {σ : Nat → Int32} {n : Nat} {x1 x2 : Int32} {D a z : Int} {r r' : Int32} (ha : 0 ≤ a) (h : EaS σ n x1 x2 D a z r) (h' : EaS σ n x1 x2 D a z r') : r = r' := by
  rcases h with ⟨e, p⟩ | ⟨p1, p2, p3, p4⟩ <;> rcases h' with ⟨e', q⟩ | ⟨q1, q2, q3, q4⟩
  · rw [e, e']
  · exact absurd (p _ q1 q2) q3
  · exact absurd (q _ p1 p2) p3
  · refine ti_eq.mpr (Int.le_antisymm ?_ ?_)
    · exact Classical.byContradiction (fun c => q3 (p4 _ q1 (by omega)))
    · exact Classical.byContradiction (fun c => p3 (q4 _ p1 (by omega)))
end CE
