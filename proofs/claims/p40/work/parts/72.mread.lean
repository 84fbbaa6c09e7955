/-! PURE LEVEL 3: what the reference reads -/
theorem nI_mul (a b : Nat) : nI a * nI b = nI (a * b) := (Int32.ofNat_mul a b).symm
section MO
variable {v : V3} {i o f : Nat} {Q : Int32 → V3 → Prop} {P : V3 → Prop} {x : Int32}
theorem cnt_pred {n : Nat} (hn : n ≤ 1000) {y : Int32} : nI n - 1 < y ↔ nI n ≤ y := by
  rw [ti_lt, ti_le, ti_sub (by rw [ti_nI (by omega)]; have : (1 : Int32).toInt = 1 := rfl; omega) (by rw [ti_nI (by omega)]; have : (1 : Int32).toInt = 1 := rfl; omega), ti_nI (by omega)]
  have : (1 : Int32).toInt = 1 := rfl
  omega
end MO
section MR
variable {v : V3} {n m : Nat} {Q : Int32 → V3 → Prop}
/-- the states are 0 to 6 -/
def St (σ : Nat → Int32) (n : Nat) : Prop := ∀ i, i < n → ∃ s : Nat, s ≤ 6 ∧ bf σ i 7 = nI s
theorem act_le {σ : Nat → Int32} {n i : Nat} (hS : St σ n) (hi : i < n) : actB σ i = true ↔ ¬ 2 < bf σ i 7 := by
  obtain ⟨s, hs, e⟩ := hS i hi
  simp only [actB, decide_eq_true_eq, e]
  rw [show (0 : Int32) = nI 0 from rfl, show (1 : Int32) = nI 1 from rfl, show (2 : Int32) = nI 2 from rfl, nI_eq (by omega) (by omega), nI_eq (by omega) (by omega), nI_eq (by omega) (by omega), nI_ltI (by omega) (by omega)]
  omega
end MR
