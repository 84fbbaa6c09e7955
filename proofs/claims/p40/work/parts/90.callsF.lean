/-! CALLS 6: mayWrite, usage -/
section CF6
variable {v : V3} {g : Nat} {B : Int}
theorem use_rng {σ : Nat → Int32} {n m S K : Nat} {B : Int} (hW : Wf σ n m S B) (hK : K ≤ 1000) : ∃ u : Nat, useS σ n (nI K) = nI u ∧ u ≤ 64000 := by
  have t0 := hW.t0
  have hS := hW.sp.2.2
  refine ⟨_, use_N hW.n40 hW.tm hW.sp hW.nc (by omega) hK, ?_⟩
  have a : ∀ k, k < K → sN (fun a => indN σ n a (σ 7 + nI k)) S ≤ 64 := fun k _ => by
    have := sN_le (fun a => indN σ n a (σ 7 + nI k)) 1 S (fun i _ => by unfold indN; split <;> omega)
    omega
  have := sN_le (fun k => sN (fun a => indN σ n a (σ 7 + nI k)) S) 64 K a
  have : K * 64 ≤ 1000 * 64 := Nat.mul_le_mul_right 64 hK
  omega
end CF6
