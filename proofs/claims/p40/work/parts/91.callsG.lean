/-! CALLS 7: pass, ahead, waitsFor, show -/
section CG
variable {v : V3} {g : Nat} {B : Int}
/-- a tick of the state alone -/
def stp (n : Nat) (σ : Nat → Int32) : Nat → Int32 := (tickS n (σ, fun _ => 0)).1
theorem stp_t (n : Nat) (σ τ : Nat → Int32) : (tickS n (σ, τ)).1 = stp n σ := by
  unfold stp
  rw [tick_1, tick_1, plc_1, plc_1]
def stN (n : Nat) (σ : Nat → Int32) : Nat → (Nat → Int32)
  | 0 => σ
  | k + 1 => stp n (stN n σ k)
theorem stN_ok {n m S : Nat} {B : Int} {σ : Nat → Int32} (hB : 10300 ≤ B) (h : Wf σ n m S B) (hN : NF σ n) : ∀ k : Nat, (σ 7).toInt + k ≤ 20200 → Wf (stN n σ k) n m S B ∧ NF (stN n σ k) n ∧ (stN n σ k 7).toInt = (σ 7).toInt + k
  | 0, _ => ⟨h, hN, by show (σ 7).toInt = _; omega⟩
  | k + 1, hk => by
    have ih := stN_ok hB h hN k (by omega)
    have p := tk_step (a := (stN n σ k, fun _ => 0)) (t := (σ 7).toInt + k) hB (by omega) ih
    exact ⟨p.1, p.2.1, by have := p.2.2; show ((tickS n (stN n σ k, fun _ => 0)).1 7).toInt = _; omega⟩
end CG
