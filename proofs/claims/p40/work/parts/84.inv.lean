/-! WHAT STANDS BETWEEN TWO CALLS -/
/-- the class changes its ledgers, its reader and what the broker found -/
def Fc (v w : V3) : Prop := ∀ c, (c < 8 ∧ c ≠ 5 ∧ c ≠ 6) ∨ 116 ≤ c → w c = v c
theorem Fc_r (v : V3) : Fc v v := fun _ _ => rfl
theorem Fc_t {v w x : V3} (h : Fc v w) (h' : Fc w x) : Fc v x := fun c k => (h' c k).trans (h c k)
theorem Fc_L {v w : V3} (h : Fr 8 v w) : Fc v w := fun c k => h c (by omega)
theorem Fc_L2 {v w : V3} (h : Fr 62 v w) : Fc v w := fun c k => h c (by omega)
theorem Fc_5 {v w : V3} (h : ∀ c, c ≠ 5 → w c = v c) : Fc v w := fun c k => h c (by omega)
theorem Fc_1 {v w : V3} {b : Nat} (h : ∀ c, c ≠ b → w c = v c) (h1 : 8 ≤ b) (h2 : b < 116) : Fc v w := fun c k => h c (by omega)
/-- a state as it stands between two calls -/
def OK (σ : Nat → Int32) (n m S : Nat) (B : Int) : Prop := Wf σ n m S B ∧ NF σ n ∧ (σ 7).toInt ≤ 20000
theorem OK_B {σ : Nat → Int32} {n m S : Nat} {B B' : Int} (h : OK σ n m S B) (hB : B ≤ B' ∧ B' ≤ 1000000) : OK σ n m S B' := ⟨Wf_B h.1 hB, h.2⟩
/-! the own tests of the class -/
