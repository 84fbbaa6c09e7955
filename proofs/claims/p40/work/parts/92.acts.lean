/-! CALLS 8: acts -/
theorem fstI_congr {p q : Nat → Bool} : ∀ k i, (∀ j, i ≤ j → j < i + k → p j = q j) → fstI p k i = fstI q k i
  | 0, _, _ => rfl
  | k + 1, i, h => by
    show (if p i = true then nI i else fstI p k (i + 1)) = (if q i = true then nI i else fstI q k (i + 1))
    rw [h i (Nat.le_refl i) (by omega), fstI_congr k (i + 1) (fun j a b => h j (by omega) (by omega))]
theorem clS_ii {σ : Nat → Int32} {n i : Nat} {x1 x2 x3 x4 : Int32} (hn : n ≤ 40) : clS σ n x1 x2 x3 x4 (nI i) (nI i) = clS σ n x1 x2 x3 x4 (nI i) (-1) := by
  refine fstI_congr n 0 (fun j _ hj => ?_)
  have hj1 : ¬ nI j = -1 := nI_neg1 (by omega)
  unfold clB
  rw [decide_eq_false hj1]
  by_cases c : nI j = nI i
  · rw [decide_eq_true c]; simp
  · rw [decide_eq_false c]
theorem cand_ok {σ : Nat → Int32} {n i j : Nat} (h : ¬ candS σ n i j = 0) : swpOk σ n i j := by
  unfold candS at h
  by_cases c : swpOk σ n i j
  · exact c
  · rw [if_neg c] at h; exact absurd rfl h
theorem candB_ok {σ : Nat → Int32} {n i j : Nat} (h : ¬ candB σ n i j = 0) : buyOk σ n i j := by
  unfold candB at h
  by_cases c : buyOk σ n i j
  · exact c
  · rw [if_neg c] at h; exact absurd rfl h
section AC
variable {v : V3} {g n m S : Nat} {B : Int}
/-- behind an act the class places -/
theorem act_C {v1 : V3} {σ1 : Nat → Int32} (hL1 : LA v1 8 σ1 n m) (hW1 : Wf σ1 n m S B) (hB : 10300 ≤ B) {Q : V3 → Prop} (hQ : ∀ v', LA v' 8 (pl σ1 n) n m → Fr 8 v1 v' → Q v') : w_X1_placeWaiting 8 v1 Q :=
  uC_placeW hL1 hW1 hB (fun v' a _ _ d => hQ v' (by rw [plc_1] at a; exact a) d)
end AC
