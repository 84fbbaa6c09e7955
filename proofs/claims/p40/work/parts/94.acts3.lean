/-! CALLS 10: swap, buy, bargain -/
theorem addO_7 {σ : Nat → Int32} {i f : Nat} {x : Int32} : addO σ i f x 7 = σ 7 := sc_putO (by omega)
theorem swpF_7 {σ : Nat → Int32} {n m i j : Nat} (hO : Ow σ n m) (hm : m ≤ 8) (hi : i < n) (hj : j < n) : swpF σ i j 7 = σ 7 := by
  unfold swpF barS swpS
  rw [pk_un (by decide), addO_7, addO_7, sc_put (by omega), sc_put (by omega), sc_put (by omega), sc_put (by omega)]
theorem buyF_7 {σ : Nat → Int32} {n m i j : Nat} (hO : Ow σ n m) (hm : m ≤ 8) (hi : i < n) (hj : j < n) : buyF σ i j 7 = σ 7 := by
  unfold buyF buyC barS settleS awaitS
  rw [pk_un (by decide), addO_7, addO_7, addO_7, addO_7, sc_put (by omega), sc_put (by omega), sc_put (by omega), sc_put (by omega), sc_put (by omega), sc_put (by omega)]
theorem bk_ne {σ : Nat → Int32} {n m S j : Nat} {B : Int} (h : Wf σ n m S B) (hj : j < n) (hb : bf σ j 7 = 1) : ¬ bf σ j 8 = -1 := fun q => by
  have t := h.tm.1 j hj (by unfold lvB; exact decide_eq_true (.inl hb))
  rw [q, neg1_I] at t
  omega
