/-! PURE LEVEL 10: what a bargain gains -/
theorem clS_sym {σ : Nat → Int32} {n : Nat} {x1 x2 x3 x4 x5 x6 : Int32} : clS σ n x1 x2 x3 x4 x5 x6 = clS σ n x1 x2 x3 x4 x6 x5 := by
  have e : clB σ x1 x2 x3 x4 x5 x6 = clB σ x1 x2 x3 x4 x6 x5 := by
    funext i
    unfold clB
    rw [Bool.and_assoc (lvB σ i), Bool.and_comm (!decide (nI i = x5)), ← Bool.and_assoc (lvB σ i)]
  unfold clS
  rw [e]
abbrev swpOk (σ : Nat → Int32) (n i j : Nat) : Prop := bf σ i 9 - bf σ i 8 = bf σ j 9 - bf σ j 8 ∧ ¬ bf σ i 8 < σ 7 ∧ σ 7 ≤ bf σ j 8 ∧ ¬ joyS σ i (bf σ j 8) - joyS σ i (bf σ i 8) ≤ 0 ∧ ¬ joyS σ j (bf σ i 8) - joyS σ j (bf σ j 8) ≤ 0 ∧ clS σ n (bf σ i 1) (bf σ i 2) (bf σ j 8) (bf σ j 9) (nI i) (nI j) = -1 ∧ clS σ n (bf σ j 1) (bf σ j 2) (bf σ i 8) (bf σ i 9) (nI j) (nI i) = -1
def swgV (σ : Nat → Int32) (i j : Nat) : Int32 := (joyS σ i (bf σ j 8) - joyS σ i (bf σ i 8)) + (joyS σ j (bf σ i 8) - joyS σ j (bf σ j 8))
def prcS (σ : Nat → Int32) (i j : Nat) : Int32 := (joyS σ i (bf σ j 8) + joyS σ j (bf σ j 8)) / 2
abbrev buyOk (σ : Nat → Int32) (n i j : Nat) : Prop := ¬ bf σ j 8 < σ 7 ∧ zabs (bf σ j 8 - bf σ i 4) ≤ bf σ i 5 ∧ ¬ prcS σ i j ≤ joyS σ j (bf σ j 8) ∧ ¬ joyS σ i (bf σ j 8) ≤ prcS σ i j ∧ ¬ og σ (ownI σ i) 0 < prcS σ i j ∧ clS σ n (bf σ i 1) (bf σ i 2) (bf σ j 8) (bf σ j 8 + bf σ i 3) (nI i) (nI j) = -1
def buyV (σ : Nat → Int32) (i j : Nat) : Int32 := joyS σ i (bf σ j 8) - joyS σ j (bf σ j 8)
section GC
variable {v : V3} {n m : Nat} {σ : Nat → Int32} {Q : Int32 → V3 → Prop}
theorem uC_price (hL : LA v 8 σ n m) (hn : n ≤ 40) {i j : Nat} (hi : i < n) (hj : j < n) (hQ : Q (prcS σ i j) v) : w_X0_priceOf (nI i) (nI j) v Q := by
  refine ⟨nx_in hj hn, ?_⟩
  rw [nx_ix hj hn, hL.bk hj 8 (by omega)]
  exact uC_joyAt hL hn hi (uC_joyAt hL hn hj hQ)
theorem uC_swapGain (hL : LA v 8 σ n m) (hn : n ≤ 40) {i j : Nat} (hi : i < n) (hj : j < n) (h1 : swpOk σ n i j → Q (swgV σ i j) v) (h0 : ¬ swpOk σ n i j → Q 0 v) : w_X0_swapGain (nI i) (nI j) v Q := by
  refine ⟨nx_in hi hn, nx_in hj hn, ?_⟩
  rw [nx_ix hi hn, nx_ix hj hn, hL.bk hi 8 (by omega), hL.bk hi 9 (by omega), hL.bk hj 8 (by omega), hL.bk hj 9 (by omega), hL.tm]
  refine ⟨fun q => h0 (fun g => q g.1), fun a1 => br_c (fun q => h0 (fun g => g.2.1 q)) (fun a2 => ⟨fun a3 => ?_, fun q => h0 (fun g => q g.2.2.1)⟩)⟩
  refine uC_joyAt hL hn hi ?_
  rw [hL.bk hi 8 (by omega)]
  refine uC_joyAt hL hn hi ?_
  rw [hL.bk hi 8 (by omega)]
  refine uC_joyAt hL hn hj ?_
  rw [hL.bk hj 8 (by omega)]
  refine uC_joyAt hL hn hj ?_
  rw [hL.bk hj 8 (by omega), hL.bk hj 9 (by omega)]
  refine br_c (fun q => h0 (fun g => g.2.2.2.1 q)) (fun a4 => br_c (fun q => h0 (fun g => g.2.2.2.2.1 q)) (fun a5 => uC_would hL hn hi ?_))
  by_cases c1 : clS σ n (bf σ i 1) (bf σ i 2) (bf σ j 8) (bf σ j 9) (nI i) (nI j) = -1
  · rw [if_pos c1]
    rw [hL.bk hi 8 (by omega), hL.bk hi 9 (by omega)]
    refine ⟨fun q => absurd rfl q, fun _ => uC_would hL hn hj ?_⟩
    by_cases c2 : clS σ n (bf σ j 1) (bf σ j 2) (bf σ i 8) (bf σ i 9) (nI j) (nI i) = -1
    · rw [if_pos c2]
      exact br_t rfl (h1 ⟨a1, a2, a3, a4, a5, c1, c2⟩)
    · rw [if_neg c2]
      exact br_f (by decide) (h0 (fun g => c2 g.2.2.2.2.2.2))
  · rw [if_neg c1]
    exact ⟨fun _ => h0 (fun g => c1 g.2.2.2.2.2.1), fun q => absurd q (by decide)⟩
theorem uC_buyGain (hL : LA v 8 σ n m) (hn : n ≤ 40) (hm : m ≤ 8) (hO : Ow σ n m) {i j : Nat} (hi : i < n) (hj : j < n) (h1 : buyOk σ n i j → Q (buyV σ i j) v) (h0 : ¬ buyOk σ n i j → Q 0 v) : w_X0_buyoutGain (nI i) (nI j) v Q := by
  have o := own_of hO hm hi
  refine ⟨nx_in hi hn, nx_in hj hn, ?_⟩
  rw [nx_ix hi hn, nx_ix hj hn, hL.bk hj 8 (by omega), hL.bk hi 4 (by omega), hL.bk hi 5 (by omega), hL.tm]
  refine br_c (fun q => h0 (fun g => g.1 q)) (fun a1 => ⟨fun a2 => ?_, fun q => h0 (fun g => q g.2.1)⟩)
  refine uC_joyAt hL hn hj ?_
  refine uC_joyAt hL hn hi ?_
  refine uC_price hL hn hi hj ?_
  rw [hL.bk hi 0 (by omega), hL.bk hi 3 (by omega), o.2, show ix (nI (ownI σ i)) = ownI σ i from nI_clamp (by omega), hL.ow o.1 0 (by omega)]
  refine br_c (fun q => h0 (fun g => g.2.2.1 q)) (fun a3 => br_c (fun q => h0 (fun g => g.2.2.2.1 q)) (fun a4 => ⟨vp_in_nI (by omega) (by decide), br_c (fun q => h0 (fun g => g.2.2.2.2.1 q)) (fun a5 => uC_would hL hn hi ?_)⟩))
  by_cases c1 : clS σ n (bf σ i 1) (bf σ i 2) (bf σ j 8) (bf σ j 8 + bf σ i 3) (nI i) (nI j) = -1
  · rw [if_pos c1]
    exact br_t rfl (h1 ⟨a1, a2, a3, a4, a5, c1⟩)
  · rw [if_neg c1]
    exact br_f (by decide) (h0 (fun g => c1 g.2.2.2.2.2))
end GC
