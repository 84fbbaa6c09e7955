/-! PURE LEVEL 10: what a bargain gains -/
theorem clS_sym {σ : Nat → Int32} {n : Nat} {x1 x2 x3 x4 x5 x6 : Int32} : clS σ n x1 x2 x3 x4 x5 x6 = clS σ n x1 x2 x3 x4 x6 x5 := by
  have e : clB σ x1 x2 x3 x4 x5 x6 = clB σ x1 x2 x3 x4 x6 x5 := by
    funext i
    unfold clB
    rw [Bool.and_assoc (lvB σ i), Bool.and_comm (!decide (nI i = x5)), ← Bool.and_assoc (lvB σ i)]
  unfold clS
  rw [e]
abbrev swpOk (σ : Nat → Int32) (n i j : Nat) : Prop := bf σ i 9 - bf σ i 8 = bf σ j 9 - bf σ j 8 ∧ ¬ bf σ i 8 < σ 7 ∧ σ 7 ≤ bf σ j 8 ∧ ¬ joyS σ i (bf σ j 8) - joyS σ i (bf σ i 8) ≤ 0 ∧ ¬ joyS σ j (bf σ i 8) - joyS σ j (bf σ j 8) ≤ 0 ∧ clS σ n (bf σ i 1) (bf σ i 2) (bf σ j 8) (bf σ j 9) (nI i) (nI j) = -1 ∧ clS σ n (bf σ j 1) (bf σ j 2) (bf σ i 8) (bf σ i 9) (nI j) (nI i) = -1
def swgV (σ : Nat → Int32) (i j : Nat) : Int32 := (joyS σ i (bf σ j 8) - joyS σ i (bf σ i 8)) + (joyS σ j (bf σ i 8) - joyS σ j (bf σ j 8))
def prcS (σ : Nat → Int32) (i j : Nat) : Int32 := (joyS σ i (bf σ j 8) + joyS σ j (bf σ j 8)) / 2
abbrev buyOk (σ : Nat → Int32) (n i j : Nat) : Prop := ¬ bf σ j 8 < σ 7 ∧ zabs (bf σ j 8 - bf σ i 4) ≤ bf σ i 5 ∧ ¬ prcS σ i j ≤ joyS σ j (bf σ j 8) ∧ ¬ joyS σ i (bf σ j 8) ≤ prcS σ i j ∧ ¬ og σ (ownI σ i) 0 < prcS σ i j ∧ clS σ n (bf σ i 1) (bf σ i 2) (bf σ j 8) (bf σ j 8 + bf σ i 3) (nI i) (nI j) = -1
def buyV (σ : Nat → Int32) (i j : Nat) : Int32 := joyS σ i (bf σ j 8) - joyS σ j (bf σ j 8)
section GC
variable {v : V3} {n m : Nat} {σ : Nat → Int32} {Q : Int32 → V3 → Prop}
theorem uC_price (hL : LA v 21 σ n m) (hn : n ≤ 40) {i j : Nat} (hi : i < n) (hj : j < n) (hQ : Q (prcS σ i j) v) : w_X0_priceOf (nI i) (nI j) v Q := by
  refine ⟨nx_in hj hn, ?_⟩
  rw [nx_ix hj hn, hL.bk hj 8 (by omega)]
  exact uC_joyAt hL hn hi (uC_joyAt hL hn hj hQ)
theorem uC_swapGain (hL : LA v 21 σ n m) (hn : n ≤ 40) {i j : Nat} (hi : i < n) (hj : j < n) (h1 : swpOk σ n i j → Q (swgV σ i j) v) (h0 : ¬ swpOk σ n i j → Q 0 v) : w_X0_swapGain (nI i) (nI j) v Q := by
  refine ⟨nx_in hi hn, nx_in hj hn, ?_⟩
  rw [nx_ix hi hn, nx_ix hj hn, hL.bk hi 8 (by omega), hL.bk hi 9 (by omega), hL.bk hj 8 (by omega), hL.bk hj 9 (by omega), hL.tm]
  refine ⟨fun q => h0 (fun g => q g.1), fun a1 => br_c (fun q => h0 (fun g => g.2.1 q)) (fun a2 => ⟨fun a3 => ?_, fun q => h0 (fun g => q g.2.2.1)⟩)⟩
  refine uC_joyAt hL hn hi ?_
  rw [hL.bk hi 8 (by omega)]
  refine uC_joyAt hL hn hi ?_
  rw [hL.bk hi 8 (by omega)]
  refine uC_joyAt hL hn hj ?_
  rw [hL.bk hj 8 (by omega)]
  refine uC_joyAt hL hn hj ?_
  rw [hL.bk hj 8 (by omega), hL.bk hj 9 (by omega)]
  refine br_c (fun q => h0 (fun g => g.2.2.2.1 q)) (fun a4 => br_c (fun q => h0 (fun g => g.2.2.2.2.1 q)) (fun a5 => uC_would hL hn hi ?_))
  by_cases c1 : clS σ n (bf σ i 1) (bf σ i 2) (bf σ j 8) (bf σ j 9) (nI i) (nI j) = -1
  · rw [if_pos c1]
    rw [hL.bk hi 8 (by omega), hL.bk hi 9 (by omega)]
    refine ⟨fun q => absurd rfl q, fun _ => uC_would hL hn hj ?_⟩
    by_cases c2 : clS σ n (bf σ j 1) (bf σ j 2) (bf σ i 8) (bf σ i 9) (nI j) (nI i) = -1
    · rw [if_pos c2]
      exact br_t rfl (h1 ⟨a1, a2, a3, a4, a5, c1, c2⟩)
    · rw [if_neg c2]
      exact br_f (by decide) (h0 (fun g => c2 g.2.2.2.2.2.2))
  · rw [if_neg c1]
    exact ⟨fun _ => h0 (fun g => c1 g.2.2.2.2.2.1), fun q => absurd q (by decide)⟩
theorem uC_buyGain (hL : LA v 21 σ n m) (hn : n ≤ 40) (hm : m ≤ 8) (hO : Ow σ n m) {i j : Nat} (hi : i < n) (hj : j < n) (h1 : buyOk σ n i j → Q (buyV σ i j) v) (h0 : ¬ buyOk σ n i j → Q 0 v) : w_X0_buyoutGain (nI i) (nI j) v Q := by
  have o := own_of hO hm hi
  refine ⟨nx_in hi hn, nx_in hj hn, ?_⟩
  rw [nx_ix hi hn, nx_ix hj hn, hL.bk hj 8 (by omega), hL.bk hi 4 (by omega), hL.bk hi 5 (by omega), hL.tm]
  refine br_c (fun q => h0 (fun g => g.1 q)) (fun a1 => ⟨fun a2 => ?_, fun q => h0 (fun g => q g.2.1)⟩)
  refine uC_joyAt hL hn hj ?_
  refine uC_joyAt hL hn hi ?_
  refine uC_price hL hn hi hj ?_
  rw [hL.bk hi 0 (by omega), hL.bk hi 3 (by omega), o.2, show ix (nI (ownI σ i)) = ownI σ i from nI_clamp (by omega), hL.ow o.1 0 (by omega)]
  refine br_c (fun q => h0 (fun g => g.2.2.1 q)) (fun a3 => br_c (fun q => h0 (fun g => g.2.2.2.1 q)) (fun a4 => ⟨vp_in_nI (by omega) (by decide), br_c (fun q => h0 (fun g => g.2.2.2.2.1 q)) (fun a5 => uC_would hL hn hi ?_)⟩))
  by_cases c1 : clS σ n (bf σ i 1) (bf σ i 2) (bf σ j 8) (bf σ j 8 + bf σ i 3) (nI i) (nI j) = -1
  · rw [if_pos c1]
    exact br_t rfl (h1 ⟨a1, a2, a3, a4, a5, c1⟩)
  · rw [if_neg c1]
    exact br_f (by decide) (h0 (fun g => c1 g.2.2.2.2.2))
end GC
section GM
variable {v : V3} {n m S : Nat} {B : Int} {Q : Int32 → V3 → Prop}
theorem uM_swapGain (hW : Wf (v 8) n m S B) {i j : Nat} (hi : i < n) (hj : j < n) (h1 : swpOk (v 8) n i j → Q (swgV (v 8) i j) v) (h0 : ¬ swpOk (v 8) n i j → Q 0 v) : w_X4_swapGain (nI i) (nI j) v Q := by
  have hn := hW.n40
  have hi4 : i < 40 := by omega
  have hj4 : j < 40 := by omega
  unfold w_X4_swapGain
  rw [uM_of8 hi4, uM_of8 hj4, uM_of9 hi4, uM_of9 hj4]
  refine ⟨fun q => br_t rfl (h0 (fun g => q g.1)), fun a1 => br_f (by decide) (br_c (fun q => h0 (fun g => g.2.1 q)) (fun a2 => ⟨fun a3 => ?_, fun q => h0 (fun g => q g.2.2.1)⟩))⟩
  refine uM_joyOf hi4 ?_
  refine uM_joyOf hi4 ?_
  refine uM_joyOf hj4 ?_
  refine uM_joyOf hj4 ?_
  refine br_c (fun q => h0 (fun g => g.2.2.2.1 q)) (fun a4 => ⟨fun a5 => ?_, fun q => h0 (fun g => g.2.2.2.2.1 (Classical.byContradiction (fun z => q (by rw [ti_lt]; rw [ti_le] at z; omega))))⟩)
  rw [uM_of1 hi4, uM_of2 hi4, uM_of9 hj4]
  refine uM_taken hW.cn hW.tm ?_
  rw [uM_of1 hj4, uM_of2 hj4, uM_of9 hi4]
  refine uM_taken hW.cn hW.tm ?_
  rw [clS_sym (x1 := bf (v 8) j 1)]
  by_cases c1 : clS (v 8) n (bf (v 8) i 1) (bf (v 8) i 2) (bf (v 8) j 8) (bf (v 8) j 9) (nI i) (nI j) = -1
  · rw [if_pos c1]
    refine ⟨fun q => absurd rfl q, fun _ => ?_⟩
    by_cases c2 : clS (v 8) n (bf (v 8) j 1) (bf (v 8) j 2) (bf (v 8) i 8) (bf (v 8) i 9) (nI j) (nI i) = -1
    · rw [if_pos c2]
      exact br_t rfl (h1 ⟨a1, a2, a3, a4, by rw [ti_le]; rw [ti_lt] at a5; omega, c1, c2⟩)
    · rw [if_neg c2]
      exact br_f (by decide) (h0 (fun g => c2 g.2.2.2.2.2.2))
  · rw [if_neg c1]
    exact ⟨fun _ => h0 (fun g => c1 g.2.2.2.2.2.1), fun q => absurd q (by decide)⟩
theorem uM_price {i j : Nat} (hi4 : i < 40) (hj4 : j < 40) (hb : bf (v 8) j 7 = 1) (hQ : Q (prcS (v 8) i j) v) : w_X4_priceOf (nI i) (nI j) v Q := by
  unfold w_X4_priceOf
  rw [uM_of8 hj4]
  refine uM_joyOf hi4 (uM_joyNow hj4 ?_)
  rw [show joyN (v 8) j = joyS (v 8) j (bf (v 8) j 8) from if_pos hb]
  exact hQ
theorem uM_buyGain (hW : Wf (v 8) n m S B) {i j : Nat} (hi : i < n) (hj : j < n) (hb : bf (v 8) j 7 = 1) (h1 : buyOk (v 8) n i j → Q (buyV (v 8) i j) v) (h0 : ¬ buyOk (v 8) n i j → Q 0 v) : w_X4_buyGain (nI i) (nI j) v Q := by
  have hn := hW.n40
  have hm := hW.m8
  have hi4 : i < 40 := by omega
  have hj4 : j < 40 := by omega
  have o := own_of hW.ow hm hi
  have ej : joyN (v 8) j = joyS (v 8) j (bf (v 8) j 8) := if_pos hb
  unfold w_X4_buyGain
  rw [uM_of8 hj4]
  refine br_c (fun q => h0 (fun g => g.1 q)) (fun a1 => ?_)
  rw [uM_of4 hi4, uM_of5 hi4]
  refine br_c (fun q => h0 (fun g => ?_)) (fun a2 => uM_fits hW.cn hW.tm hi ?_)
  · have := g.2.1
    rw [ti_le] at this
    rw [ti_lt] at q
    omega
  by_cases c1 : clS (v 8) n (bf (v 8) i 1) (bf (v 8) i 2) (bf (v 8) j 8) (bf (v 8) j 8 + bf (v 8) i 3) (nI i) (nI j) = -1
  · rw [if_pos (by simp [a1, c1])]
    refine ⟨fun _ => ?_, fun q => absurd q (by decide)⟩
    refine uM_joyOf hi4 (uM_price hi4 hj4 hb (uM_joyNow hj4 ?_))
    rw [ej]
    have no : ¬ buyOk (v 8) n i j → w_X4_buyGain_104 Q (nI j) (joyS (v 8) i (bf (v 8) j 8)) v := fun g => br_t rfl (h0 g)
    refine br_c (fun q => no (fun g => g.2.2.1 q)) (fun a3 => br_c (fun q => no (fun g => g.2.2.2.1 q)) (fun a4 => ?_))
    rw [uM_of0 hi4, o.2, uM_oO0 (by omega)]
    refine br_c (fun q => no (fun g => g.2.2.2.2.1 q)) (fun a5 => br_f (by decide) (uM_joyNow hj4 ?_))
    rw [ej]
    exact h1 ⟨a1, by rw [ti_le]; rw [ti_lt] at a2; omega, a3, a4, a5, c1⟩
  · rw [if_neg (by simp [c1])]
    exact ⟨fun q => absurd rfl q, fun _ => h0 (fun g => c1 g.2.2.2.2.2)⟩
/-- the gain of two bookings as the reference tells it -/
theorem uM_gainOf (hW : Wf (v 8) n m S B) {i j : Nat} (hi : i < n) (hj : j < n) (h0 : (i = j ∨ ¬ bf (v 8) j 7 = 1 ∨ (¬ bf (v 8) i 7 = 1 ∧ ¬ bf (v 8) i 7 = 0)) → Q 0 v) (hs : ¬ i = j → bf (v 8) j 7 = 1 → bf (v 8) i 7 = 1 → (swpOk (v 8) n i j → Q (swgV (v 8) i j) v) ∧ (¬ swpOk (v 8) n i j → Q 0 v)) (hb : ¬ i = j → bf (v 8) j 7 = 1 → bf (v 8) i 7 = 0 → (buyOk (v 8) n i j → Q (buyV (v 8) i j) v) ∧ (¬ buyOk (v 8) n i j → Q 0 v)) : w_X4_gainOf (nI i) (nI j) v Q := by
  have hn := hW.n40
  have hi4 : i < 40 := by omega
  have hj4 : j < 40 := by omega
  refine br_c (fun q => h0 (.inl ((nI_eq (by omega) (by omega)).mp q))) (fun q => ?_)
  have ne : ¬ i = j := fun z => q (by rw [z])
  rw [uM_of7 hj4]
  refine br_c (fun c1 => ?_) (fun c1 => h0 (.inr (.inl c1)))
  rw [uM_of7 hi4]
  refine ⟨fun c2 => ?_, fun c2 => uM_swapGain hW hi hj (hs ne c1 c2).1 (hs ne c1 c2).2⟩
  rw [uM_of7 hi4]
  exact ⟨fun c3 => h0 (.inr (.inr ⟨c2, c3⟩)), fun c3 => uM_buyGain hW hi hj c1 (hb ne c1 c3).1 (hb ne c1 c3).2⟩
end GM
