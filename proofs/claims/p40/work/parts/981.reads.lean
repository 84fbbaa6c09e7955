/-! THE CLASS'S CALLS OVER A LEDGER IN ORDER, none of which throws: those that only read -/
theorem us_within {a lo hi : Int32} {v : V3} {P : V3 → Prop} (h1 : lo.toInt ≤ a.toInt) (h2 : a.toInt ≤ hi.toInt) (h : P v) : w_X3_needWithin a lo hi v P :=
  ⟨fun q => absurd (ti_lt.mp q) (by omega), fun _ => ⟨fun _ => h, fun q => absurd (ti_le.mpr h2) q⟩⟩
theorem ne1 {x : Nat} (h : x < 2147483648) : ¬ nI x = -1 := nI_neg1 h
section US
variable {v : V3} {n m : Nat} {σ : Nat → Int32} {B : Int}
theorem us_needO (hL : LA v 8 σ n m) (hm : m ≤ 8) {i : Nat} (hi : i < m) {P : V3 → Prop} (h : P v) : w_X3_needOwner (nI i) v P := by
  refine ⟨fun q => absurd q (nI_pos (by omega)), fun _ => ?_⟩
  rw [hL.m7]
  exact ⟨fun _ => h, fun q => absurd (ti_lt.mpr (by rw [ti_nI (by omega), ti_nI (by omega)]; omega)) q⟩
theorem us_needB (hL : LA v 8 σ n m) (hn : n ≤ 40) {i : Nat} (hi : i < n) {P : V3 → Prop} (h : P v) : w_X3_needBooking (nI i) v P := by
  refine ⟨fun q => absurd q (nI_pos (by omega)), fun _ => ?_⟩
  rw [hL.n8]
  exact ⟨fun _ => h, fun q => absurd (ti_lt.mpr (by rw [ti_nI (by omega), ti_nI (by omega)]; omega)) q⟩
theorem us_needY (hL : LA v 8 σ n m) (h4 : σ 4 = nI 32) {i : Nat} (hi : i < 32) {P : V3 → Prop} (h : P v) : w_X3_needByte (nI i) v P := by
  refine ⟨fun q => absurd q (nI_pos (by omega)), fun _ => ?_⟩
  rw [hL.sz, h4]
  exact ⟨fun _ => h, fun q => absurd (ti_lt.mpr (by rw [ti_nI (by omega), ti_nI (by omega)]; omega)) q⟩
theorem us_count_5 (hL : LA v 8 σ n m) {Q : Int32 → V3 → Prop} (h : Q (nI m) v) : w_L_count 5 v Q := by
  rw [w_L_count]
  refine us_within (by decide) (by decide) ⟨fun q => absurd q (by decide), fun _ => ?_, fun q => absurd q (by decide), fun q => absurd q (by decide), fun q => absurd q (by decide), fun q => absurd q (by decide), fun q => absurd q (by decide), fun q => absurd q (by decide), fun q => absurd q (by decide), fun q => absurd q (by decide), fun q => absurd rfl (q.2.1)⟩
  rw [hL.m7]
  exact h
theorem us_count_6 (hL : LA v 8 σ n m) {Q : Int32 → V3 → Prop} (h : Q (nI n) v) : w_L_count 6 v Q := by
  rw [w_L_count]
  refine us_within (by decide) (by decide) ⟨fun q => absurd q (by decide), fun q => absurd q (by decide), fun _ => ?_, fun q => absurd q (by decide), fun q => absurd q (by decide), fun q => absurd q (by decide), fun q => absurd q (by decide), fun q => absurd q (by decide), fun q => absurd q (by decide), fun q => absurd q (by decide), fun q => absurd rfl (q.2.2.1)⟩
  rw [hL.n8]
  exact h
theorem us_count_7 (hL : LA v 8 σ n m) {Q : Int32 → V3 → Prop} (h : Q (σ 7) v) : w_L_count 7 v Q := by
  rw [w_L_count]
  refine us_within (by decide) (by decide) ⟨fun q => absurd q (by decide), fun q => absurd q (by decide), fun q => absurd q (by decide), fun _ => ?_, fun q => absurd q (by decide), fun q => absurd q (by decide), fun q => absurd q (by decide), fun q => absurd q (by decide), fun q => absurd q (by decide), fun q => absurd q (by decide), fun q => absurd rfl (q.2.2.2.1)⟩
  rw [hL.tm]
  exact h
theorem us_count_11 (hL : LA v 8 σ n m) {Q : Int32 → V3 → Prop} (h : Q (σ 8) v) : w_L_count 11 v Q := by
  rw [w_L_count]
  refine us_within (by decide) (by decide) ⟨fun q => absurd q (by decide), fun q => absurd q (by decide), fun q => absurd q (by decide), fun q => absurd q (by decide), fun q => absurd q (by decide), fun q => absurd q (by decide), fun q => absurd q (by decide), fun _ => ?_, fun q => absurd q (by decide), fun q => absurd q (by decide), fun q => absurd rfl (q.2.2.2.2.2.2.2.1)⟩
  rw [hL.1.2.2.2.2.2.1]
  exact h
theorem us_count_12 (hL : LA v 8 σ n m) {Q : Int32 → V3 → Prop} (h : Q (σ 9) v) : w_L_count 12 v Q := by
  rw [w_L_count]
  refine us_within (by decide) (by decide) ⟨fun q => absurd q (by decide), fun q => absurd q (by decide), fun q => absurd q (by decide), fun q => absurd q (by decide), fun q => absurd q (by decide), fun q => absurd q (by decide), fun q => absurd q (by decide), fun q => absurd q (by decide), fun _ => ?_, fun q => absurd q (by decide), fun q => absurd rfl (q.2.2.2.2.2.2.2.2.1)⟩
  rw [hL.1.2.2.2.2.2.2]
  exact h
theorem us_count_8 (hL : LA v 8 σ n m) (hn : n ≤ 40) {Q : Int32 → V3 → Prop} (h : Q (cntS σ n 0) v) : w_L_count 8 v Q := by
  rw [w_L_count]
  refine us_within (by decide) (by decide) ⟨fun q => absurd q (by decide), fun q => absurd q (by decide), fun q => absurd q (by decide), fun q => absurd q (by decide), fun _ => ?_, fun q => absurd q (by decide), fun q => absurd q (by decide), fun q => absurd q (by decide), fun q => absurd q (by decide), fun q => absurd q (by decide), fun q => absurd rfl (q.2.2.2.2.1)⟩
  exact uC_cnt hL hn h
theorem us_count_9 (hL : LA v 8 σ n m) (hn : n ≤ 40) {Q : Int32 → V3 → Prop} (h : Q (cntS σ n 1) v) : w_L_count 9 v Q := by
  rw [w_L_count]
  refine us_within (by decide) (by decide) ⟨fun q => absurd q (by decide), fun q => absurd q (by decide), fun q => absurd q (by decide), fun q => absurd q (by decide), fun q => absurd q (by decide), fun _ => ?_, fun q => absurd q (by decide), fun q => absurd q (by decide), fun q => absurd q (by decide), fun q => absurd q (by decide), fun q => absurd rfl (q.2.2.2.2.2.1)⟩
  exact uC_cnt hL hn h
theorem us_count_10 (hL : LA v 8 σ n m) (hn : n ≤ 40) {Q : Int32 → V3 → Prop} (h : Q (cntS σ n 2) v) : w_L_count 10 v Q := by
  rw [w_L_count]
  refine us_within (by decide) (by decide) ⟨fun q => absurd q (by decide), fun q => absurd q (by decide), fun q => absurd q (by decide), fun q => absurd q (by decide), fun q => absurd q (by decide), fun q => absurd q (by decide), fun _ => ?_, fun q => absurd q (by decide), fun q => absurd q (by decide), fun q => absurd q (by decide), fun q => absurd rfl (q.2.2.2.2.2.2.1)⟩
  exact uC_cnt hL hn h
theorem us_count_0 (hL : LA v 8 σ n m) {Q : Int32 → V3 → Prop} (h : Q (σ 0) v) : w_L_count 0 v Q := by
  rw [w_L_count]
  refine us_within (by decide) (by decide) ⟨fun q => absurd q (by decide), fun q => absurd q (by decide), fun q => absurd q (by decide), fun q => absurd q (by decide), fun q => absurd q (by decide), fun q => absurd q (by decide), fun q => absurd q (by decide), fun q => absurd q (by decide), fun q => absurd q (by decide), fun q => absurd q (by decide), fun _ => ⟨by unfold vp_in; decide, ?_⟩⟩
  rw [show ix (0 : Int32) = 0 from by decide, hL.st (by omega)]
  exact h
theorem us_count_1 (hL : LA v 8 σ n m) {Q : Int32 → V3 → Prop} (h : Q (σ 1) v) : w_L_count 1 v Q := by
  rw [w_L_count]
  refine us_within (by decide) (by decide) ⟨fun q => absurd q (by decide), fun q => absurd q (by decide), fun q => absurd q (by decide), fun q => absurd q (by decide), fun q => absurd q (by decide), fun q => absurd q (by decide), fun q => absurd q (by decide), fun q => absurd q (by decide), fun q => absurd q (by decide), fun q => absurd q (by decide), fun _ => ⟨by unfold vp_in; decide, ?_⟩⟩
  rw [show ix (1 : Int32) = 1 from by decide, hL.st (by omega)]
  exact h
theorem us_owner_0 (hL : LA v 8 σ n m) (hm : m ≤ 8) {i : Nat} (hi : i < m) {Q : Int32 → V3 → Prop} (h : Q (og σ i 0) v) : w_L_owner (nI i) 0 v Q := by
  rw [w_L_owner]
  refine us_needO hL hm hi (us_within (by decide) (by decide) ⟨fun q => absurd q (by decide), fun q => absurd q (by decide), fun q => absurd q (by decide), fun _ => ⟨vp_in_nI (by omega) (by decide), by unfold vp_in; decide, ?_⟩⟩)
  rw [show ix (nI i) = i from nI_clamp (by omega), show ix (0 : Int32) = 0 from by decide, hL.ow hi 0 (by omega)]
  exact h
theorem us_owner_1 (hL : LA v 8 σ n m) (hm : m ≤ 8) {i : Nat} (hi : i < m) {Q : Int32 → V3 → Prop} (h : Q (og σ i 1) v) : w_L_owner (nI i) 1 v Q := by
  rw [w_L_owner]
  refine us_needO hL hm hi (us_within (by decide) (by decide) ⟨fun q => absurd q (by decide), fun q => absurd q (by decide), fun q => absurd q (by decide), fun _ => ⟨vp_in_nI (by omega) (by decide), by unfold vp_in; decide, ?_⟩⟩)
  rw [show ix (nI i) = i from nI_clamp (by omega), show ix (1 : Int32) = 1 from by decide, hL.ow hi 1 (by omega)]
  exact h
theorem us_owner_2 (hL : LA v 8 σ n m) (hm : m ≤ 8) {i : Nat} (hi : i < m) {Q : Int32 → V3 → Prop} (h : Q (og σ i 2) v) : w_L_owner (nI i) 2 v Q := by
  rw [w_L_owner]
  refine us_needO hL hm hi (us_within (by decide) (by decide) ⟨fun q => absurd q (by decide), fun q => absurd q (by decide), fun q => absurd q (by decide), fun _ => ⟨vp_in_nI (by omega) (by decide), by unfold vp_in; decide, ?_⟩⟩)
  rw [show ix (nI i) = i from nI_clamp (by omega), show ix (2 : Int32) = 2 from by decide, hL.ow hi 2 (by omega)]
  exact h
theorem us_owner_3 (hL : LA v 8 σ n m) (hm : m ≤ 8) {i : Nat} (hi : i < m) {Q : Int32 → V3 → Prop} (h : Q (og σ i 3) v) : w_L_owner (nI i) 3 v Q := by
  rw [w_L_owner]
  refine us_needO hL hm hi (us_within (by decide) (by decide) ⟨fun q => absurd q (by decide), fun q => absurd q (by decide), fun q => absurd q (by decide), fun _ => ⟨vp_in_nI (by omega) (by decide), by unfold vp_in; decide, ?_⟩⟩)
  rw [show ix (nI i) = i from nI_clamp (by omega), show ix (3 : Int32) = 3 from by decide, hL.ow hi 3 (by omega)]
  exact h
theorem us_owner_4 (hL : LA v 8 σ n m) (hm : m ≤ 8) {i : Nat} (hi : i < m) {Q : Int32 → V3 → Prop} (h : Q (og σ i 4) v) : w_L_owner (nI i) 4 v Q := by
  rw [w_L_owner]
  refine us_needO hL hm hi (us_within (by decide) (by decide) ⟨fun q => absurd q (by decide), fun q => absurd q (by decide), fun q => absurd q (by decide), fun _ => ⟨vp_in_nI (by omega) (by decide), by unfold vp_in; decide, ?_⟩⟩)
  rw [show ix (nI i) = i from nI_clamp (by omega), show ix (4 : Int32) = 4 from by decide, hL.ow hi 4 (by omega)]
  exact h
theorem us_owner_6 (hL : LA v 8 σ n m) (hm : m ≤ 8) {i : Nat} (hi : i < m) {Q : Int32 → V3 → Prop} (h : Q (og σ i 6) v) : w_L_owner (nI i) 6 v Q := by
  rw [w_L_owner]
  refine us_needO hL hm hi (us_within (by decide) (by decide) ⟨fun q => absurd q (by decide), fun q => absurd q (by decide), fun q => absurd q (by decide), fun _ => ⟨vp_in_nI (by omega) (by decide), by unfold vp_in; decide, ?_⟩⟩)
  rw [show ix (nI i) = i from nI_clamp (by omega), show ix (6 : Int32) = 6 from by decide, hL.ow hi 6 (by omega)]
  exact h
theorem us_owner_8 (hL : LA v 8 σ n m) (hn : n ≤ 40) (hm : m ≤ 8) {i : Nat} (hi : i < m) {Q : Int32 → V3 → Prop} (h : Q (opnS σ n (nI i)) v) : w_L_owner (nI i) 8 v Q := by
  rw [w_L_owner]
  exact us_needO hL hm hi (us_within (by decide) (by decide) ⟨fun _ => uC_opn hL hn h, fun q => absurd q (by decide), fun q => absurd q (by decide), fun q => absurd rfl (q.1)⟩)
theorem us_owner_9 (hL : LA v 8 σ n m) (hm : m ≤ 8) {i : Nat} (hi : i < m) {Q : Int32 → V3 → Prop} (h : Q (if brk σ i < σ 3 then 0 else 1) v) : w_L_owner (nI i) 9 v Q := by
  rw [w_L_owner]
  refine us_needO hL hm hi (us_within (by decide) (by decide) ⟨fun q => absurd q (by decide), fun _ => uC_barred hL hm hi ?_, fun q => absurd q (by decide), fun q => absurd rfl (q.2.1)⟩)
  by_cases c : brk σ i < σ 3
  · rw [if_pos c] at h ⊢
    exact zt0 h
  · rw [if_neg c] at h ⊢
    exact zt1 h
theorem us_booking_0 (hL : LA v 8 σ n m) (hn : n ≤ 40) {i : Nat} (hi : i < n) {Q : Int32 → V3 → Prop} (h : Q (bf σ i 0) v) : w_L_booking (nI i) 0 v Q := by
  rw [w_L_booking]
  refine us_needB hL hn hi (us_within (by decide) (by decide) ⟨fun q => absurd q (by decide), fun q => absurd q (by decide), fun _ => ⟨nx_in hi hn, by unfold vp_in; decide, ?_⟩⟩)
  rw [nx_ix hi hn, show ix (0 : Int32) = 0 from by decide, hL.bk hi 0 (by omega)]
  exact h
theorem us_booking_1 (hL : LA v 8 σ n m) (hn : n ≤ 40) {i : Nat} (hi : i < n) {Q : Int32 → V3 → Prop} (h : Q (bf σ i 1) v) : w_L_booking (nI i) 1 v Q := by
  rw [w_L_booking]
  refine us_needB hL hn hi (us_within (by decide) (by decide) ⟨fun q => absurd q (by decide), fun q => absurd q (by decide), fun _ => ⟨nx_in hi hn, by unfold vp_in; decide, ?_⟩⟩)
  rw [nx_ix hi hn, show ix (1 : Int32) = 1 from by decide, hL.bk hi 1 (by omega)]
  exact h
theorem us_booking_2 (hL : LA v 8 σ n m) (hn : n ≤ 40) {i : Nat} (hi : i < n) {Q : Int32 → V3 → Prop} (h : Q (bf σ i 2) v) : w_L_booking (nI i) 2 v Q := by
  rw [w_L_booking]
  refine us_needB hL hn hi (us_within (by decide) (by decide) ⟨fun q => absurd q (by decide), fun q => absurd q (by decide), fun _ => ⟨nx_in hi hn, by unfold vp_in; decide, ?_⟩⟩)
  rw [nx_ix hi hn, show ix (2 : Int32) = 2 from by decide, hL.bk hi 2 (by omega)]
  exact h
theorem us_booking_4 (hL : LA v 8 σ n m) (hn : n ≤ 40) {i : Nat} (hi : i < n) {Q : Int32 → V3 → Prop} (h : Q (bf σ i 4) v) : w_L_booking (nI i) 4 v Q := by
  rw [w_L_booking]
  refine us_needB hL hn hi (us_within (by decide) (by decide) ⟨fun q => absurd q (by decide), fun q => absurd q (by decide), fun _ => ⟨nx_in hi hn, by unfold vp_in; decide, ?_⟩⟩)
  rw [nx_ix hi hn, show ix (4 : Int32) = 4 from by decide, hL.bk hi 4 (by omega)]
  exact h
theorem us_booking_5 (hL : LA v 8 σ n m) (hn : n ≤ 40) {i : Nat} (hi : i < n) {Q : Int32 → V3 → Prop} (h : Q (bf σ i 5) v) : w_L_booking (nI i) 5 v Q := by
  rw [w_L_booking]
  refine us_needB hL hn hi (us_within (by decide) (by decide) ⟨fun q => absurd q (by decide), fun q => absurd q (by decide), fun _ => ⟨nx_in hi hn, by unfold vp_in; decide, ?_⟩⟩)
  rw [nx_ix hi hn, show ix (5 : Int32) = 5 from by decide, hL.bk hi 5 (by omega)]
  exact h
theorem us_booking_7 (hL : LA v 8 σ n m) (hn : n ≤ 40) {i : Nat} (hi : i < n) {Q : Int32 → V3 → Prop} (h : Q (bf σ i 7) v) : w_L_booking (nI i) 7 v Q := by
  rw [w_L_booking]
  refine us_needB hL hn hi (us_within (by decide) (by decide) ⟨fun q => absurd q (by decide), fun q => absurd q (by decide), fun _ => ⟨nx_in hi hn, by unfold vp_in; decide, ?_⟩⟩)
  rw [nx_ix hi hn, show ix (7 : Int32) = 7 from by decide, hL.bk hi 7 (by omega)]
  exact h
theorem us_booking_8 (hL : LA v 8 σ n m) (hn : n ≤ 40) {i : Nat} (hi : i < n) {Q : Int32 → V3 → Prop} (h : Q (bf σ i 8) v) : w_L_booking (nI i) 8 v Q := by
  rw [w_L_booking]
  refine us_needB hL hn hi (us_within (by decide) (by decide) ⟨fun q => absurd q (by decide), fun q => absurd q (by decide), fun _ => ⟨nx_in hi hn, by unfold vp_in; decide, ?_⟩⟩)
  rw [nx_ix hi hn, show ix (8 : Int32) = 8 from by decide, hL.bk hi 8 (by omega)]
  exact h
theorem us_booking_9 (hL : LA v 8 σ n m) (hn : n ≤ 40) {i : Nat} (hi : i < n) {Q : Int32 → V3 → Prop} (h : Q (bf σ i 9) v) : w_L_booking (nI i) 9 v Q := by
  rw [w_L_booking]
  refine us_needB hL hn hi (us_within (by decide) (by decide) ⟨fun q => absurd q (by decide), fun q => absurd q (by decide), fun _ => ⟨nx_in hi hn, by unfold vp_in; decide, ?_⟩⟩)
  rw [nx_ix hi hn, show ix (9 : Int32) = 9 from by decide, hL.bk hi 9 (by omega)]
  exact h
theorem us_booking_10 (hL : LA v 8 σ n m) (hn : n ≤ 40) {i : Nat} (hi : i < n) {Q : Int32 → V3 → Prop} (h : Q (joyN σ i) v) : w_L_booking (nI i) 10 v Q := by
  rw [w_L_booking]
  exact us_needB hL hn hi (us_within (by decide) (by decide) ⟨fun _ => uC_joyOf hL hn hi h, fun q => absurd q (by decide), fun q => absurd rfl (q.1)⟩)
theorem us_booking_11 (hL : LA v 8 σ n m) (hW : Wf σ n m 32 B) (hN : NF σ n) {i : Nat} (hi : i < n) {Q : Int32 → V3 → Prop} (h : Q (-1) v) : w_L_booking (nI i) 11 v Q := by
  rw [w_L_booking]
  have hn := hW.n40
  refine us_needB hL hn hi (us_within (by decide) (by decide) ⟨fun q => absurd q (by decide), fun _ => ?_, fun q => absurd rfl (q.2)⟩)
  refine uC_isIn hL hn hi ?_
  by_cases c : bf σ i 7 = 0
  · rw [if_pos c]
    refine zt1 (uC_best hL hn hW.tm ⟨hW.t0.1, by have := hW.t0; omega⟩ hi (hW.rg hi) (lv_0 c) ?_)
    rw [(bst_no hn hi (hW.rg hi) (lv_0 c) hW.t0.1).mpr (hN i hi c)]
    exact h
  · rw [if_neg c]
    exact zt0 h
/-- trust, as a number of the format -/
def trS (σ : Nat → Int32) (i : Nat) : UInt64 := if og σ i 1 + brk σ i = 0 then FP.dconst1 else FP.ddiv (FP.i2d (og σ i 1)) (FP.i2d (og σ i 1 + brk σ i))
theorem us_trust (hL : LA v 8 σ n m) (hm : m ≤ 8) {i : Nat} (hi : i < m) {Q : UInt64 → V3 → Prop} (h : Q (trS σ i) v) : w_L_trust (nI i) v Q := by
  rw [w_L_trust]
  refine us_needO hL hm hi ⟨vp_in_nI (by omega) (by decide), uC_brk hL hm hi ?_⟩
  rw [show ix (nI i) = i from nI_clamp (by omega), hL.ow hi 1 (by omega)]
  unfold trS at h
  refine ntc (fun c => ?_) (fun c => ?_)
  · rw [if_neg c] at h
    exact ⟨fp_ddiv _ c, h⟩
  · rw [if_pos c] at h
    exact h
theorem us_waiter (hL : LA v 8 σ n m) (hW : Wf σ n m 32 B) {k : Nat} (hk : k < 2147483648) {Q : Int32 → V3 → Prop} (h : ∀ v' : V3, (∀ c, c ≠ 13 → v' c = v c) → Q (wtrS σ n (nI k)) v') : w_L_waiter (nI k) v Q := by
  rw [w_L_waiter]
  exact ⟨fun _ => uC_waiter hL hW.n40 hW.m8 hW.ow (nI_pos (by omega)) h, fun q => absurd (nI_pos' (by omega)) q⟩
theorem us_draft (hL : LA v 8 σ n m) (h4 : σ 4 = nI 32) {a b d : Nat} (hb : 1 ≤ b) (hab : a + b ≤ 32) (hd : 1 ≤ d ∧ d ≤ 99) {Q : Int32 → V3 → Prop} (h : ∀ v' : V3, (∀ c, c ≠ 0 → v' c = v c) → v' 0 9 = nI a → v' 0 10 = nI b → v' 0 11 = nI d → Q 0 v') : w_L_draft (nI a) (nI b) (nI d) v Q := by
  rw [w_L_draft]
  refine us_needY hL h4 (by omega) ?_
  rw [hL.sz, h4]
  have e1 : (nI 32 - nI a).toInt = 32 - (a : Int) := by
    rw [ti_sub (by rw [ti_nI (by omega), ti_nI (by omega)]; omega) (by rw [ti_nI (by omega), ti_nI (by omega)]; omega), ti_nI (by omega), ti_nI (by omega)]
    rfl
  refine br_t (ti_le.mpr (by rw [e1, ti_nI (by omega)]; omega)) (br_t (ti_le.mpr (by rw [ti_nI (by omega)]; exact Int.ofNat_le.mpr hb)) (us_within (by rw [ti_nI (by omega)]; exact Int.ofNat_le.mpr hd.1) (by rw [ti_nI (by omega)]; exact Int.ofNat_le.mpr hd.2) (nm_e (nm_e (nm_e ?_)))))
  refine h _ (fun c hc => by rw [up2_off _ _ _ hc, up2_off _ _ _ hc, up2_off _ _ _ hc]) ?_ ?_ ?_
  · rw [up2_row, pk_un (by decide), up2_row, pk_un (by decide), up2_row, pk_us]
  · rw [up2_row, pk_un (by decide), up2_row, pk_us]
  · rw [up2_row, pk_us]
theorem us_nextFree (hL : LA v 8 σ n m) (hW : Wf σ n m 32 B) {a : Int32} (ha : (σ 7).toInt ≤ a.toInt ∧ a.toInt ≤ 20000) (hd : 0 ≤ (v 0 11).toInt ∧ (v 0 11).toInt ≤ 1000) {Q : Int32 → V3 → Prop} (h : ∀ r, EaS σ n (v 0 9) (v 0 10) (v 0 11).toInt a.toInt (a.toInt + 300) r → Q r v) : w_X3_nextFree a v Q := by
  have t0 := hW.t0
  refine us_within (by rw [hL.tm]; exact ha.1) (by exact ha.2) ?_
  refine uC_early hL hW.n40 hW.tm hd (by omega) (by omega) (fun r hr => h r ?_)
  rw [ti_add (by rw [show (300 : Int32).toInt = 300 from rfl]; omega) (by rw [show (300 : Int32).toInt = 300 from rfl]; omega), show (300 : Int32).toInt = 300 from rfl, show max a.toInt (σ 7).toInt = a.toInt from by omega] at hr
  exact hr
theorem us_holder (hL : LA v 8 σ n m) (hn : n ≤ 40) (h4 : σ 4 = nI 32) {i : Nat} (hi : i < 32) {t : Int32} (ht : 0 ≤ t.toInt ∧ t.toInt ≤ 20100) {Q : Int32 → V3 → Prop} (h : Q (hldS σ n (nI i) t) v) : w_L_holder (nI i) t v Q := by
  rw [w_L_holder]
  exact us_needY hL h4 hi (us_within ht.1 ht.2 (uC_holder hL hn h))
/-- the gain of two bookings -/
def gnS (σ : Nat → Int32) (n i j : Nat) : Int32 := if i = j ∨ ¬ bf σ j 7 = 1 then 0 else if bf σ i 7 = 1 then candS σ n i j else if bf σ i 7 = 0 then candB σ n i j else 0
theorem us_gain (hL : LA v 8 σ n m) (hW : Wf σ n m 32 B) {i j : Nat} (hi : i < n) (hj : j < n) {Q : Int32 → V3 → Prop} (h : Q (gnS σ n i j) v) : w_L_gain (nI i) (nI j) v Q := by
  rw [w_L_gain]
  have hn := hW.n40
  unfold gnS at h
  refine us_needB hL hn hi (us_needB hL hn hj (br_c (fun c => ?_) (fun c => ?_)))
  · rw [if_pos (.inl ((nI_eq (by omega) (by omega)).mp c))] at h
    exact h
  · have ne : ¬ i = j := fun z => c (by rw [z])
    refine uC_isIn hL hn hj ?_
    by_cases d : bf σ j 7 = 1
    · rw [if_neg (fun z => z.elim ne (fun y => y d))] at h
      rw [if_pos d]
      refine nt1 (uC_isIn hL hn hi ?_)
      by_cases e : bf σ i 7 = 1
      · rw [if_pos e] at h ⊢
        refine zt1 (uC_swapGain hL hn hi hj (fun k => ?_) (fun k => ?_))
        · unfold candS at h; rw [if_pos k] at h; exact h
        · unfold candS at h; rw [if_neg k] at h; exact h
      · rw [if_neg e] at h ⊢
        refine zt0 (uC_isIn hL hn hi ?_)
        by_cases f : bf σ i 7 = 0
        · rw [if_pos f] at h ⊢
          refine zt1 (uC_buyGain hL hn hW.m8 hW.ow hi hj (fun k => ?_) (fun k => ?_))
          · unfold candB at h; rw [if_pos k] at h; exact h
          · unfold candB at h; rw [if_neg k] at h; exact h
        · rw [if_neg f] at h ⊢
          exact zt0 h
    · rw [if_pos (.inr d)] at h
      rw [if_neg d]
      exact nt0 h
theorem us_best (hL : LA v 8 σ n m) (hW : Wf σ n m 32 B) {k : Nat} (hk : k < 5) {Q : Int32 → V3 → Prop} (h0 : (bestB σ n).1 = 0 → ∀ v' : V3, (∀ c, c ≠ 5 → v' c = v c) → Q (-1) v') (h1 : ¬ (bestB σ n).1 = 0 → ∀ v' : V3, (∀ c, c ≠ 5 → v' c = v c) → CF σ v' (bestB σ n) → Q (v' 5 k) v') : w_L_best (nI k) v Q := by
  rw [w_L_best]
  refine us_within (by rw [ti_nI (by omega)]; exact Int.ofNat_nonneg k) (by rw [ti_nI (by omega), show (4 : Int32).toInt = 4 from rfl]; omega) (uC_findBest hL hW.n40 hW.m8 hW.ow (fun v' hc hv => ?_))
  by_cases c : (bestB σ n).1 = 0
  · rw [if_pos c]
    exact zt0 (h0 c v' hv)
  · rw [if_neg c]
    refine zt1 ⟨vp_in_nI (by omega) (by decide), ?_⟩
    rw [show ix (nI k) = k from nI_clamp (by omega)]
    exact h1 c v' hv hc
end US
