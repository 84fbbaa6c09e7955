/-! PURE LEVEL 3: what the reference reads -/
theorem nI_mul (a b : Nat) : nI a * nI b = nI (a * b) := (Int32.ofNat_mul a b).symm
theorem uM_ix {i f : Nat} : ((74 : Int32) + (10 * nI i)) + nI f = nI (74 + 10 * i + f) := by
  show (nI 74 + nI 10 * nI i) + nI f = _
  rw [nI_mul, nI_add, nI_add]
theorem uM_iy {o f : Nat} : ((10 : Int32) + (8 * nI o)) + nI f = nI (10 + 8 * o + f) := by
  show (nI 10 + nI 8 * nI o) + nI f = _
  rw [nI_mul, nI_add, nI_add]
section MO
variable {v : V3} {i o f : Nat} {Q : Int32 → V3 → Prop} {P : V3 → Prop} {x : Int32}
theorem uM_of (hi : i < 40) (hf : f < 10) : w_X4_of (nI i) (nI f) v Q = Q (bf (v 8) i f) v := by
  unfold w_X4_of
  rw [uM_ix, show ix (nI (74 + 10 * i + f)) = 74 + 10 * i + f from nI_clamp (by omega)]
  exact propext ⟨fun h => h.2, fun h => ⟨vp_in_nI (by omega) (by decide), h⟩⟩
theorem uM_put (hi : i < 40) (hf : f < 10) : w_X4_put (nI i) (nI f) x v P = P (up2 v 8 (74 + 10 * i + f) x) := by
  unfold w_X4_put
  rw [uM_ix, show ix (nI (74 + 10 * i + f)) = 74 + 10 * i + f from nI_clamp (by omega)]
  exact propext ⟨fun h => h.2 _ rfl, fun h => ⟨vp_in_nI (by omega) (by decide), nm_e h⟩⟩
theorem uM_ofO (ho : o < 8) (hf : f < 8) : w_X4_ofOwner (nI o) (nI f) v Q = Q (og (v 8) o f) v := by
  unfold w_X4_ofOwner
  rw [uM_iy, show ix (nI (10 + 8 * o + f)) = 10 + 8 * o + f from nI_clamp (by omega)]
  exact propext ⟨fun h => h.2, fun h => ⟨vp_in_nI (by omega) (by decide), h⟩⟩
theorem uM_grow (ho : o < 8) (hf : f < 8) : w_X4_grow (nI o) (nI f) x v P = P (up2 v 8 (10 + 8 * o + f) (og (v 8) o f + x)) := by
  unfold w_X4_grow
  rw [uM_iy, show ix (nI (10 + 8 * o + f)) = 10 + 8 * o + f from nI_clamp (by omega)]
  exact propext ⟨fun h => h.2.2 _ rfl, fun h => ⟨vp_in_nI (by omega) (by decide), vp_in_nI (by omega) (by decide), nm_e h⟩⟩
theorem uM_of0 (hi : i < 40) : w_X4_of (nI i) 0 v Q = Q (bf (v 8) i 0) v := uM_of (f := 0) hi (by omega)
theorem uM_of1 (hi : i < 40) : w_X4_of (nI i) 1 v Q = Q (bf (v 8) i 1) v := uM_of (f := 1) hi (by omega)
theorem uM_of2 (hi : i < 40) : w_X4_of (nI i) 2 v Q = Q (bf (v 8) i 2) v := uM_of (f := 2) hi (by omega)
theorem uM_of3 (hi : i < 40) : w_X4_of (nI i) 3 v Q = Q (bf (v 8) i 3) v := uM_of (f := 3) hi (by omega)
theorem uM_of4 (hi : i < 40) : w_X4_of (nI i) 4 v Q = Q (bf (v 8) i 4) v := uM_of (f := 4) hi (by omega)
theorem uM_of5 (hi : i < 40) : w_X4_of (nI i) 5 v Q = Q (bf (v 8) i 5) v := uM_of (f := 5) hi (by omega)
theorem uM_of6 (hi : i < 40) : w_X4_of (nI i) 6 v Q = Q (bf (v 8) i 6) v := uM_of (f := 6) hi (by omega)
theorem uM_of7 (hi : i < 40) : w_X4_of (nI i) 7 v Q = Q (bf (v 8) i 7) v := uM_of (f := 7) hi (by omega)
theorem uM_of8 (hi : i < 40) : w_X4_of (nI i) 8 v Q = Q (bf (v 8) i 8) v := uM_of (f := 8) hi (by omega)
theorem uM_of9 (hi : i < 40) : w_X4_of (nI i) 9 v Q = Q (bf (v 8) i 9) v := uM_of (f := 9) hi (by omega)
theorem uM_oO0 (ho : o < 8) : w_X4_ofOwner (nI o) 0 v Q = Q (og (v 8) o 0) v := uM_ofO (f := 0) ho (by omega)
theorem uM_oO1 (ho : o < 8) : w_X4_ofOwner (nI o) 1 v Q = Q (og (v 8) o 1) v := uM_ofO (f := 1) ho (by omega)
theorem uM_oO2 (ho : o < 8) : w_X4_ofOwner (nI o) 2 v Q = Q (og (v 8) o 2) v := uM_ofO (f := 2) ho (by omega)
theorem uM_oO3 (ho : o < 8) : w_X4_ofOwner (nI o) 3 v Q = Q (og (v 8) o 3) v := uM_ofO (f := 3) ho (by omega)
theorem uM_btw {y lo hi : Int32} {a c : Int64} (ha : a = lo.toInt64) (hc : c = hi.toInt64) (h1 : ¬ y < lo → ¬ hi < y → Q 1 v) (h0 : (y < lo ∨ hi < y) → Q 0 v) : w_X4_isBetween y.toInt64 a c v Q := by
  have l1 : (lg_cmp y.toInt64 a < 0) ↔ y < lo := by rw [lg_cmp_lt, ha, Int64.lt_iff_toInt_lt, Int32.toInt_toInt64, Int32.toInt_toInt64, ti_lt]
  have l2 : (0 < lg_cmp y.toInt64 c) ↔ hi < y := by rw [lg_cmp_gt, hc, Int64.lt_iff_toInt_lt, Int32.toInt_toInt64, Int32.toInt_toInt64, ti_lt]
  refine br_c (fun h => ⟨.inl rfl, h0 (.inl (l1.mp h))⟩) (fun h => br_c (fun h' => ⟨.inl rfl, h0 (.inr (l2.mp h'))⟩) (fun h' => ⟨.inr rfl, h1 (fun q => h (l1.mpr q)) (fun q => h' (l2.mpr q))⟩))
theorem cnt_pred {n : Nat} (hn : n ≤ 1000) {y : Int32} : nI n - 1 < y ↔ nI n ≤ y := by
  rw [ti_lt, ti_le, ti_sub (by rw [ti_nI (by omega)]; have : (1 : Int32).toInt = 1 := rfl; omega) (by rw [ti_nI (by omega)]; have : (1 : Int32).toInt = 1 := rfl; omega), ti_nI (by omega)]
  have : (1 : Int32).toInt = 1 := rfl
  omega
/-- below a count -/
theorem uM_below {n : Nat} (hn : n ≤ 1000) {y : Int32} {c : Int32} (hc : c = nI n) (h1 : ∀ k : Nat, k < n → y = nI k → Q 1 v) (h0 : (y < 0 ∨ nI n ≤ y) → Q 0 v) : w_X4_isBetween y.toInt64 0 ((c - 1).toInt64) v Q := by
  subst hc
  refine uM_btw (lo := 0) (hi := nI n - 1) rfl rfl (fun a d => ?_) (fun h => h0 (h.elim .inl (fun q => .inr (cnt_pred hn |>.mp q))))
  rw [cnt_pred hn] at d
  obtain ⟨k, hk, rfl⟩ := nI_of a
  exact h1 k (Classical.byContradiction (fun q => d (nI_le (by omega) (by omega)))) rfl
theorem uM_live (hi : i < 40) (hQ : Q (if lvB (v 8) i = true then 1 else 0) v) : w_X4_isLive (nI i) v Q := by
  simp only [w_X4_isLive, uM_of7 hi]
  simp only [lvB, decide_eq_true_eq] at hQ
  refine ⟨fun h => ⟨.inr rfl, ?_⟩, fun h => ⟨fun h' => ⟨.inl rfl, ?_⟩, fun h' => ⟨.inr rfl, ?_⟩⟩⟩
  · rw [if_pos (.inl h)] at hQ; exact hQ
  · rw [if_neg (fun q => q.elim h h')] at hQ; exact hQ
  · rw [if_pos (.inr h')] at hQ; exact hQ
end MO
section MR
variable {v : V3} {n m : Nat} {Q : Int32 → V3 → Prop}
theorem uM_isOwner (hC : Cn (v 8) n m) {y : Int32} (h1 : ∀ k : Nat, k < m → y = nI k → Q 1 v) (h0 : (y < 0 ∨ nI m ≤ y) → Q 0 v) : w_X4_isOwner y v Q :=
  uM_below (by have := hC.2.1; omega) hC.1 (fun k hk e => ⟨.inr rfl, h1 k hk e⟩) (fun h => ⟨.inl rfl, h0 h⟩)
theorem uM_isBooking (hC : Cn (v 8) n m) {y : Int32} (h1 : ∀ k : Nat, k < n → y = nI k → Q 1 v) (h0 : (y < 0 ∨ nI n ≤ y) → Q 0 v) : w_X4_isBooking y v Q :=
  uM_below (by have := hC.2.2.2; omega) hC.2.2.1 (fun k hk e => ⟨.inr rfl, h1 k hk e⟩) (fun h => ⟨.inl rfl, h0 h⟩)
theorem uM_inState (hC : Cn (v 8) n m) {x : Int32} (hQ : Q (cntS (v 8) n x) v) : w_X4_inState x v Q := by
  obtain ⟨_, _, h6, hn⟩ := hC
  refine loop_sum (W := fun r a i => w_X4_inState_4 Q r x a (nI i) v) (Qf := fun a => Q a v) ?_ ?_ hQ
  · intro r a h
    rw [w_X4_inState_4, h6]
    exact br_t Int32.le_rfl h
  · intro r a i hi h
    simp only [w_X4_inState_4, h6, uM_of7 (show i < 40 by omega)]
    refine br_f (nx_le hi hn) ?_
    rw [nI_succ] at h
    refine ⟨fun h0 => ?_, fun h0 => ?_⟩
    · rw [if_neg h0] at h; exact h
    · rw [if_pos h0] at h; exact h
theorem uM_broken {o : Nat} (ho : o < 8) (hQ : Q (brk (v 8) o) v) : w_X4_broken (nI o) v Q := by
  simp only [w_X4_broken, uM_oO2 ho, uM_oO3 ho]
  exact hQ
/-- the states are 0 to 6 -/
def St (σ : Nat → Int32) (n : Nat) : Prop := ∀ i, i < n → ∃ s : Nat, s ≤ 6 ∧ bf σ i 7 = nI s
theorem act_le {σ : Nat → Int32} {n i : Nat} (hS : St σ n) (hi : i < n) : actB σ i = true ↔ ¬ 2 < bf σ i 7 := by
  obtain ⟨s, hs, e⟩ := hS i hi
  simp only [actB, decide_eq_true_eq, e]
  rw [show (0 : Int32) = nI 0 from rfl, show (1 : Int32) = nI 1 from rfl, show (2 : Int32) = nI 2 from rfl, nI_eq (by omega) (by omega), nI_eq (by omega) (by omega), nI_eq (by omega) (by omega), nI_ltI (by omega) (by omega)]
  omega
theorem uM_open (hC : Cn (v 8) n m) (hS : St (v 8) n) {o : Int32} (hQ : Q (opnS (v 8) n o) v) : w_X4_openBookings o v Q := by
  obtain ⟨_, _, h6, hn⟩ := hC
  refine loop_sum (W := fun r a i => w_X4_openBookings_4 Q r o a (nI i) v) (Qf := fun a => Q a v) ?_ ?_ hQ
  · intro r a h
    rw [w_X4_openBookings_4, h6]
    exact br_t Int32.le_rfl h
  · intro r a i hi h
    simp only [w_X4_openBookings_4, h6, uM_of7 (show i < 40 by omega), uM_of0 (show i < 40 by omega)]
    refine br_f (nx_le hi hn) ?_
    rw [nI_succ] at h
    by_cases h0 : bf (v 8) i 0 = o
    · refine ⟨fun q => absurd h0 q, fun _ => ?_⟩
      by_cases h1 : actB (v 8) i = true
      · rw [if_pos ⟨h0, h1⟩] at h
        exact br_f ((act_le hS hi).mp h1) h
      · rw [if_neg (fun q => h1 q.2)] at h
        exact br_t (Classical.byContradiction (fun q => h1 ((act_le hS hi).mpr q))) h
    · rw [if_neg (fun q => h0 q.1)] at h
      exact ⟨fun _ => h, fun q => absurd q h0⟩
theorem uM_joyOf {i : Nat} (hi : i < 40) {t : Int32} (hQ : Q (joyS (v 8) i t) v) : w_X4_joyOf (nI i) t v Q := by
  simp only [w_X4_joyOf, uM_of6 hi, uM_of4 hi]
  exact hQ
theorem uM_joyNow {i : Nat} (hi : i < 40) (hQ : Q (joyN (v 8) i) v) : w_X4_joyNow (nI i) v Q := by
  simp only [w_X4_joyNow, uM_of7 hi, uM_of8 hi]
  unfold joyN at hQ
  refine ⟨fun h => ?_, fun h => uM_joyOf hi ?_⟩
  · rw [if_neg h] at hQ; exact hQ
  · rw [if_pos h] at hQ; exact hQ
theorem uM_joys (hC : Cn (v 8) n m) {o : Int32} (hQ : Q (joyO (v 8) n o) v) : w_X4_joys o v Q := by
  obtain ⟨_, _, h6, hn⟩ := hC
  refine loop_sum (W := fun r a i => w_X4_joys_4 Q r o a (nI i) v) (Qf := fun a => Q a v) ?_ ?_ hQ
  · intro r a h
    rw [w_X4_joys_4, h6]
    exact br_t Int32.le_rfl h
  · intro r a i hi h
    simp only [w_X4_joys_4, h6, uM_of0 (show i < 40 by omega)]
    refine br_f (nx_le hi hn) ?_
    rw [nI_succ] at h
    refine ⟨fun h0 => ?_, fun h0 => uM_joyNow (by omega) ?_⟩
    · rw [if_neg h0] at h; exact h
    · rw [if_pos h0] at h; exact h
theorem uM_taken (hC : Cn (v 8) n m) {B : Int} (hE : Tm (v 8) n B) {x1 x2 x3 x4 x5 x6 : Int32} (hQ : Q (if clS (v 8) n x1 x2 x3 x4 x5 x6 = -1 then 0 else 1) v) : w_X4_isTaken x1 x2 x3 x4 x5 x6 v Q := by
  obtain ⟨_, _, h6, hn⟩ := hC
  refine loop_fst (W := fun r i => w_X4_isTaken_3 Q r x1 x2 x3 x4 x5 x6 (nI i) v) (p := clB (v 8) x1 x2 x3 x4 x5 x6) (Qf := fun a => Q (if a = -1 then 0 else 1) v) ?_ ?_ ?_ hQ
  · intro r h
    rw [w_X4_isTaken_3, h6]
    exact br_t Int32.le_rfl h
  · intro r i hi hp h
    have hi4 : i < 40 := by omega
    simp only [w_X4_isTaken_3, w_X4_isTaken_77, h6, uM_of1 hi4, uM_of2 hi4, uM_of8 hi4, uM_of9 hi4]
    refine br_f (nx_le hi hn) ?_
    obtain ⟨a, a5, a6, ⟨s1, s2⟩, t1, t2⟩ := clB_iff.mp hp
    rw [if_neg (nI_neg1 (by omega))] at h
    refine br_f s2 (br_f s1 (br_f (fun q => ?_) (br_f (fun q => ?_) (br_f a5 (br_f a6 (uM_live hi4 ?_))))))
    · have := ti_le.mp q; omega
    · have := ti_le.mp q; omega
    · rw [if_pos a]
      refine br_f (by decide) (br_f (by decide) (br_f (fun q => ?_) h))
      have := ti_le.mp q
      have := (hE.1 i hi a).2.1
      omega
  · intro r i hi hp h
    have hi4 : i < 40 := by omega
    have no : w_X4_isTaken_128 Q (w_X4_isTaken_3 Q r) x1 x2 x3 x4 x5 x6 (nI i) v := by rw [nI_succ] at h; exact h
    have g77 : ∀ s0 : Int32, (s0 = 0 ∨ ¬ s0 = 0) → (¬ s0 = 0 → spB (v 8) x1 x2 i ∧ (bf (v 8) i 8).toInt < x4.toInt ∧ x3.toInt < (bf (v 8) i 9).toInt) → w_X4_isTaken_77 Q (w_X4_isTaken_3 Q r) x1 x2 x3 x4 x5 x6 (nI i) s0 v := by
      intro s0 _ hs
      simp only [w_X4_isTaken_77, uM_of8 hi4, uM_of9 hi4]
      refine br_c (fun _ => no) (fun a5 => br_c (fun _ => no) (fun a6 => uM_live hi4 ?_))
      by_cases a : lvB (v 8) i = true
      · rw [if_pos a]
        refine br_f (by decide) (br_c (fun _ => no) (fun q => ?_))
        obtain ⟨c1, c2, c3⟩ := hs q
        have := clB_iff.mpr ⟨a, a5, a6, c1, c2, c3⟩
        rw [hp] at this
        exact absurd this (by decide)
      · rw [if_neg a]
        exact br_t rfl no
    have g76 : w_X4_isTaken_76 Q (w_X4_isTaken_3 Q r) x1 x2 x3 x4 x5 x6 (nI i) v := g77 0 (.inl rfl) (fun q => absurd rfl q)
    simp only [w_X4_isTaken_3, h6, uM_of1 hi4, uM_of2 hi4, uM_of8 hi4, uM_of9 hi4]
    refine br_f (nx_le hi hn) (br_c (fun _ => g76) (fun s2 => br_c (fun _ => g76) (fun s1 => br_c (fun _ => g76) (fun t2 => br_c (fun _ => g76) (fun t1 => g77 1 (.inr (by decide)) (fun _ => ⟨⟨s1, s2⟩, ?_, ?_⟩))))))
    · exact Classical.byContradiction (fun q => t1 (ti_le.mpr (by omega)))
    · exact Classical.byContradiction (fun q => t2 (ti_le.mpr (by omega)))
theorem uM_fits (hC : Cn (v 8) n m) {B : Int} (hE : Tm (v 8) n B) {i : Nat} (hi : i < n) {t x : Int32} (hQ : Q (if (!decide (t < v 8 7) && decide (clS (v 8) n (bf (v 8) i 1) (bf (v 8) i 2) t (t + bf (v 8) i 3) (nI i) x = -1)) = true then 1 else 0) v) : w_X4_fitsAt (nI i) t x v Q := by
  have hi4 : i < 40 := by have := hC.2.2.2; omega
  simp only [w_X4_fitsAt, uM_of1 hi4, uM_of2 hi4, uM_of3 hi4]
  refine br_c (fun h => ⟨.inl rfl, ?_⟩) (fun h => uM_taken hC hE ?_)
  · rw [if_neg (by simp [h])] at hQ; exact hQ
  · by_cases g : clS (v 8) n (bf (v 8) i 1) (bf (v 8) i 2) t (t + bf (v 8) i 3) (nI i) x = -1
    · rw [if_pos (by simp [h, g])] at hQ
      rw [if_pos g]
      exact ⟨fun q => absurd rfl q, fun _ => ⟨.inr rfl, hQ⟩⟩
    · rw [if_neg (by simp [g])] at hQ
      rw [if_neg g]
      exact ⟨fun _ => ⟨.inl rfl, hQ⟩, fun q => absurd q (by decide)⟩
theorem uM_fitB (hC : Cn (v 8) n m) {B : Int} (hE : Tm (v 8) n B) {i : Nat} (hi : i < n) {t : Int32} (h1 : fitB (v 8) n i t = true → Q 1 v) (h0 : ¬ fitB (v 8) n i t = true → Q 0 v) : w_X4_fitsAt (nI i) t (-1) v Q := by
  refine uM_fits hC hE hi ?_
  have g : Q (if fitB (v 8) n i t = true then 1 else 0) v := by
    by_cases h : fitB (v 8) n i t = true
    · rw [if_pos h]; exact h1 h
    · rw [if_neg h]; exact h0 h
  exact g
theorem uM_best (hC : Cn (v 8) n m) {B : Int} (hE : Tm (v 8) n B) {i : Nat} (hi : i < n) (hr : Rg (v 8) i) (hQ : Q (bstS (v 8) n i) v) : w_X4_bestTime (nI i) v Q := by
  have hi4 : i < 40 := by have := hC.2.2.2; omega
  obtain ⟨F, f1, f2, f3, f4⟩ := flex_nI (x := bf (v 8) i 5) hr.2.2.2.2.1 (by have := hr.2.2.2.2.2; omega)
  simp only [w_X4_bestTime, uM_of4 hi4]
  have key : ∀ k c, c + k = F + 1 → Q (bscan (fitB (v 8) n i) (bf (v 8) i 4) k (nI c)) v → w_X4_bestTime_9 Q (k + 1) (nI i) (bf (v 8) i 4) (nI c) v := by
    intro k
    induction k with
    | zero =>
      intro c e h
      simp only [w_X4_bestTime_9, uM_of5 hi4]
      rw [f1]
      exact br_t (nI_lt (by omega) (by omega)) h
    | succ k ih =>
      intro c e h
      simp only [w_X4_bestTime_9, uM_of5 hi4]
      rw [f1]
      refine br_f (nI_nlt (by omega) (by omega)) ?_
      have plus : ¬ (¬ bf (v 8) i 4 - nI c < 0 ∧ fitB (v 8) n i (bf (v 8) i 4 - nI c) = true) → w_X4_bestTime_41 Q (w_X4_bestTime_9 Q (k + 1)) (nI i) (bf (v 8) i 4) (nI c) v := fun h1 => by
        rw [bscan, if_neg h1] at h
        refine uM_fitB hC hE hi (fun h2 => ?_) (fun h2 => ?_)
        · rw [if_pos h2] at h
          exact br_f (by decide) h
        · rw [if_neg h2] at h
          refine br_t rfl ?_
          rw [← nI_succ] at h ⊢
          exact ih (c + 1) (by omega) h
      refine br_c (fun h1 => plus (fun q => q.1 h1)) (fun h1 => uM_fitB hC hE hi (fun h2 => ?_) (fun h2 => ?_))
      · rw [bscan, if_pos ⟨h1, h2⟩] at h
        exact br_f (by decide) h
      · exact br_t rfl (plus (fun q => h2 q.2))
  refine ⟨F + 2, key (F + 1) 0 (by omega) ?_⟩
  unfold bstS at hQ
  rw [f3] at hQ
  exact hQ
end MR
