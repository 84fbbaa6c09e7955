/-! PURE LEVEL 2: clashes, earliest and latest fits, the best time -/

def spB (σ : Nat → Int32) (x1 x2 : Int32) (i : Nat) : Prop := ¬ x1 + x2 ≤ bf σ i 1 ∧ ¬ bf σ i 1 + bf σ i 2 ≤ x1
theorem clB_iff {σ : Nat → Int32} {x1 x2 x3 x4 x5 x6 : Int32} {j : Nat} : clB σ x1 x2 x3 x4 x5 x6 j = true ↔ lvB σ j = true ∧ ¬ nI j = x5 ∧ ¬ nI j = x6 ∧ spB σ x1 x2 j ∧ (bf σ j 8).toInt < x4.toInt ∧ x3.toInt < (bf σ j 9).toInt := by
  simp only [clB, hitB, spB, Bool.and_eq_true, Bool.not_eq_true', decide_eq_false_iff_not, decide_eq_true_eq, ti_le, Int.not_le]
  exact ⟨fun ⟨⟨⟨a, b⟩, c⟩, d, e, f, g⟩ => ⟨a, b, c, ⟨d, e⟩, f, g⟩, fun ⟨a, b, c, ⟨d, e⟩, f, g⟩ => ⟨⟨⟨a, b⟩, c⟩, d, e, f, g⟩⟩
section CS
variable {σ : Nat → Int32} {n : Nat} {x1 x2 x3 x4 x5 x6 : Int32}
theorem clS_cases (hn : n ≤ 40) : (clS σ n x1 x2 x3 x4 x5 x6 = -1 ∧ ∀ j, j < n → clB σ x1 x2 x3 x4 x5 x6 j = false) ∨ (∃ j, j < n ∧ clS σ n x1 x2 x3 x4 x5 x6 = nI j ∧ ¬ clS σ n x1 x2 x3 x4 x5 x6 = -1 ∧ clB σ x1 x2 x3 x4 x5 x6 j = true) := by
  rcases fstI_spec (p := clB σ x1 x2 x3 x4 x5 x6) n 0 with ⟨h1, h2⟩ | ⟨j, _, h2, h3, h4, _⟩
  · exact .inl ⟨h1, fun j hj => h2 j (by omega) (by omega)⟩
  · exact .inr ⟨j, by omega, h3, fun h => nI_neg1 (i := j) (by omega) (h3.symm.trans h), h4⟩
theorem clS_no (hn : n ≤ 40) (h : ∀ j, j < n → clB σ x1 x2 x3 x4 x5 x6 j = false) : clS σ n x1 x2 x3 x4 x5 x6 = -1 := by
  rcases clS_cases (σ := σ) (x1 := x1) (x2 := x2) (x3 := x3) (x4 := x4) (x5 := x5) (x6 := x6) hn with h1 | ⟨j, h1, _, _, h4⟩
  · exact h1.1
  · rw [h j h1] at h4; exact absurd h4 (by decide)
end CS
/-- a live booking meets a span at the times from t on -/
def hitI (σ : Nat → Int32) (n : Nat) (x1 x2 : Int32) (D t : Int) : Prop := ∃ j, j < n ∧ lvB σ j = true ∧ spB σ x1 x2 j ∧ (bf σ j 8).toInt < t + D ∧ t < (bf σ j 9).toInt
/-- the times of live bookings -/
def Tm (σ : Nat → Int32) (n : Nat) (B : Int) : Prop := (∀ j, j < n → lvB σ j = true → 0 ≤ (bf σ j 8).toInt ∧ (bf σ j 8).toInt < (bf σ j 9).toInt ∧ (bf σ j 9).toInt ≤ B) ∧ B ≤ 1000000
theorem neg1_I : (-1 : Int32).toInt = -1 := rfl
theorem cl_hit {σ : Nat → Int32} {n : Nat} {x1 x2 t x3 : Int32} (hn : n ≤ 40) (h1 : -2000000 ≤ t.toInt ∧ t.toInt ≤ 2000000) (h2 : 0 ≤ x3.toInt ∧ x3.toInt ≤ 1000) : (clS σ n x1 x2 t (t + x3) (-1) (-1) = -1 ∧ ¬ hitI σ n x1 x2 x3.toInt t.toInt) ∨ (∃ j, j < n ∧ clS σ n x1 x2 t (t + x3) (-1) (-1) = nI j ∧ ¬ clS σ n x1 x2 t (t + x3) (-1) (-1) = -1 ∧ lvB σ j = true ∧ spB σ x1 x2 j ∧ (bf σ j 8).toInt < t.toInt + x3.toInt ∧ t.toInt < (bf σ j 9).toInt) := by
  have e : (t + x3).toInt = t.toInt + x3.toInt := ti_add (by omega) (by omega)
  rcases clS_cases (σ := σ) (x1 := x1) (x2 := x2) (x3 := t) (x4 := t + x3) (x5 := -1) (x6 := -1) hn with ⟨h, h0⟩ | ⟨j, hj, h, h', h0⟩
  · refine .inl ⟨h, fun ⟨j, hj, a, b, c, d⟩ => ?_⟩
    have h9 := h0 j hj
    have h8 := (clB_iff (σ := σ) (x1 := x1) (x2 := x2) (x3 := t) (x4 := t + x3) (x5 := -1) (x6 := -1) (j := j)).mpr ⟨a, nI_neg1 (by omega), nI_neg1 (by omega), b, by rw [e]; exact c, d⟩
    rw [h9] at h8
    exact absurd h8 (by decide)
  · obtain ⟨a, _, _, b, c, d⟩ := clB_iff.mp h0
    rw [e] at c
    exact .inr ⟨j, hj, h, h', a, b, c, d⟩
/-- how many -/
def cntN (p : Nat → Bool) : Nat → Nat
  | 0 => 0
  | k + 1 => cntN p k + (if p k = true then 1 else 0)
theorem cntN_le (p : Nat → Bool) : ∀ k, cntN p k ≤ k := by
  intro k
  induction k with
  | zero => exact Nat.le_refl 0
  | succ k ih => rw [cntN]; split <;> omega
theorem cntN_mono {p q : Nat → Bool} : ∀ k, (∀ j, j < k → p j = true → q j = true) → cntN p k ≤ cntN q k := by
  intro k
  induction k with
  | zero => intro _; exact Nat.le_refl 0
  | succ k ih =>
    intro h
    have h1 := ih (fun j hj => h j (by omega))
    have h2 := h k (by omega)
    rw [cntN, cntN]
    by_cases hp : p k = true
    · rw [if_pos hp, if_pos (h2 hp)]; omega
    · rw [if_neg hp]; omega
theorem cntN_lt {p q : Nat → Bool} : ∀ k, (∀ j, j < k → p j = true → q j = true) → ∀ j, j < k → p j = false → q j = true → cntN p k + 1 ≤ cntN q k := by
  intro k
  induction k with
  | zero => intro _ j hj; omega
  | succ k ih =>
    intro h j hj hp hq
    rw [cntN, cntN]
    by_cases e : j = k
    · subst e
      have h1 := cntN_mono (p := p) (q := q) j (fun i hi => h i (by omega))
      rw [if_neg (by rw [hp]; decide), if_pos hq]
      omega
    · have h1 := ih (fun i hi => h i (by omega)) j (by omega) hp hq
      have h2 := h k (by omega)
      by_cases hk : p k = true
      · rw [if_pos hk, if_pos (h2 hk)]; omega
      · rw [if_neg hk]; omega
/-- what the earliest and the latest fit are -/
def EaS (σ : Nat → Int32) (n : Nat) (x1 x2 : Int32) (D a z : Int) (r : Int32) : Prop := (r = -1 ∧ ∀ t : Int, a ≤ t → t ≤ z → hitI σ n x1 x2 D t) ∨ (a ≤ r.toInt ∧ r.toInt ≤ z ∧ ¬ hitI σ n x1 x2 D r.toInt ∧ ∀ t : Int, a ≤ t → t < r.toInt → hitI σ n x1 x2 D t)
def LaS (σ : Nat → Int32) (n : Nat) (x1 x2 : Int32) (D a z : Int) (r : Int32) : Prop := (r = -1 ∧ ∀ t : Int, a ≤ t → t ≤ z → hitI σ n x1 x2 D t) ∨ (a ≤ r.toInt ∧ r.toInt ≤ z ∧ ¬ hitI σ n x1 x2 D r.toInt ∧ ∀ t : Int, r.toInt < t → t ≤ z → hitI σ n x1 x2 D t)
theorem zmax_I (x y : Int32) : (zmax x y).toInt = max x.toInt y.toInt := by
  unfold zmax
  by_cases h : x < y
  · rw [if_pos h]
    have := ti_lt.mp h
    omega
  · rw [if_neg h]
    have h2 : ¬ x.toInt < y.toInt := fun h3 => h (ti_lt.mpr h3)
    omega
theorem zmin_I (x y : Int32) : (zmin x y).toInt = min x.toInt y.toInt := by
  unfold zmin
  by_cases h : y < x
  · rw [if_pos h]
    have := ti_lt.mp h
    omega
  · rw [if_neg h]
    have h2 : ¬ y.toInt < x.toInt := fun h3 => h (ti_lt.mpr h3)
    omega
section EL
variable {v : V3} {b n m : Nat} {σ : Nat → Int32} {Q : Int32 → V3 → Prop}
theorem uC_early (hL : LA v b σ n m) (hn : n ≤ 40) {B : Int} (hE : Tm σ n B) {x1 x2 x3 x4 x5 : Int32} (h3 : 0 ≤ x3.toInt ∧ x3.toInt ≤ 1000) (h4 : x4.toInt ≤ 1000000) (hT : 0 ≤ (σ 7).toInt ∧ (σ 7).toInt ≤ 1000000) (hQ : ∀ r, EaS σ n x1 x2 x3.toInt (max x4.toInt (σ 7).toInt) x5.toInt r → Q r v) : w_X1_earliestFit b x1 x2 x3 x4 x5 v Q := by
  have key : ∀ k met (beg : Int32), met + k = n + 1 → 0 ≤ beg.toInt ∧ beg.toInt ≤ 1000000 → max x4.toInt (σ 7).toInt ≤ beg.toInt → (∀ t : Int, max x4.toInt (σ 7).toInt ≤ t → t < beg.toInt → hitI σ n x1 x2 x3.toInt t) → cntN (fun j => lvB σ j && decide (beg.toInt < (bf σ j 9).toInt)) n + met ≤ n → w_X1_earliestFit_14 b Q (k + 1) x1 x2 x3 x5 beg (nI met) v := by
    intro k
    induction k with
    | zero => intro met beg e _ _ _ hc; omega
    | succ k ih =>
      intro met beg e hb ha hh hc
      rw [w_X1_earliestFit_14, hL.n8]
      refine br_f (nI_nlt (by omega) (by omega)) ?_
      refine br_c (fun h5 => ?_) (fun h5 => ?_)
      · have h6 := ti_lt.mp h5
        exact hQ (-1) (.inl ⟨rfl, fun t t1 t2 => hh t t1 (by omega)⟩)
      · have h6 : ¬ x5.toInt < beg.toInt := fun h => h5 (ti_lt.mpr h)
        refine uC_clash hL hn ?_
        rcases cl_hit (σ := σ) (x1 := x1) (x2 := x2) (t := beg) (x3 := x3) hn (by omega) h3 with ⟨g, g2⟩ | ⟨j, hj, g, g', gl, gs, g8, g9⟩
        · refine ⟨fun h => absurd g h, fun _ => hQ beg (.inr ⟨ha, by omega, g2, hh⟩)⟩
        · refine ⟨fun _ => ?_, fun h => absurd h g'⟩
          rw [g, nx_ix hj hn, hL.bk hj 9 (by omega), ← nI_succ]
          refine ⟨nx_in hj hn, ?_⟩
          have ht := hE.1 j hj gl
          have hB := hE.2
          refine ih (met + 1) _ (by omega) ⟨by omega, by omega⟩ (by omega) ?_ ?_
          · intro t t1 t2
            by_cases h7 : t < beg.toInt
            · exact hh t t1 h7
            · exact ⟨j, hj, gl, gs, by omega, t2⟩
          · have h8 := cntN_lt (p := fun i => lvB σ i && decide ((bf σ j 9).toInt < (bf σ i 9).toInt)) (q := fun i => lvB σ i && decide (beg.toInt < (bf σ i 9).toInt)) n (fun i hi hp => by
              simp only [Bool.and_eq_true, decide_eq_true_eq] at hp ⊢
              exact ⟨hp.1, by omega⟩) j hj (by simp) (by simp only [Bool.and_eq_true, decide_eq_true_eq]; exact ⟨gl, g9⟩)
            omega
  refine ⟨n + 2, ?_⟩
  rw [hL.tm]
  refine key (n + 1) 0 _ (by omega) ⟨?_, ?_⟩ ?_ ?_ ?_
  · rw [zmax_I]; omega
  · rw [zmax_I]; omega
  · rw [zmax_I]; omega
  · intro t t1 t2; rw [zmax_I] at t2; omega
  · have := cntN_le (fun j => lvB σ j && decide ((zmax x4 (σ 7)).toInt < (bf σ j 9).toInt)) n
    omega
theorem uC_late (hL : LA v b σ n m) (hn : n ≤ 40) {B : Int} (hE : Tm σ n B) {x1 x2 x3 x4 x5 : Int32} (h3 : 0 ≤ x3.toInt ∧ x3.toInt ≤ 1000) (h5 : -1000000 ≤ x5.toInt ∧ x5.toInt ≤ 1000000) (hT : 0 ≤ (σ 7).toInt ∧ (σ 7).toInt ≤ 1000000) (hQ : ∀ r, LaS σ n x1 x2 x3.toInt (max x4.toInt (σ 7).toInt) x5.toInt r → Q r v) : w_X1_latestFit b x1 x2 x3 x4 x5 v Q := by
  have key : ∀ k met (beg : Int32), met + k = n + 1 → -1000000 ≤ beg.toInt ∧ beg.toInt ≤ 1000000 → beg.toInt ≤ x5.toInt → (∀ t : Int, beg.toInt < t → t ≤ x5.toInt → hitI σ n x1 x2 x3.toInt t) → cntN (fun j => lvB σ j && decide ((bf σ j 8).toInt < beg.toInt + x3.toInt)) n + met ≤ n → w_X1_latestFit_18 b Q (k + 1) x1 x2 x3 (zmax x4 (σ 7)) beg (nI met) v := by
    intro k
    induction k with
    | zero => intro met beg e _ _ _ hc; omega
    | succ k ih =>
      intro met beg e hb ha hh hc
      rw [w_X1_latestFit_18, hL.n8]
      refine br_f (nI_nlt (by omega) (by omega)) ?_
      refine br_c (fun h6 => ?_) (fun h6 => ?_)
      · have h7 := ti_lt.mp h6
        rw [zmax_I] at h7
        exact hQ (-1) (.inl ⟨rfl, fun t t1 t2 => hh t (by omega) t2⟩)
      · have h7 : ¬ beg.toInt < (zmax x4 (σ 7)).toInt := fun h => h6 (ti_lt.mpr h)
        rw [zmax_I] at h7
        refine uC_clash hL hn ?_
        rcases cl_hit (σ := σ) (x1 := x1) (x2 := x2) (t := beg) (x3 := x3) hn (by omega) h3 with ⟨g, g2⟩ | ⟨j, hj, g, g', gl, gs, g8, g9⟩
        · refine ⟨fun h => absurd g h, fun _ => hQ beg (.inr ⟨by omega, ha, g2, hh⟩)⟩
        · refine ⟨fun _ => ?_, fun h => absurd h g'⟩
          rw [g, nx_ix hj hn, hL.bk hj 8 (by omega), ← nI_succ]
          refine ⟨nx_in hj hn, ?_⟩
          have ht := hE.1 j hj gl
          have hB := hE.2
          have e8 : (bf σ j 8 - x3).toInt = (bf σ j 8).toInt - x3.toInt := ti_sub (by omega) (by omega)
          refine ih (met + 1) _ (by omega) ⟨by rw [e8]; omega, by rw [e8]; omega⟩ (by rw [e8]; omega) ?_ ?_
          · intro t t1 t2
            rw [e8] at t1
            by_cases h8 : beg.toInt < t
            · exact hh t h8 t2
            · exact ⟨j, hj, gl, gs, by omega, by omega⟩
          · rw [e8]
            have h8 := cntN_lt (p := fun i => lvB σ i && decide ((bf σ i 8).toInt < (bf σ j 8).toInt - x3.toInt + x3.toInt)) (q := fun i => lvB σ i && decide ((bf σ i 8).toInt < beg.toInt + x3.toInt)) n (fun i hi hp => by
              simp only [Bool.and_eq_true, decide_eq_true_eq] at hp ⊢
              exact ⟨hp.1, by omega⟩) j hj (by simp only [Bool.and_eq_false_iff, decide_eq_false_iff_not]; right; omega) (by simp only [Bool.and_eq_true, decide_eq_true_eq]; exact ⟨gl, g8⟩)
            omega
  refine ⟨n + 2, ?_⟩
  rw [hL.tm]
  refine key (n + 1) 0 _ (by omega) h5 (Int.le_refl _) (fun t t1 t2 => by omega) ?_
  have := cntN_le (fun j => lvB σ j && decide ((bf σ j 8).toInt < x5.toInt + x3.toInt)) n
  omega
end EL
/-- the best time of a waiting booking, as it is looked for step by step -/
def fitB (σ : Nat → Int32) (n i : Nat) (t : Int32) : Bool := !decide (t < σ 7) && decide (clS σ n (bf σ i 1) (bf σ i 2) t (t + bf σ i 3) (nI i) (-1) = -1)
def bscan (p : Int32 → Bool) (w : Int32) : Nat → Int32 → Int32
  | 0, _ => -1
  | k + 1, y => if ¬ w - y < 0 ∧ p (w - y) = true then w - y else if p (w + y) = true then w + y else bscan p w k (y + 1)
def bstS (σ : Nat → Int32) (n i : Nat) : Int32 := bscan (fitB σ n i) (bf σ i 4) ((bf σ i 5).toNatClampNeg + 1) (nI 0)
theorem bscan_spec (p : Int32 → Bool) (w : Int32) : ∀ k c, (bscan p w k (nI c) = -1 ∧ ∀ d, c ≤ d → d < c + k → ¬ (¬ w - nI d < 0 ∧ p (w - nI d) = true) ∧ ¬ p (w + nI d) = true) ∨ (∃ d, c ≤ d ∧ d < c + k ∧ (∀ d', c ≤ d' → d' < d → ¬ (¬ w - nI d' < 0 ∧ p (w - nI d') = true) ∧ ¬ p (w + nI d') = true) ∧ (((¬ w - nI d < 0 ∧ p (w - nI d) = true) ∧ bscan p w k (nI c) = w - nI d) ∨ (¬ (¬ w - nI d < 0 ∧ p (w - nI d) = true) ∧ p (w + nI d) = true ∧ bscan p w k (nI c) = w + nI d))) := by
  intro k
  induction k with
  | zero => intro c; exact .inl ⟨rfl, fun d h1 h2 => by omega⟩
  | succ k ih =>
    intro c
    by_cases h1 : ¬ w - nI c < 0 ∧ p (w - nI c) = true
    · exact .inr ⟨c, by omega, by omega, fun d' a b => by omega, .inl ⟨h1, by rw [bscan, if_pos h1]⟩⟩
    by_cases h2 : p (w + nI c) = true
    · exact .inr ⟨c, by omega, by omega, fun d' a b => by omega, .inr ⟨h1, h2, by rw [bscan, if_neg h1, if_pos h2]⟩⟩
    have e : bscan p w (k + 1) (nI c) = bscan p w k (nI (c + 1)) := by rw [bscan, if_neg h1, if_neg h2, nI_succ]
    rw [e]
    rcases ih (c + 1) with ⟨g1, g2⟩ | ⟨d, g1, g2, g3, g4⟩
    · refine .inl ⟨g1, fun d a b => ?_⟩
      by_cases hd : d = c
      · subst hd; exact ⟨h1, h2⟩
      · exact g2 d (by omega) (by omega)
    · refine .inr ⟨d, by omega, by omega, fun d' a b => ?_, g4⟩
      by_cases hd : d' = c
      · subst hd; exact ⟨h1, h2⟩
      · exact g3 d' (by omega) b
/-- what the best time is -/
def BT (σ : Nat → Int32) (n i : Nat) (r : Int32) : Prop :=
  (r = -1 ∧ ∀ t : Int, (σ 7).toInt ≤ t → (bf σ i 4).toInt - (bf σ i 5).toInt ≤ t → t ≤ (bf σ i 4).toInt + (bf σ i 5).toInt → hitI σ n (bf σ i 1) (bf σ i 2) ((bf σ i 3).toInt) t) ∨
  (((σ 7).toInt ≤ r.toInt ∧ (bf σ i 4).toInt - (bf σ i 5).toInt ≤ r.toInt ∧ r.toInt ≤ (bf σ i 4).toInt + (bf σ i 5).toInt ∧ ¬ hitI σ n (bf σ i 1) (bf σ i 2) ((bf σ i 3).toInt) r.toInt) ∧ ∀ t : Int, (σ 7).toInt ≤ t → (bf σ i 4).toInt - (bf σ i 5).toInt ≤ t → t ≤ (bf σ i 4).toInt + (bf σ i 5).toInt → ¬ hitI σ n (bf σ i 1) (bf σ i 2) ((bf σ i 3).toInt) t → (r.toInt - (bf σ i 4).toInt).natAbs < (t - (bf σ i 4).toInt).natAbs ∨ ((r.toInt - (bf σ i 4).toInt).natAbs = (t - (bf σ i 4).toInt).natAbs ∧ r.toInt ≤ t))
theorem BT_un {σ : Nat → Int32} {n i : Nat} {r r' : Int32} (h : BT σ n i r) (h' : BT σ n i r') : r = r' := by
  rcases h with ⟨h1, h2⟩ | ⟨⟨a1, a2, a3, a4⟩, a5⟩
  · rcases h' with ⟨g1, g2⟩ | ⟨⟨b1, b2, b3, b4⟩, b5⟩
    · rw [h1, g1]
    · exact absurd (h2 _ b1 b2 b3) b4
  · rcases h' with ⟨g1, g2⟩ | ⟨⟨b1, b2, b3, b4⟩, b5⟩
    · exact absurd (g2 _ a1 a2 a3) a4
    · have h1 := a5 _ b1 b2 b3 b4
      have h2 := b5 _ a1 a2 a3 a4
      refine ti_eq.mpr ?_
      omega
/-- the ranges of a booking's numbers -/
def Rg (σ : Nat → Int32) (i : Nat) : Prop := 1 ≤ (bf σ i 3).toInt ∧ (bf σ i 3).toInt ≤ 99 ∧ 0 ≤ (bf σ i 4).toInt ∧ (bf σ i 4).toInt ≤ 9999 ∧ 0 ≤ (bf σ i 5).toInt ∧ (bf σ i 5).toInt ≤ 99
theorem fitB_iff {σ : Nat → Int32} {n i : Nat} {t : Int32} (hn : n ≤ 40) (hi : i < n) (hr : Rg σ i) (hl : lvB σ i = false) (ht : -2000000 ≤ t.toInt ∧ t.toInt ≤ 2000000) : fitB σ n i t = true ↔ (σ 7).toInt ≤ t.toInt ∧ ¬ hitI σ n (bf σ i 1) (bf σ i 2) ((bf σ i 3).toInt) t.toInt := by
  simp only [fitB, Bool.and_eq_true, Bool.not_eq_true', decide_eq_false_iff_not, decide_eq_true_eq, ti_lt, Int.not_lt]
  have e : clS σ n (bf σ i 1) (bf σ i 2) t (t + bf σ i 3) (nI i) (-1) = -1 ↔ clS σ n (bf σ i 1) (bf σ i 2) t (t + bf σ i 3) (-1) (-1) = -1 := by
    constructor
    · intro h
      rcases clS_cases (σ := σ) (x1 := bf σ i 1) (x2 := bf σ i 2) (x3 := t) (x4 := t + bf σ i 3) (x5 := nI i) (x6 := -1) hn with h1 | ⟨j, _, _, h3, _⟩
      · refine clS_no hn (fun j hj => ?_)
        cases hc : clB σ (bf σ i 1) (bf σ i 2) t (t + bf σ i 3) (-1) (-1) j with
        | false => rfl
        | true =>
          obtain ⟨a, a2, a3, a4, a5⟩ := clB_iff.mp hc
          have h9 := h1.2 j hj
          have h8 := (clB_iff (σ := σ) (x1 := bf σ i 1) (x2 := bf σ i 2) (x3 := t) (x4 := t + bf σ i 3) (x5 := nI i) (x6 := -1) (j := j)).mpr ⟨a, fun h => by
            have hji := (nI_eq (by omega) (by omega)).mp h
            rw [hji] at a; rw [a] at hl; exact absurd hl (by decide), a3, a4, a5⟩
          rw [h9] at h8
          exact absurd h8 (by decide)
      · exact absurd h h3
    · intro h
      rcases clS_cases (σ := σ) (x1 := bf σ i 1) (x2 := bf σ i 2) (x3 := t) (x4 := t + bf σ i 3) (x5 := -1) (x6 := -1) hn with h1 | ⟨j, _, _, h3, _⟩
      · refine clS_no hn (fun j hj => ?_)
        cases hc : clB σ (bf σ i 1) (bf σ i 2) t (t + bf σ i 3) (nI i) (-1) j with
        | false => rfl
        | true =>
          obtain ⟨a, a2, a3, a4, a5⟩ := clB_iff.mp hc
          have h9 := h1.2 j hj
          have h8 := (clB_iff (σ := σ) (x1 := bf σ i 1) (x2 := bf σ i 2) (x3 := t) (x4 := t + bf σ i 3) (x5 := -1) (x6 := -1) (j := j)).mpr ⟨a, nI_neg1 (by omega), a3, a4, a5⟩
          rw [h9] at h8
          exact absurd h8 (by decide)
      · exact absurd h h3
  rw [e]
  have hr2 := hr.2.1
  have hr1 := hr.1
  rcases cl_hit (σ := σ) (x1 := bf σ i 1) (x2 := bf σ i 2) (t := t) (x3 := bf σ i 3) hn ht ⟨by omega, by omega⟩ with ⟨g, g2⟩ | ⟨j, hj, g, g', gl, gs, g8, g9⟩
  · exact ⟨fun h => ⟨h.1, g2⟩, fun h => ⟨h.1, g⟩⟩
  · exact ⟨fun h => absurd h.2 g', fun h => absurd ⟨j, hj, gl, gs, g8, g9⟩ h.2⟩
theorem flex_nI {x : Int32} (h0 : 0 ≤ x.toInt) (h1 : x.toInt ≤ 1000000) : ∃ k : Nat, x = nI k ∧ (k : Int) = x.toInt ∧ x.toNatClampNeg = k ∧ k ≤ 1000000 := by
  refine ⟨x.toInt.toNat, ti_eq.mpr ?_, by omega, rfl, by omega⟩
  rw [ti_nI (by omega)]
  omega
theorem bst_BT {σ : Nat → Int32} {n i : Nat} (hn : n ≤ 40) (hi : i < n) (hr : Rg σ i) (hl : lvB σ i = false) (hT : 0 ≤ (σ 7).toInt) : BT σ n i (bstS σ n i) := by
  obtain ⟨r1, r2, r3, r4, r5, r6⟩ := hr
  have hr : Rg σ i := ⟨r1, r2, r3, r4, r5, r6⟩
  obtain ⟨F, f1, f2, f3, f4⟩ := flex_nI (x := bf σ i 5) (by omega) (by omega)
  have em : ∀ d : Nat, d ≤ F → (bf σ i 4 - nI d).toInt = (bf σ i 4).toInt - d := fun d hd => by
    rw [ti_sub (by rw [ti_nI (by omega)]; omega) (by rw [ti_nI (by omega)]; omega), ti_nI (by omega)]
  have ep : ∀ d : Nat, d ≤ F → (bf σ i 4 + nI d).toInt = (bf σ i 4).toInt + d := fun d hd => by
    rw [ti_add (by rw [ti_nI (by omega)]; omega) (by rw [ti_nI (by omega)]; omega), ti_nI (by omega)]
  have e0 : (0 : Int32).toInt = 0 := rfl
  have pm : ∀ d : Nat, d ≤ F → ((¬ bf σ i 4 - nI d < 0 ∧ fitB σ n i (bf σ i 4 - nI d) = true) ↔ ((σ 7).toInt ≤ (bf σ i 4).toInt - d ∧ ¬ hitI σ n (bf σ i 1) (bf σ i 2) (bf σ i 3).toInt ((bf σ i 4).toInt - d))) := fun d hd => by
    rw [fitB_iff hn hi hr hl (by rw [em d hd]; omega), em d hd, ti_lt, em d hd, e0]
    exact ⟨fun h => h.2, fun h => ⟨by omega, h⟩⟩
  have pp : ∀ d : Nat, d ≤ F → (fitB σ n i (bf σ i 4 + nI d) = true ↔ ((σ 7).toInt ≤ (bf σ i 4).toInt + d ∧ ¬ hitI σ n (bf σ i 1) (bf σ i 2) (bf σ i 3).toInt ((bf σ i 4).toInt + d))) := fun d hd => by
    rw [fitB_iff hn hi hr hl (by rw [ep d hd]; omega), ep d hd]
  have none : ∀ d : Nat, d ≤ F → (¬ (¬ bf σ i 4 - nI d < 0 ∧ fitB σ n i (bf σ i 4 - nI d) = true) ∧ ¬ fitB σ n i (bf σ i 4 + nI d) = true) → ∀ t : Int, (σ 7).toInt ≤ t → (t - (bf σ i 4).toInt).natAbs = d → hitI σ n (bf σ i 1) (bf σ i 2) (bf σ i 3).toInt t := fun d hd h t t1 t2 => by
    rw [pm d hd, pp d hd] at h
    refine Classical.byContradiction (fun hc => ?_)
    by_cases h0 : t ≤ (bf σ i 4).toInt
    · have e : t = (bf σ i 4).toInt - d := by omega
      rw [e] at t1 hc
      exact h.1 ⟨t1, hc⟩
    · have e : t = (bf σ i 4).toInt + d := by omega
      rw [e] at t1 hc
      exact h.2 ⟨t1, hc⟩
  unfold bstS
  rw [f3]
  rcases bscan_spec (fitB σ n i) (bf σ i 4) (F + 1) 0 with ⟨g1, g2⟩ | ⟨d, g1, g2, g3, g4⟩
  · exact .inl ⟨g1, fun t t1 t2 t3 => none _ (by omega) (g2 _ (by omega) (by omega)) t t1 rfl⟩
  · refine .inr ?_
    have hd : d ≤ F := by omega
    have near : ∀ t : Int, (σ 7).toInt ≤ t → (bf σ i 4).toInt - (bf σ i 5).toInt ≤ t → t ≤ (bf σ i 4).toInt + (bf σ i 5).toInt → ¬ hitI σ n (bf σ i 1) (bf σ i 2) (bf σ i 3).toInt t → d ≤ (t - (bf σ i 4).toInt).natAbs := fun t t1 t2 t3 t4 => by
      refine Classical.byContradiction (fun hc => ?_)
      exact t4 (none _ (by omega) (g3 _ (by omega) (by omega)) t t1 rfl)
    rcases g4 with ⟨a, e⟩ | ⟨a, c, e⟩
    · have h := (pm d hd).mp a
      rw [e, em d hd]
      refine ⟨⟨h.1, by omega, by omega, h.2⟩, fun t t1 t2 t3 t4 => ?_⟩
      have := near t t1 t2 t3 t4
      omega
    · have h := (pp d hd).mp c
      have h' := fun q => a ((pm d hd).mpr q)
      rw [e, ep d hd]
      refine ⟨⟨h.1, by omega, by omega, h.2⟩, fun t t1 t2 t3 t4 => ?_⟩
      have h5 := near t t1 t2 t3 t4
      by_cases h6 : (t - (bf σ i 4).toInt).natAbs = d
      · refine .inr ⟨by omega, ?_⟩
        refine Classical.byContradiction (fun hc => ?_)
        have e9 : t = (bf σ i 4).toInt - d := by omega
        rw [e9] at t1 t4
        exact h' ⟨t1, t4⟩
      · exact .inl (by omega)
theorem bst_no {σ : Nat → Int32} {n i : Nat} (hn : n ≤ 40) (hi : i < n) (hr : Rg σ i) (hl : lvB σ i = false) (hT : 0 ≤ (σ 7).toInt) : bstS σ n i = -1 ↔ ∀ t : Int, (σ 7).toInt ≤ t → (bf σ i 4).toInt - (bf σ i 5).toInt ≤ t → t ≤ (bf σ i 4).toInt + (bf σ i 5).toInt → hitI σ n (bf σ i 1) (bf σ i 2) (bf σ i 3).toInt t := by
  have h := bst_BT hn hi hr hl hT
  constructor
  · intro e
    rw [e] at h
    rcases h with h | ⟨⟨h, _⟩, _⟩
    · exact h.2
    · rw [neg1_I] at h; omega
  · intro h2
    exact BT_un h (.inl ⟨rfl, h2⟩)
section BE
variable {v : V3} {b n m : Nat} {σ : Nat → Int32} {Q : Int32 → V3 → Prop}
theorem uC_best (hL : LA v b σ n m) (hn : n ≤ 40) {B : Int} (hE : Tm σ n B) (hT : 0 ≤ (σ 7).toInt ∧ (σ 7).toInt ≤ 1000000) {i : Nat} (hi : i < n) (hr : Rg σ i) (hl : lvB σ i = false) (hQ : Q (bstS σ n i) v) : w_X1_bestTime b (nI i) v Q := by
  refine ⟨nx_in hi hn, ?_⟩
  rw [nx_ix hi hn, hL.bk hi 1 (by omega), hL.bk hi 2 (by omega), hL.bk hi 3 (by omega), hL.bk hi 4 (by omega), hL.bk hi 5 (by omega)]
  obtain ⟨r1, r2, r3, r4, r5, r6⟩ := hr
  have ep : (bf σ i 4 + bf σ i 5).toInt = (bf σ i 4).toInt + (bf σ i 5).toInt := ti_add (by omega) (by omega)
  have em : (bf σ i 4 - bf σ i 5).toInt = (bf σ i 4).toInt - (bf σ i 5).toInt := ti_sub (by omega) (by omega)
  have fin : ∀ r, BT σ n i r → Q r v := fun r h => by
    rw [BT_un h (bst_BT hn hi ⟨r1, r2, r3, r4, r5, r6⟩ hl hT.1)]; exact hQ
  refine uC_early hL hn hE ⟨by omega, by omega⟩ (by omega) hT (fun r4 hr4 => ?_)
  rw [hL.bk hi 1 (by omega), hL.bk hi 2 (by omega), hL.bk hi 3 (by omega), hL.bk hi 5 (by omega)]
  refine uC_late hL hn hE ⟨by omega, by omega⟩ ⟨by omega, by omega⟩ hT (fun r6 hr6 => ?_)
  rw [ep] at hr4
  rw [em] at hr6
  have lt : ∀ t : Int, (bf σ i 4).toInt ≤ t → (σ 7).toInt ≤ t → t ≤ (bf σ i 4).toInt + (bf σ i 5).toInt → ¬ hitI σ n (bf σ i 1) (bf σ i 2) (bf σ i 3).toInt t → r4 ≠ -1 ∧ r4.toInt ≤ t := fun t t1 t2 t3 t4 => by
    rcases hr4 with ⟨a, a2⟩ | ⟨a, a2, a3, a4⟩
    · exact absurd (a2 t (by omega) t3) t4
    · refine ⟨fun h => ?_, ?_⟩
      · rw [h, neg1_I] at a; omega
      · exact Classical.byContradiction (fun hc => t4 (a4 t (by omega) (by omega)))
  have et : ∀ t : Int, t ≤ (bf σ i 4).toInt → (σ 7).toInt ≤ t → (bf σ i 4).toInt - (bf σ i 5).toInt ≤ t → ¬ hitI σ n (bf σ i 1) (bf σ i 2) (bf σ i 3).toInt t → r6 ≠ -1 ∧ t ≤ r6.toInt := fun t t1 t2 t3 t4 => by
    rcases hr6 with ⟨a, a2⟩ | ⟨a, a2, a3, a4⟩
    · exact absurd (a2 t (by omega) t1) t4
    · refine ⟨fun h => ?_, ?_⟩
      · rw [h, neg1_I] at a; omega
      · exact Classical.byContradiction (fun hc => t4 (a4 t (by omega) t1))
  have l4 : ¬ r4 = -1 → ((bf σ i 4).toInt ≤ r4.toInt ∧ (σ 7).toInt ≤ r4.toInt) ∧ r4.toInt ≤ (bf σ i 4).toInt + (bf σ i 5).toInt ∧ ¬ hitI σ n (bf σ i 1) (bf σ i 2) (bf σ i 3).toInt r4.toInt := fun h => by
    rcases hr4 with ⟨a, a2⟩ | ⟨a, a2, a3, a4⟩
    · exact absurd a h
    · exact ⟨⟨by omega, by omega⟩, a2, a3⟩
  have l6 : ¬ r6 = -1 → ((bf σ i 4).toInt - (bf σ i 5).toInt ≤ r6.toInt ∧ (σ 7).toInt ≤ r6.toInt) ∧ r6.toInt ≤ (bf σ i 4).toInt ∧ ¬ hitI σ n (bf σ i 1) (bf σ i 2) (bf σ i 3).toInt r6.toInt := fun h => by
    rcases hr6 with ⟨a, a2⟩ | ⟨a, a2, a3, a4⟩
    · exact absurd a h
    · exact ⟨⟨by omega, by omega⟩, a2, a3⟩
  refine ⟨fun h6 => br_c (fun h4 => fin _ ?_) (fun h4 => br_c (fun h5 => fin _ ?_) (fun h5 => fin _ ?_)), fun h6 => fin _ ?_⟩
  · have a := l6 h6
    refine .inr ⟨⟨a.1.2, a.1.1, by omega, a.2.2⟩, fun t t1 t2 t3 t4 => ?_⟩
    by_cases ht : t ≤ (bf σ i 4).toInt
    · have := (et t ht t1 t2 t4).2; omega
    · exact absurd h4 (lt t (by omega) t1 t3 t4).1
  · have a := l6 h6
    have c := l4 h4
    have h5 := ti_le.mp h5
    rw [ti_sub (by omega) (by omega), ti_sub (by omega) (by omega)] at h5
    refine .inr ⟨⟨a.1.2, a.1.1, by omega, a.2.2⟩, fun t t1 t2 t3 t4 => ?_⟩
    by_cases ht : t ≤ (bf σ i 4).toInt
    · have := (et t ht t1 t2 t4).2; omega
    · have := (lt t (by omega) t1 t3 t4).2; omega
  · have a := l6 h6
    have c := l4 h4
    have h5 : ¬ _ := fun h => h5 (ti_le.mpr h)
    rw [ti_sub (by omega) (by omega), ti_sub (by omega) (by omega)] at h5
    refine .inr ⟨⟨c.1.2, by omega, c.2.1, c.2.2⟩, fun t t1 t2 t3 t4 => ?_⟩
    by_cases ht : t ≤ (bf σ i 4).toInt
    · have := (et t ht t1 t2 t4).2; omega
    · have := (lt t (by omega) t1 t3 t4).2; omega
  · by_cases h4 : r4 = -1
    · refine .inl ⟨h4, fun t t1 t2 t3 => Classical.byContradiction (fun hc => ?_)⟩
      by_cases ht : t ≤ (bf σ i 4).toInt
      · exact (et t ht t1 t2 hc).1 h6
      · exact (lt t (by omega) t1 t3 hc).1 h4
    · have c := l4 h4
      refine .inr ⟨⟨c.1.2, by omega, c.2.1, c.2.2⟩, fun t t1 t2 t3 t4 => ?_⟩
      by_cases ht : t ≤ (bf σ i 4).toInt
      · exact absurd h6 (et t ht t1 t2 t4).1
      · have := (lt t (by omega) t1 t3 t4).2; omega
theorem uC_would (hL : LA v b σ n m) (hn : n ≤ 40) {i : Nat} (hi : i < n) {x2 x3 x4 : Int32} (hQ : Q (if clS σ n (bf σ i 1) (bf σ i 2) x2 x3 (nI i) x4 = -1 then 0 else 1) v) : w_X1_wouldClash b (nI i) x2 x3 x4 v Q := by
  refine ⟨nx_in hi hn, ?_⟩
  rw [nx_ix hi hn, hL.bk hi 1 (by omega), hL.bk hi 2 (by omega)]
  refine uC_clash hL hn ?_
  refine br_c (fun h => ⟨.inl rfl, ?_⟩) (fun h => ⟨.inr rfl, ?_⟩)
  · rw [if_pos h] at hQ; exact hQ
  · rw [if_neg h] at hQ; exact hQ
/-- who holds a byte at a time -/
def hldS (σ : Nat → Int32) (n : Nat) (x t : Int32) : Int32 := clS σ n x 1 t (t + 1) (-1) (-1)
theorem uC_holder (hL : LA v b σ n m) (hn : n ≤ 40) {x t : Int32} (hQ : Q (hldS σ n x t) v) : w_X1_holderAt b x t v Q := uC_clash hL hn hQ
theorem hldS_cases (hn : n ≤ 40) (x t : Int32) : hldS σ n x t = -1 ∨ (¬ hldS σ n x t = -1 ∧ ∃ j, j < n ∧ hldS σ n x t = nI j) := by
  rcases clS_cases (σ := σ) (x1 := x) (x2 := 1) (x3 := t) (x4 := t + 1) (x5 := -1) (x6 := -1) hn with h | ⟨j, h1, h2, h3, _⟩
  · exact .inl h.1
  · exact .inr ⟨h3, j, h1, h2⟩
/-- whether a byte is held now by an owner -/
def heldS (σ : Nat → Int32) (n : Nat) (x o : Int32) : Prop := ∃ j, j < n ∧ hldS σ n x (σ 7) = nI j ∧ bf σ j 7 = 2 ∧ bf σ j 0 = o
/-- how many bytes are booked, as one side sums it up -/
def comS (σ : Nat → Int32) (x : Int32) (i : Nat) : Int32 := zmin (bf σ i 9) (σ 7 + x) - zmax (bf σ i 8) (σ 7)
def useS (σ : Nat → Int32) (n : Nat) (x : Int32) : Int32 := sumI (fun i => if lvB σ i = true then (if comS σ x i ≤ 0 then 0 else comS σ x i * bf σ i 2) else 0) n 0 0
theorem uC_used (hL : LA v b σ n m) (hn : n ≤ 40) {x : Int32} (hQ : Q (useS σ n x) v) : w_X1_usedWithin b x v Q := by
  refine loop_sum (W := fun r a i => w_X1_usedWithin_4 b Q r x a (nI i) v) (Qf := fun a => Q a v) ?_ ?_ hQ
  · intro r a h
    rw [w_X1_usedWithin_4, hL.n8]
    exact br_t Int32.le_rfl h
  · intro r a i hi h
    rw [w_X1_usedWithin_4, hL.n8]
    refine br_f (nx_le hi hn) ⟨nx_in hi hn, ?_⟩
    rw [nx_ix hi hn, hL.bk hi 7 (by omega)]
    rw [nI_succ] at h
    have g : lvB σ i = true → w_X1_usedWithin_38 b Q (w_X1_usedWithin_4 b Q r) x a (nI i) i v := fun hv => by
      unfold w_X1_usedWithin_38
      rw [hL.bk hi 9 (by omega), hL.bk hi 8 (by omega), hL.bk hi 2 (by omega), hL.tm]
      rw [if_pos hv] at h
      refine br_c (fun hc => ?_) (fun hc => ?_)
      · rw [if_pos (show comS σ x i ≤ 0 from hc)] at h; exact h
      · rw [if_neg (show ¬ comS σ x i ≤ 0 from hc)] at h; exact h
    refine br_c (fun h1 => g (by simp only [lvB, decide_eq_true_eq]; exact .inl h1)) (fun h1 => ⟨fun h2 => ?_, fun h2 => g (by simp only [lvB, decide_eq_true_eq]; exact .inr h2)⟩)
    rw [if_neg (by simp only [lvB, decide_eq_true_eq]; exact fun q => q.elim h1 h2), i32_a0] at h
    exact h
end BE
