/-! JOYS AND GAINS IN THEIR RANGES; the best bargain is the best -/
theorem ti_mul {x y : Int32} (h1 : -2147483648 ≤ x.toInt * y.toInt) (h2 : x.toInt * y.toInt ≤ 2147483647) : (x * y).toInt = x.toInt * y.toInt := by
  rw [Int32.toInt_mul]
  exact Int.bmod_eq_of_le (by omega) (by omega)
section GN
variable {σ : Nat → Int32} {n m : Nat} {B C : Int}
theorem joy_I {i : Nat} {t : Int32} (hW : Wf σ n m 32 B) (hG : GI σ n m C) (hi : i < n) (ht : 0 ≤ t.toInt ∧ t.toInt ≤ 1000000) : 0 ≤ (joyS σ i t).toInt ∧ (joyS σ i t).toInt ≤ 180 := by
  have rg := hW.rg hi
  unfold Rg at rg
  have ur := hG.2.2.1 i hi
  have s1 : (t - bf σ i 4).toInt = t.toInt - (bf σ i 4).toInt := ti_sub (by omega) (by omega)
  have s2 : (zabs (t - bf σ i 4)).toInt = ((t - bf σ i 4).toInt.natAbs : Int) := ti_abs (by omega)
  have s3 : (20 - zabs (t - bf σ i 4)).toInt = 20 - ((t - bf σ i 4).toInt.natAbs : Int) := by
    have e : (20 : Int32).toInt = 20 := rfl
    rw [ti_sub (by omega) (by omega), s2, e]
  have s4 : (zmax 0 (20 - zabs (t - bf σ i 4))).toInt = max 0 (20 - ((t - bf σ i 4).toInt.natAbs : Int)) := by rw [zmax_I, s3]; rfl
  have b0 : 0 ≤ (zmax 0 (20 - zabs (t - bf σ i 4))).toInt := by omega
  have b1 : (zmax 0 (20 - zabs (t - bf σ i 4))).toInt ≤ 20 := by omega
  have p0 : 0 ≤ (bf σ i 6).toInt * (zmax 0 (20 - zabs (t - bf σ i 4))).toInt := Int.mul_nonneg (by omega) b0
  have p1 : (bf σ i 6).toInt * (zmax 0 (20 - zabs (t - bf σ i 4))).toInt ≤ 9 * 20 := Int.mul_le_mul ur.2 b1 b0 (by omega)
  unfold joyS
  rw [ti_mul (by omega) (by omega)]
  omega
theorem bk_tm {i : Nat} (hW : Wf σ n m 32 B) (hi : i < n) (hb : bf σ i 7 = 1) : 0 ≤ (bf σ i 8).toInt ∧ (bf σ i 8).toInt ≤ 1000000 := by
  have t := hW.tm.1 i hi (by unfold lvB; exact decide_eq_true (.inl hb))
  have := hW.tm.2
  omega
theorem sub_pos {a b : Int32} (ha : 0 ≤ a.toInt ∧ a.toInt ≤ 180) (hb : 0 ≤ b.toInt ∧ b.toInt ≤ 180) (h : ¬ a - b ≤ 0) : b.toInt < a.toInt ∧ (a - b).toInt = a.toInt - b.toInt := by
  have e : (a - b).toInt = a.toInt - b.toInt := ti_sub (by omega) (by omega)
  refine ⟨?_, e⟩
  have : ¬ (a - b).toInt ≤ (0 : Int32).toInt := fun z => h (ti_le.mpr z)
  rw [e, zero_I] at this
  omega
theorem cand_pos {i j : Nat} (hW : Wf σ n m 32 B) (hG : GI σ n m C) (hi : i < n) (hj : j < n) (h1 : bf σ i 7 = 1) (h2 : bf σ j 7 = 1) (h : ¬ candS σ n i j = 0) : 0 < (candS σ n i j).toInt := by
  have ok := cand_ok h
  obtain ⟨-, -, -, g1, g2, -, -⟩ := ok
  have ti := bk_tm hW hi h1
  have tj := bk_tm hW hj h2
  have p := sub_pos (joy_I hW hG hi tj) (joy_I hW hG hi ti) g1
  have q := sub_pos (joy_I hW hG hj ti) (joy_I hW hG hj tj) g2
  have a1 := joy_I hW hG hi tj
  have a2 := joy_I hW hG hi ti
  have a3 := joy_I hW hG hj ti
  have a4 := joy_I hW hG hj tj
  unfold candS
  rw [if_pos (cand_ok h)]
  unfold swgV
  rw [ti_add (by omega) (by omega)]
  omega
theorem buy_lt {i j : Nat} (hW : Wf σ n m 32 B) (hG : GI σ n m C) (hi : i < n) (hj : j < n) (h2 : bf σ j 7 = 1) (ok : buyOk σ n i j) : (joyS σ j (bf σ j 8)).toInt < (joyS σ i (bf σ j 8)).toInt := by
  obtain ⟨-, -, g1, g2, -, -⟩ := ok
  have a : ¬ (prcS σ i j).toInt ≤ (joyS σ j (bf σ j 8)).toInt := fun z => g1 (ti_le.mpr z)
  have b : ¬ (joyS σ i (bf σ j 8)).toInt ≤ (prcS σ i j).toInt := fun z => g2 (ti_le.mpr z)
  omega
theorem candB_pos {i j : Nat} (hW : Wf σ n m 32 B) (hG : GI σ n m C) (hi : i < n) (hj : j < n) (h2 : bf σ j 7 = 1) (h : ¬ candB σ n i j = 0) : 0 < (candB σ n i j).toInt := by
  have ok := candB_ok h
  have lt := buy_lt hW hG hi hj h2 ok
  have tj := bk_tm hW hj h2
  have a1 := joy_I hW hG hi tj
  have a2 := joy_I hW hG hj tj
  unfold candB
  rw [if_pos ok]
  unfold buyV
  rw [ti_sub (by omega) (by omega)]
  omega
theorem prc_pos {i j : Nat} (hW : Wf σ n m 32 B) (hG : GI σ n m C) (hi : i < n) (hj : j < n) (h2 : bf σ j 7 = 1) : 0 ≤ (prcS σ i j).toInt := by
  have tj := bk_tm hW hj h2
  have a1 := joy_I hW hG hi tj
  have a2 := joy_I hW hG hj tj
  unfold prcS
  rw [Int32.toInt_div, ti_add (by omega) (by omega), show (2 : Int32).toInt = 2 from rfl]
  have d0 := Int.tdiv_nonneg (a := (joyS σ i (bf σ j 8)).toInt + (joyS σ j (bf σ j 8)).toInt) (b := 2) (by omega) (by omega)
  have d1 := Int.tdiv_le_self (a := (joyS σ i (bf σ j 8)).toInt + (joyS σ j (bf σ j 8)).toInt) 2 (by omega)
  rw [Int.bmod_eq_of_le (by omega) (by omega)]
  exact d0
theorem cand_sym {i j : Nat} : candS σ n i j = candS σ n j i := by
  have v : swgV σ i j = swgV σ j i := by unfold swgV; exact Int32.add_comm _ _
  have k : ∀ i j, swpOk σ n i j → swpOk σ n j i := fun i j ⟨a, b, c, d, e, f, g⟩ => ⟨a.symm, fun z => absurd (ti_le.mp c) (by have := ti_lt.mp z; omega), ti_le.mpr (Int.not_lt.mp (fun z => b (ti_lt.mpr z))), e, d, g, f⟩
  unfold candS
  by_cases h : swpOk σ n i j
  · rw [if_pos h, if_pos (k i j h), v]
  · rw [if_neg h, if_neg (fun z => h (k j i z))]
theorem foldN_le {A : Type} {s : A → Nat → A} {f : A → Int} (hm : ∀ a i, f a ≤ f (s a i)) : ∀ k z a, f a ≤ f (foldN s k z a) := by
  intro k
  induction k with
  | zero => intro z a; exact Int.le_refl _
  | succ k ih => intro z a; exact Int.le_trans (hm a z) (ih (z + 1) (s a z))
theorem foldN_hit {A : Type} {s : A → Nat → A} {f : A → Int} (hm : ∀ a i, f a ≤ f (s a i)) {p : Nat} {c : Int} (hp : ∀ a, c ≤ f (s a p)) : ∀ k z a, z ≤ p → p < z + k → c ≤ f (foldN s k z a) := by
  intro k
  induction k with
  | zero => intro z a h1 h2; omega
  | succ k ih =>
    intro z a h1 h2
    by_cases e : z = p
    · subst e; exact Int.le_trans (hp a) (foldN_le hm k (z + 1) (s a z))
    · exact ih (z + 1) (s a z) (by omega) (by omega)
theorem keep_le (a : Bst) (x : Int32) (k i j : Nat) : a.1.toInt ≤ (keepS a x k i j).1.toInt ∧ x.toInt ≤ (keepS a x k i j).1.toInt := by
  unfold keepS
  by_cases c : x ≤ a.1
  · rw [if_pos c]; exact ⟨Int.le_refl _, ti_le.mp c⟩
  · rw [if_neg c]
    refine ⟨?_, Int.le_refl _⟩
    have : ¬ x.toInt ≤ a.1.toInt := fun z => c (ti_le.mpr z)
    show a.1.toInt ≤ x.toInt
    omega
theorem stepA_le (i : Nat) (a : Bst) (j : Nat) : a.1.toInt ≤ (stepA σ n i a j).1.toInt := by
  unfold stepA
  by_cases c : bf σ i 7 = 1 ∧ bf σ j 7 = 1
  · rw [if_pos c]; exact (keep_le _ _ _ _ _).1
  · rw [if_neg c]; exact Int.le_refl _
theorem stepB_le (i : Nat) (a : Bst) (j : Nat) : a.1.toInt ≤ (stepB σ n i a j).1.toInt := by
  unfold stepB
  by_cases c : bf σ i 7 = 0 ∧ bf σ j 7 = 1
  · rw [if_pos c]; exact (keep_le _ _ _ _ _).1
  · rw [if_neg c]; exact Int.le_refl _
theorem best_A {i j : Nat} (hij : i < j) (hj : j < n) (h1 : bf σ i 7 = 1) (h2 : bf σ j 7 = 1) : (candS σ n i j).toInt ≤ (bestB σ n).1.toInt := by
  have a : (candS σ n i j).toInt ≤ (bestA σ n).1.toInt := by
    refine foldN_hit (f := fun (a : Bst) => a.1.toInt) (p := i) (fun a z => foldN_le (f := fun (a : Bst) => a.1.toInt) (stepA_le z) _ _ a) (fun a => ?_) n 0 _ (Nat.zero_le _) (by omega)
    refine foldN_hit (f := fun (a : Bst) => a.1.toInt) (p := j) (stepA_le i) (fun a => ?_) _ _ a (by omega) (by omega)
    unfold stepA
    rw [if_pos ⟨h1, h2⟩]
    exact (keep_le _ _ _ _ _).2
  exact Int.le_trans a (foldN_le (f := fun (a : Bst) => a.1.toInt) (fun a z => foldN_le (f := fun (a : Bst) => a.1.toInt) (stepB_le z) _ _ a) n 0 _)
theorem best_B {i j : Nat} (hi : i < n) (hj : j < n) (h1 : bf σ i 7 = 0) (h2 : bf σ j 7 = 1) : (candB σ n i j).toInt ≤ (bestB σ n).1.toInt := by
  refine foldN_hit (f := fun (a : Bst) => a.1.toInt) (p := i) (fun a z => foldN_le (f := fun (a : Bst) => a.1.toInt) (stepB_le z) _ _ a) (fun a => ?_) n 0 _ (Nat.zero_le _) (by omega)
  refine foldN_hit (f := fun (a : Bst) => a.1.toInt) (p := j) (stepB_le i) (fun a => ?_) _ _ a (by omega) (by omega)
  unfold stepB
  rw [if_pos ⟨h1, h2⟩]
  exact (keep_le _ _ _ _ _).2
theorem best_0 : 0 ≤ (bestB σ n).1.toInt := by
  have := (BI_bestB σ n).1
  rw [ti_lt, zero_I] at this
  omega
/-- no gain is greater than the best one -/
theorem gn_le {i j : Nat} (hi : i < n) (hj : j < n) : (gnS σ n i j).toInt ≤ (bestB σ n).1.toInt := by
  have b0 := best_0 (σ := σ) (n := n)
  have z0 : (0 : Int32).toInt = 0 := rfl
  unfold gnS
  by_cases c : i = j ∨ ¬ bf σ j 7 = 1
  · rw [if_pos c, z0]; exact b0
  · rw [if_neg c]
    have ne : i ≠ j := fun z => c (.inl z)
    have h2 : bf σ j 7 = 1 := Classical.byContradiction (fun z => c (.inr z))
    by_cases d : bf σ i 7 = 1
    · rw [if_pos d]
      rcases Nat.lt_or_gt_of_ne ne with l | l
      · exact best_A l hj d h2
      · rw [cand_sym]; exact best_A l hi h2 d
    · rw [if_neg d]
      by_cases e : bf σ i 7 = 0
      · rw [if_pos e]; exact best_B hi hj e h2
      · rw [if_neg e, z0]; exact b0
theorem gn_pos {i j : Nat} (hW : Wf σ n m 32 B) (hG : GI σ n m C) (hi : i < n) (hj : j < n) (h : ¬ gnS σ n i j = 0) : 0 < (gnS σ n i j).toInt := by
  unfold gnS at h ⊢
  by_cases c : i = j ∨ ¬ bf σ j 7 = 1
  · rw [if_pos c] at h; exact absurd rfl h
  · rw [if_neg c] at h ⊢
    have h2 : bf σ j 7 = 1 := Classical.byContradiction (fun z => c (.inr z))
    by_cases d : bf σ i 7 = 1
    · rw [if_pos d] at h ⊢; exact cand_pos hW hG hi hj d h2 h
    · rw [if_neg d] at h ⊢
      by_cases e : bf σ i 7 = 0
      · rw [if_pos e] at h ⊢; exact candB_pos hW hG hi hj h2 h
      · rw [if_neg e] at h; exact absurd rfl h
/-- the best bargain's gain -/
def BV (σ : Nat → Int32) (n : Nat) (a : Bst) : Prop := ¬ a.1 = 0 → (a.2.1 = 0 → a.1 = candS σ n a.2.2.1 a.2.2.2) ∧ (a.2.1 = 1 → a.1 = candB σ n a.2.2.1 a.2.2.2)
theorem BV_best (σ : Nat → Int32) (n : Nat) : BV σ n (bestB σ n) := by
  have A : BV σ n (bestA σ n) := foldN_inv (P := fun _ (a : Bst) => BV σ n a) (fun q => absurd rfl q) (fun i a _ h => foldN_inz (P := fun (a : Bst) => BV σ n a) _ _ a h (fun j a _ _ hp => by
    unfold stepA
    by_cases c : bf σ i 7 = 1 ∧ bf σ j 7 = 1
    · rw [if_pos c]
      unfold keepS
      by_cases l : candS σ n i j ≤ a.1
      · rw [if_pos l]; exact hp
      · rw [if_neg l]; exact fun _ => ⟨fun _ => rfl, fun q => absurd q (by show ¬ (0 : Nat) = 1; decide)⟩
    · rw [if_neg c]; exact hp))
  exact foldN_inv (P := fun _ (a : Bst) => BV σ n a) A (fun i a _ h => foldN_inz (P := fun (a : Bst) => BV σ n a) _ _ a h (fun j a _ _ hp => by
    unfold stepB
    by_cases c : bf σ i 7 = 0 ∧ bf σ j 7 = 1
    · rw [if_pos c]
      unfold keepS
      by_cases l : candB σ n i j ≤ a.1
      · rw [if_pos l]; exact hp
      · rw [if_neg l]; exact fun _ => ⟨fun q => absurd q (by show ¬ (1 : Nat) = 0; decide), fun _ => rfl⟩
    · rw [if_neg c]; exact hp))
theorem best_gn (hb : ¬ (bestB σ n).1 = 0) : gnS σ n (bestB σ n).2.2.1 (bestB σ n).2.2.2 = (bestB σ n).1 := by
  obtain ⟨⟨b1, b2, b3, b4⟩, b5⟩ := (BI_bestB σ n).2 hb
  have v := BV_best σ n hb
  unfold gnS
  rw [if_neg (fun z => z.elim b3 (fun y => y b4))]
  rcases b5 with ⟨k, s, _⟩ | ⟨k, s, _⟩
  · rw [if_pos s]; exact (v.1 k).symm
  · rw [if_neg (by rw [s]; decide), if_pos s]; exact (v.2 k).symm
end GN
