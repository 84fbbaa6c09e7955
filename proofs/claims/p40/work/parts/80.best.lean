/-! PURE LEVEL 11: the best bargain -/
theorem loop_sz {A : Type} {W : Nat → A → Nat → V3 → Prop} {s : A → Nat → A} {n z : Nat} (hz : z ≤ n) {I : A → Nat → V3 → Prop} {a0 : A} {v0 : V3} (h0 : ∀ r v, I (foldN s (n - z) z a0) n v → W (r + 1) (foldN s (n - z) z a0) n v) (hs : ∀ r a i v, z ≤ i → i < n → I a i v → (∀ v', I (s a i) (i + 1) v' → W r (s a i) (i + 1) v') → W (r + 1) a i v) (hI : I a0 z v0) : ∃ r, W r a0 z v0 := by
  have key : ∀ k i a v, z ≤ i → i + k = n → I a i v → foldN s k i a = foldN s (n - z) z a0 → W (k + 1) a i v := by
    intro k
    induction k with
    | zero => intro i a v _ e h q
              obtain rfl : i = n := by omega
              have q' : a = foldN s (i - z) z a0 := q
              subst q'
              exact h0 0 v h
    | succ k ih => intro i a v ez e h q; exact hs (k + 1) a i v ez (by omega) h (fun v' h' => ih (i + 1) (s a i) v' (by omega) (by omega) h' q)
  exact ⟨n - z + 1, key (n - z) z a0 v0 (Nat.le_refl z) (by omega) hI rfl⟩
theorem foldN_inz {A : Type} {s : A → Nat → A} {P : A → Prop} : ∀ (k z : Nat) (a0 : A), P a0 → (∀ i a, z ≤ i → i < z + k → P a → P (s a i)) → P (foldN s k z a0) := by
  intro k
  induction k with
  | zero => intro z a0 h _; exact h
  | succ k ih =>
    intro z a0 h hs
    exact ih (z + 1) (s a0 z) (hs z a0 (Nat.le_refl z) (by omega) h) (fun i a h1 h2 hp => hs i a (by omega) (by omega) hp)
abbrev Bst : Type := Int32 × Nat × Nat × Nat
def keepS (a : Bst) (x : Int32) (k i j : Nat) : Bst := if x ≤ a.1 then a else (x, k, i, j)
def candS (σ : Nat → Int32) (n i j : Nat) : Int32 := if swpOk σ n i j then swgV σ i j else 0
def candB (σ : Nat → Int32) (n i j : Nat) : Int32 := if buyOk σ n i j then buyV σ i j else 0
def stepA (σ : Nat → Int32) (n i : Nat) (a : Bst) (j : Nat) : Bst := if bf σ i 7 = 1 ∧ bf σ j 7 = 1 then keepS a (candS σ n i j) 0 i j else a
def stepB (σ : Nat → Int32) (n i : Nat) (a : Bst) (j : Nat) : Bst := if bf σ i 7 = 0 ∧ bf σ j 7 = 1 then keepS a (candB σ n i j) 1 i j else a
def bestA (σ : Nat → Int32) (n : Nat) : Bst := foldN (fun a i => foldN (stepA σ n i) (n - (i + 1)) (i + 1) a) n 0 (0, 0, 0, 0)
def bestB (σ : Nat → Int32) (n : Nat) : Bst := foldN (fun a i => foldN (stepB σ n i) n 0 a) n 0 (bestA σ n)
/-- what is known of the best so far -/
def BI (σ : Nat → Int32) (n : Nat) (a : Bst) : Prop := ¬ a.1 < 0 ∧ (¬ a.1 = 0 → (a.2.2.1 < n ∧ a.2.2.2 < n ∧ ¬ a.2.2.1 = a.2.2.2 ∧ bf σ a.2.2.2 7 = 1) ∧ ((a.2.1 = 0 ∧ bf σ a.2.2.1 7 = 1 ∧ swpOk σ n a.2.2.1 a.2.2.2) ∨ (a.2.1 = 1 ∧ bf σ a.2.2.1 7 = 0 ∧ buyOk σ n a.2.2.1 a.2.2.2)))
theorem gt_0 {x y : Int32} (hx : ¬ x < 0) (h : ¬ y ≤ x) : ¬ y < 0 ∧ ¬ y = 0 := by
  rw [ti_lt, zero_I] at hx
  rw [ti_le] at h
  refine ⟨fun q => ?_, fun q => ?_⟩
  · rw [ti_lt, zero_I] at q; omega
  · rw [q, zero_I] at h; omega
theorem le_0 {x : Int32} (hx : ¬ x < 0) : (0 : Int32) ≤ x := by
  rw [ti_lt, zero_I] at hx
  rw [ti_le, zero_I]
  omega
theorem BI_A {σ : Nat → Int32} {n i j : Nat} {a : Bst} (hi : i < n) (hj : j < n) (hij : ¬ i = j) (h : BI σ n a) : BI σ n (stepA σ n i a j) := by
  unfold stepA
  by_cases c : bf σ i 7 = 1 ∧ bf σ j 7 = 1
  · rw [if_pos c]
    unfold keepS candS
    by_cases g : swpOk σ n i j
    · rw [if_pos g]
      by_cases l : swgV σ i j ≤ a.1
      · rw [if_pos l]; exact h
      · rw [if_neg l]
        exact ⟨(gt_0 h.1 l).1, fun _ => ⟨⟨hi, hj, hij, c.2⟩, .inl ⟨rfl, c.1, g⟩⟩⟩
    · rw [if_neg g, if_pos (le_0 h.1)]; exact h
  · rw [if_neg c]; exact h
theorem BI_B {σ : Nat → Int32} {n i j : Nat} {a : Bst} (hi : i < n) (hj : j < n) (h : BI σ n a) : BI σ n (stepB σ n i a j) := by
  unfold stepB
  by_cases c : bf σ i 7 = 0 ∧ bf σ j 7 = 1
  · rw [if_pos c]
    have hij : ¬ i = j := fun e => by
      rw [e] at c
      exact absurd (c.1.symm.trans c.2) (by decide)
    unfold keepS candB
    by_cases g : buyOk σ n i j
    · rw [if_pos g]
      by_cases l : buyV σ i j ≤ a.1
      · rw [if_pos l]; exact h
      · rw [if_neg l]
        exact ⟨(gt_0 h.1 l).1, fun _ => ⟨⟨hi, hj, hij, c.2⟩, .inr ⟨rfl, c.1, g⟩⟩⟩
    · rw [if_neg g, if_pos (le_0 h.1)]; exact h
  · rw [if_neg c]; exact h
theorem BI_bestA (σ : Nat → Int32) (n : Nat) : BI σ n (bestA σ n) :=
  foldN_inv (P := fun _ (a : Bst) => BI σ n a) ⟨by decide, fun q => absurd rfl q⟩ (fun i a hi h => foldN_inz (P := fun (a : Bst) => BI σ n a) _ _ a h (fun j a h1 h2 hp => BI_A hi (by omega) (by omega) hp))
theorem BI_bestB (σ : Nat → Int32) (n : Nat) : BI σ n (bestB σ n) :=
  foldN_inv (P := fun _ (a : Bst) => BI σ n a) (BI_bestA σ n) (fun i a hi h => foldN_inz (P := fun (a : Bst) => BI σ n a) _ _ a h (fun j a h1 h2 hp => BI_B hi (by omega) hp))
/-- how the two sides keep it -/
def CF (σ : Nat → Int32) (v : V3) (a : Bst) : Prop := v 5 0 = a.1 ∧ (¬ a.1 = 0 → v 5 1 = nI a.2.1 ∧ v 5 2 = nI a.2.2.1 ∧ v 5 3 = nI a.2.2.2 ∧ v 5 4 = if a.2.1 = 1 then prcS σ a.2.2.1 a.2.2.2 else 0)
section BC
variable {v : V3} {n m : Nat} {σ : Nat → Int32}
theorem LA_5 {v' : V3} (hL : LA v 8 σ n m) (hn : n ≤ 40) (hm : m ≤ 8) (h : ∀ c, c ≠ 5 → v' c = v c) : LA v' 8 σ n m := LA_c hL hn hm (fun c _ _ _ _ => h c (by omega))
theorem uC_keep (hL : LA v 8 σ n m) (hn : n ≤ 40) (hm : m ≤ 8) {a : Bst} (hC : CF σ v a) (h0 : ¬ a.1 < 0) {i j k : Nat} (hi : i < n) (hj : j < n) (hk : k = 0 ∨ k = 1) {x : Int32} {Q : V3 → Prop} (hQ : ∀ v', CF σ v' (keepS a x k i j) → (∀ c, c ≠ 5 → v' c = v c) → Q v') : w_X0_keepBetter x (nI k) (nI i) (nI j) v Q := by
  unfold w_X0_keepBetter
  rw [hC.1]
  unfold keepS at hQ
  refine br_c (fun l => hQ v (by rw [if_pos l]; exact hC) (fun _ _ => rfl)) (fun l => nm_e (nm_e (nm_e (nm_e ?_))))
  rw [if_neg l] at hQ
  generalize hv : up2 (up2 (up2 (up2 v 5 0 x) 5 1 (nI k)) 5 2 (nI i)) 5 3 (nI j) = v5
  have ho : ∀ c, c ≠ 5 → v5 c = v c := fun c hc => by rw [← hv, up2_off _ _ _ hc, up2_off _ _ _ hc, up2_off _ _ _ hc, up2_off _ _ _ hc]
  have s : v5 5 0 = x ∧ v5 5 1 = nI k ∧ v5 5 2 = nI i ∧ v5 5 3 = nI j := by
    rw [← hv, up2_row, up2_row, up2_row, up2_row]
    exact ⟨rfl, rfl, rfl, rfl⟩
  have fin : ∀ y, y = (if k = 1 then prcS σ i j else 0) → w_X0_keepBetter_60 Q 4 y v5 := fun y hy => by
    refine ⟨vp_in_nI (n := 4) (by omega) (by decide), nm_e (hQ _ ⟨?_, fun _ => ⟨?_, ?_, ?_, ?_⟩⟩ (fun c hc => by rw [up2_off _ _ _ hc]; exact ho c hc))⟩
    · rw [up2_row, pk_un (by decide)]; exact s.1
    · rw [up2_row, pk_un (by decide)]; exact s.2.1
    · rw [up2_row, pk_un (by decide)]; exact s.2.2.1
    · rw [up2_row, pk_un (by decide)]; exact s.2.2.2
    · rw [up2_row, show ix 4 = 4 from nI_clamp (n := 4) (by omega), pk_us]; exact hy
  rcases hk with rfl | rfl
  · exact ⟨fun _ => fin 0 rfl, fun q => absurd q (by decide)⟩
  · exact ⟨fun q => absurd rfl q, fun _ => uC_price (LA_5 hL hn hm ho) hn hi hj (fin _ rfl)⟩
theorem uC_findSwap (hL : LA v 8 σ n m) (hn : n ≤ 40) (hm : m ≤ 8) (hC : CF σ v (0, 0, 0, 0)) {Q : V3 → Prop} (hQ : ∀ v', CF σ v' (bestA σ n) → (∀ c, c ≠ 5 → v' c = v c) → Q v') : w_X0_findBestSwap v Q := by
  refine loop_st (W := fun r (a : Bst) i v => w_X0_findBestSwap_2 Q r (nI i) v) (s := fun a i => foldN (stepA σ n i) (n - (i + 1)) (i + 1) a) (n := n) (a0 := (0, 0, 0, 0)) (I := fun a i v' => BI σ n a ∧ CF σ v' a ∧ (∀ c, c ≠ 5 → v' c = v c)) ?_ ?_ ⟨⟨by decide, fun q => absurd rfl q⟩, hC, fun _ _ => rfl⟩
  · intro r v' h
    rw [w_X0_findBestSwap_2, (LA_5 hL hn hm h.2.2).n8]
    exact br_t Int32.le_rfl (hQ v' h.2.1 h.2.2)
  · intro r a i v' hi h ih
    rw [w_X0_findBestSwap_2, (LA_5 hL hn hm h.2.2).n8, ← nI_succ]
    refine br_f (nx_le hi hn) ?_
    refine loop_sz (W := fun q (a : Bst) j v => w_X0_findBestSwap_17 Q (w_X0_findBestSwap_2 Q r) q (nI i) (nI j) v) (s := stepA σ n i) (n := n) (z := i + 1) (by omega) (a0 := a) (I := fun a j v' => BI σ n a ∧ CF σ v' a ∧ (∀ c, c ≠ 5 → v' c = v c)) ?_ ?_ h
    · intro q v2 h2
      rw [w_X0_findBestSwap_17, (LA_5 hL hn hm h2.2.2).n8]
      rw [nI_succ] at ih
      exact br_t Int32.le_rfl (ih v2 h2)
    · intro q a2 j v2 hij hj h2 ih2
      have hL2 := LA_5 hL hn hm h2.2.2
      have hb := BI_A hi hj (by omega) h2.1
      rw [w_X0_findBestSwap_17, hL2.n8]
      rw [nI_succ] at ih2
      have skip : ¬ (bf σ i 7 = 1 ∧ bf σ j 7 = 1) → w_X0_findBestSwap_17 Q (w_X0_findBestSwap_2 Q r) q (nI i) (nI j + 1) v2 := fun hc => by
        have e : stepA σ n i a2 j = a2 := if_neg hc
        rw [e] at ih2
        exact ih2 v2 h2
      refine br_f (nx_le hj hn) (uC_isIn hL2 hn hi ?_)
      by_cases c1 : bf σ i 7 = 1
      · rw [if_pos c1]
        refine br_f (by decide) (uC_isIn hL2 hn hj ?_)
        by_cases c2 : bf σ j 7 = 1
        · rw [if_pos c2]
          refine br_f (by decide) ?_
          have e : stepA σ n i a2 j = keepS a2 (candS σ n i j) 0 i j := if_pos ⟨c1, c2⟩
          rw [e] at ih2 hb
          have go : w_X0_keepBetter (candS σ n i j) (nI 0) (nI i) (nI j) v2 (fun v11 => w_X0_findBestSwap_65 Q (w_X0_findBestSwap_2 Q r) (w_X0_findBestSwap_17 Q (w_X0_findBestSwap_2 Q r) q) (nI i) (nI j) v11) :=
            uC_keep hL2 hn hm h2.2.1 h2.1.1 hi hj (.inl rfl) (fun v3 k1 k2 => ih2 v3 ⟨hb, k1, fun c hc => (k2 c hc).trans (h2.2.2 c hc)⟩)
          refine uC_swapGain hL2 hn hi hj (fun g => ?_) (fun g => ?_)
          · rw [show candS σ n i j = swgV σ i j from if_pos g] at go; exact go
          · rw [show candS σ n i j = 0 from if_neg g] at go; exact go
        · rw [if_neg c2]
          exact br_t rfl (skip (fun q => c2 q.2))
      · rw [if_neg c1]
        exact br_t rfl (skip (fun q => c1 q.1))
theorem uC_findBuy (hL : LA v 8 σ n m) (hn : n ≤ 40) (hm : m ≤ 8) (hO : Ow σ n m) (hC : CF σ v (bestA σ n)) {Q : V3 → Prop} (hQ : ∀ v', CF σ v' (bestB σ n) → (∀ c, c ≠ 5 → v' c = v c) → Q v') : w_X0_findBestBuyout v Q := by
  refine loop_st (W := fun r (a : Bst) i v => w_X0_findBestBuyout_2 Q r (nI i) v) (s := fun a i => foldN (stepB σ n i) n 0 a) (n := n) (a0 := bestA σ n) (I := fun a i v' => BI σ n a ∧ CF σ v' a ∧ (∀ c, c ≠ 5 → v' c = v c)) ?_ ?_ ⟨BI_bestA σ n, hC, fun _ _ => rfl⟩
  · intro r v' h
    rw [w_X0_findBestBuyout_2, (LA_5 hL hn hm h.2.2).n8]
    exact br_t Int32.le_rfl (hQ v' h.2.1 h.2.2)
  · intro r a i v' hi h ih
    rw [w_X0_findBestBuyout_2, (LA_5 hL hn hm h.2.2).n8]
    refine br_f (nx_le hi hn) ?_
    refine loop_st (W := fun q (a : Bst) j v => w_X0_findBestBuyout_15 Q (w_X0_findBestBuyout_2 Q r) q (nI i) (nI j) v) (s := stepB σ n i) (n := n) (a0 := a) (I := fun a j v' => BI σ n a ∧ CF σ v' a ∧ (∀ c, c ≠ 5 → v' c = v c)) ?_ ?_ h
    · intro q v2 h2
      rw [w_X0_findBestBuyout_15, (LA_5 hL hn hm h2.2.2).n8]
      rw [nI_succ] at ih
      exact br_t Int32.le_rfl (ih v2 h2)
    · intro q a2 j v2 hj h2 ih2
      have hL2 := LA_5 hL hn hm h2.2.2
      have hb := BI_B hi hj h2.1
      rw [w_X0_findBestBuyout_15, hL2.n8]
      rw [nI_succ] at ih2
      have skip : ¬ (bf σ i 7 = 0 ∧ bf σ j 7 = 1) → w_X0_findBestBuyout_15 Q (w_X0_findBestBuyout_2 Q r) q (nI i) (nI j + 1) v2 := fun hc => by
        have e : stepB σ n i a2 j = a2 := if_neg hc
        rw [e] at ih2
        exact ih2 v2 h2
      refine br_f (nx_le hj hn) (uC_isIn hL2 hn hi ?_)
      by_cases c1 : bf σ i 7 = 0
      · rw [if_pos c1]
        refine br_f (by decide) (uC_isIn hL2 hn hj ?_)
        by_cases c2 : bf σ j 7 = 1
        · rw [if_pos c2]
          refine br_f (by decide) ?_
          have e : stepB σ n i a2 j = keepS a2 (candB σ n i j) 1 i j := if_pos ⟨c1, c2⟩
          rw [e] at ih2 hb
          have go : w_X0_keepBetter (candB σ n i j) (nI 1) (nI i) (nI j) v2 (fun v11 => w_X0_findBestBuyout_63 Q (w_X0_findBestBuyout_2 Q r) (w_X0_findBestBuyout_15 Q (w_X0_findBestBuyout_2 Q r) q) (nI i) (nI j) v11) :=
            uC_keep hL2 hn hm h2.2.1 h2.1.1 hi hj (.inr rfl) (fun v3 k1 k2 => ih2 v3 ⟨hb, k1, fun c hc => (k2 c hc).trans (h2.2.2 c hc)⟩)
          refine uC_buyGain hL2 hn hm hO hi hj (fun g => ?_) (fun g => ?_)
          · rw [show candB σ n i j = buyV σ i j from if_pos g] at go; exact go
          · rw [show candB σ n i j = 0 from if_neg g] at go; exact go
        · rw [if_neg c2]
          exact br_t rfl (skip (fun q => c2 q.2))
      · rw [if_neg c1]
        exact br_t rfl (skip (fun q => c1 q.1))
theorem uC_findBest (hL : LA v 8 σ n m) (hn : n ≤ 40) (hm : m ≤ 8) (hO : Ow σ n m) {Q : Int32 → V3 → Prop} (hQ : ∀ v', CF σ v' (bestB σ n) → (∀ c, c ≠ 5 → v' c = v c) → Q (if (bestB σ n).1 = 0 then 0 else 1) v') : w_X0_findBest v Q := by
  refine nm_e ?_
  have hL1 : LA (up2 v 5 0 0) 8 σ n m := LA_5 hL hn hm (fun c hc => up2_off _ _ _ hc)
  refine uC_findSwap hL1 hn hm ⟨by rw [up2_row, pk_us], fun q => absurd rfl q⟩ (fun v2 h2 k2 => ?_)
  refine uC_findBuy (LA_5 hL1 hn hm k2) hn hm hO h2 (fun v3 h3 k3 => ?_)
  have h := hQ v3 h3 (fun c hc => by rw [k3 c hc, k2 c hc, up2_off _ _ _ hc])
  rw [h3.1]
  have b0 := (BI_bestB σ n).1
  by_cases z : (bestB σ n).1 = 0
  · rw [if_pos z] at h
    rw [z]
    exact br_t Int32.le_rfl ⟨.inl rfl, h⟩
  · rw [if_neg z] at h
    refine br_f (fun q => z ?_) ⟨.inr rfl, h⟩
    rw [ti_lt, zero_I] at b0
    rw [ti_le, zero_I] at q
    refine ti_eq.mpr ?_
    rw [zero_I]
    omega
end BC
