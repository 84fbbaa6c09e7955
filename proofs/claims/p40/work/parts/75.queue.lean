/-! PURE LEVEL 6: the order of those who wait -/
def foldN {A : Type} (s : A → Nat → A) : Nat → Nat → A → A
  | 0, _, a => a
  | k + 1, i, a => foldN s k (i + 1) (s a i)
theorem foldN_inv {A : Type} {s : A → Nat → A} {n : Nat} {P : Nat → A → Prop} {a0 : A} (h0 : P 0 a0) (hs : ∀ i a, i < n → P i a → P (i + 1) (s a i)) : P n (foldN s n 0 a0) := by
  have key : ∀ k i a, i + k = n → P i a → P n (foldN s k i a) := by
    intro k
    induction k with
    | zero => intro i a e h; obtain rfl : i = n := by omega
              exact h
    | succ k ih => intro i a e h; exact ih (i + 1) (s a i) (by omega) (hs i a (by omega) h)
  exact key n 0 a0 (by omega) h0
theorem loop_st {A : Type} {W : Nat → A → Nat → V3 → Prop} {s : A → Nat → A} {n : Nat} {I : A → Nat → V3 → Prop} {a0 : A} {v0 : V3} (h0 : ∀ r v, I (foldN s n 0 a0) n v → W (r + 1) (foldN s n 0 a0) n v) (hs : ∀ r a i v, i < n → I a i v → (∀ v', I (s a i) (i + 1) v' → W r (s a i) (i + 1) v') → W (r + 1) a i v) (hI : I a0 0 v0) : ∃ r, W r a0 0 v0 := by
  have key : ∀ k i a v, i + k = n → I a i v → foldN s k i a = foldN s n 0 a0 → W (k + 1) a i v := by
    intro k
    induction k with
    | zero => intro i a v e h q
              obtain rfl : i = n := by omega
              have q' : a = foldN s i 0 a0 := q
              subst q'
              exact h0 0 v h
    | succ k ih => intro i a v e h q; exact hs (k + 1) a i v (by omega) h (fun v' h' => ih (i + 1) (s a i) v' (by omega) h' q)
  exact ⟨n + 1, key n 0 a0 v0 (by omega) hI rfl⟩
abbrev ownI (σ : Nat → Int32) (i : Nat) : Nat := (bf σ i 0).toNatClampNeg
abbrev brkI (σ : Nat → Int32) (i : Nat) : Int32 := brk σ (ownI σ i)
def insG (g : Nat → Nat) (p i : Nat) : Nat → Nat := fun k => if k < p then g k else if k = p then i else g (k - 1)
def posF (σ : Nat → Int32) (x : Int32) (g : Nat → Nat) : Nat → Nat
  | 0 => 0
  | p + 1 => if brkI σ (g p) ≤ x then p + 1 else posF σ x g p
def stpQ (σ : Nat → Int32) (G : (Nat → Nat) × Nat) (i : Nat) : (Nat → Nat) × Nat := if bf σ i 7 = 0 then (insG G.1 (posF σ (brkI σ i) G.1 G.2) i, G.2 + 1) else G
def ordS (σ : Nat → Int32) (n : Nat) : (Nat → Nat) × Nat := foldN (stpQ σ) n 0 (fun _ => 0, 0)
theorem posF_le (σ : Nat → Int32) (x : Int32) (g : Nat → Nat) : ∀ p, posF σ x g p ≤ p := by
  intro p
  induction p with
  | zero => exact Nat.le_refl 0
  | succ p ih =>
    rw [posF]
    by_cases h : brkI σ (g p) ≤ x
    · rw [if_pos h]; exact Nat.le_refl _
    · rw [if_neg h]; omega
/-- what the order holds -/
def QI (σ : Nat → Int32) (G : (Nat → Nat) × Nat) (i : Nat) : Prop := G.2 ≤ i ∧ (∀ k, k < G.2 → G.1 k < i ∧ bf σ (G.1 k) 7 = 0) ∧ (∀ k l, k < G.2 → l < G.2 → G.1 k = G.1 l → k = l) ∧ (∀ j, j < i → bf σ j 7 = 0 → ∃ k, k < G.2 ∧ G.1 k = j)
theorem QI_step {σ : Nat → Int32} {G : (Nat → Nat) × Nat} {i : Nat} (h : QI σ G i) : QI σ (stpQ σ G i) (i + 1) := by
  obtain ⟨h1, h2, h3, h4⟩ := h
  unfold stpQ
  by_cases h0 : bf σ i 7 = 0
  · rw [if_pos h0]
    have hp := posF_le σ (brkI σ i) G.1 G.2
    generalize posF σ (brkI σ i) G.1 G.2 = p at hp
    refine ⟨by show G.2 + 1 ≤ i + 1; omega, fun k hk => ?_, fun k l hk hl e => ?_, fun j hj hj0 => ?_⟩
    · show insG G.1 p i k < i + 1 ∧ bf σ (insG G.1 p i k) 7 = 0
      have hk : k < G.2 + 1 := hk
      unfold insG
      by_cases a : k < p
      · rw [if_pos a]; have := h2 k (by omega); exact ⟨by omega, this.2⟩
      · rw [if_neg a]
        by_cases c : k = p
        · rw [if_pos c]; exact ⟨by omega, h0⟩
        · rw [if_neg c]; have := h2 (k - 1) (by omega); exact ⟨by omega, this.2⟩
    · have hk : k < G.2 + 1 := hk
      have hl : l < G.2 + 1 := hl
      have e : insG G.1 p i k = insG G.1 p i l := e
      unfold insG at e
      by_cases a : k < p
      · rw [if_pos a] at e
        by_cases a' : l < p
        · rw [if_pos a'] at e; exact h3 k l (by omega) (by omega) e
        · rw [if_neg a'] at e
          by_cases c' : l = p
          · rw [if_pos c'] at e; have := (h2 k (by omega)).1; omega
          · rw [if_neg c'] at e; have := h3 k (l - 1) (by omega) (by omega) e; omega
      · rw [if_neg a] at e
        by_cases c : k = p
        · rw [if_pos c] at e
          by_cases a' : l < p
          · rw [if_pos a'] at e; have := (h2 l (by omega)).1; omega
          · rw [if_neg a'] at e
            by_cases c' : l = p
            · omega
            · rw [if_neg c'] at e; have := (h2 (l - 1) (by omega)).1; omega
        · rw [if_neg c] at e
          by_cases a' : l < p
          · rw [if_pos a'] at e; have := h3 (k - 1) l (by omega) (by omega) e; omega
          · rw [if_neg a'] at e
            by_cases c' : l = p
            · rw [if_pos c'] at e; have := (h2 (k - 1) (by omega)).1; omega
            · rw [if_neg c'] at e; have := h3 (k - 1) (l - 1) (by omega) (by omega) e; omega
    · show ∃ k, k < G.2 + 1 ∧ insG G.1 p i k = j
      by_cases a : j = i
      · subst a
        refine ⟨p, by omega, ?_⟩
        unfold insG
        rw [if_neg (by omega), if_pos rfl]
      · obtain ⟨k, k1, k2⟩ := h4 j (by omega) hj0
        by_cases c : k < p
        · refine ⟨k, by omega, ?_⟩
          unfold insG
          rw [if_pos c]; exact k2
        · refine ⟨k + 1, by omega, ?_⟩
          unfold insG
          rw [if_neg (by omega), if_neg (by omega)]; exact k2
  · rw [if_neg h0]
    refine ⟨by omega, fun k hk => ?_, h3, fun j hj hj0 => ?_⟩
    · have := h2 k hk; exact ⟨by omega, this.2⟩
    · by_cases a : j = i
      · subst a; exact absurd hj0 h0
      · exact h4 j (by omega) hj0
theorem QI_ord (σ : Nat → Int32) (n : Nat) : QI σ (ordS σ n) n :=
  foldN_inv (P := fun i G => QI σ G i) ⟨Nat.le_refl 0, fun k hk => absurd hk (Nat.not_lt_zero k), fun k l hk => absurd hk (Nat.not_lt_zero k), fun j hj => absurd hj (Nat.not_lt_zero j)⟩ (fun _ _ _ h => QI_step h)
/-- an array while a place in it is made free -/
def SH (a : Nat → Int32) (g : Nat → Nat) (p w : Nat) : Prop := (∀ k, k < p → a k = nI (g k)) ∧ (∀ k, p ≤ k → k < w → a (k + 1) = nI (g k))
theorem SH_0 {a : Nat → Int32} {g : Nat → Nat} {w : Nat} (h : ∀ k, k < w → a k = nI (g k)) : SH a g w w := ⟨h, fun k h1 h2 => absurd h2 (by omega)⟩
theorem SH_s {a : Nat → Int32} {g : Nat → Nat} {p w : Nat} (h : SH a g (p + 1) w) : SH (upd a (p + 1) (a p)) g p w := by
  refine ⟨fun k hk => ?_, fun k h1 h2 => ?_⟩
  · rw [pk_un (by omega)]; exact h.1 k (by omega)
  · by_cases e : k = p
    · subst e; rw [pk_us]; exact h.1 k (by omega)
    · rw [pk_un (by omega)]; exact h.2 k (by omega) h2
theorem SH_e {a : Nat → Int32} {g : Nat → Nat} {p w i : Nat} (h : SH a g p w) (k : Nat) (hk : k < w + 1) : upd a p (nI i) k = nI (insG g p i k) := by
  unfold insG
  by_cases c : k < p
  · rw [if_pos c, pk_un (by omega)]; exact h.1 k c
  · rw [if_neg c]
    by_cases e : k = p
    · subst e; rw [if_pos rfl, pk_us]
    · rw [if_neg e, pk_un e]
      have := h.2 (k - 1) (by omega) (by omega)
      rw [Nat.sub_add_cancel (by omega)] at this
      exact this
theorem own_of {σ : Nat → Int32} {n m i : Nat} (hO : Ow σ n m) (hm : m ≤ 8) (hi : i < n) : ownI σ i < m ∧ bf σ i 0 = nI (ownI σ i) := by
  obtain ⟨o, ho, e⟩ := hO i hi
  have : ownI σ i = o := by
    unfold ownI
    rw [e]
    exact nI_clamp (by omega)
  rw [this]
  exact ⟨ho, e⟩
theorem nI_dec (p : Nat) : nI (p + 1) + (-1) = nI p := by
  rw [nI_succ, Int32.add_assoc, show (1 + -1 : Int32) = 0 from by decide, Int32.add_zero]
section QC
variable {v : V3} {b n m : Nat} {σ : Nat → Int32}
theorem uC_queue (hL : LA v b σ n m) (hn : n ≤ 40) (hm : m ≤ 8) (hO : Ow σ n m) {Q : Int32 → V3 → Prop} (hQ : ∀ v', (∀ k, k < (ordS σ n).2 → v' (b + 5) k = nI ((ordS σ n).1 k)) → (∀ c, c ≠ b + 5 → v' c = v c) → Q (nI (ordS σ n).2) v') : w_X1_queueUp b v Q := by
  refine loop_st (W := fun r (G : (Nat → Nat) × Nat) i v => w_X1_queueUp_4 b Q r (nI G.2) (nI i) v) (s := stpQ σ) (I := fun G i v' => QI σ G i ∧ (∀ k, k < G.2 → v' (b + 5) k = nI (G.1 k)) ∧ (∀ c, c ≠ b + 5 → v' c = v c)) (n := n) (a0 := ((fun _ => 0 : Nat → Nat), 0)) ?_ ?_ ⟨⟨Nat.le_refl 0, fun k hk => absurd hk (Nat.not_lt_zero k), fun k l hk => absurd hk (Nat.not_lt_zero k), fun j hj => absurd hj (Nat.not_lt_zero j)⟩, fun k hk => absurd hk (Nat.not_lt_zero k), fun c _ => rfl⟩
  · intro r v' h
    have hL' : LA v' b σ n m := LA_c hL hn hm (fun c _ _ _ h5 => h.2.2 c h5)
    rw [w_X1_queueUp_4, hL'.n8]
    exact br_t Int32.le_rfl (hQ v' h.2.1 h.2.2)
  · intro r G i v' hi h ih
    have hL' : LA v' b σ n m := LA_c hL hn hm (fun c _ _ _ h5 => h.2.2 c h5)
    rw [w_X1_queueUp_4, hL'.n8]
    refine br_f (nx_le hi hn) ⟨nx_in hi hn, ?_⟩
    rw [nx_ix hi hn, hL'.bk hi 7 (by omega), hL'.bk hi 0 (by omega)]
    by_cases h0 : bf σ i 7 = 0
    · refine ⟨fun q => absurd h0 q, fun _ => ⟨nx_in hi hn, ?_⟩⟩
      obtain ⟨o1, o2⟩ := own_of hO hm hi
      rw [o2]
      refine uC_brk hL' hm o1 ?_
      obtain ⟨g, w⟩ := G
      have hw : w ≤ i := h.1.1
      have e1 : stpQ σ (g, w) i = (insG g (posF σ (brkI σ i) g w) i, w + 1) := if_pos h0
      rw [e1] at ih
      have key : ∀ p, p ≤ w → ∀ v1 : V3, SH (v1 (b + 5)) g p w → (∀ c, c ≠ b + 5 → v1 c = v c) → posF σ (brkI σ i) g p = posF σ (brkI σ i) g w → w_X1_queueUp_40 b Q (w_X1_queueUp_4 b Q r) (p + 1) (nI w) (nI i) (brkI σ i) (nI p) v1 := by
        intro p
        induction p with
        | zero =>
          intro hp v1 hs hf hpos
          rw [w_X1_queueUp_40]
          refine br_t Int32.le_rfl ⟨vp_in_nI (by omega) (by decide), nm_e ?_⟩
          have : w_X1_queueUp_4 b Q r (nI (w + 1)) (nI (i + 1)) (up2 v1 (b + 5) 0 (nI i)) := ih _ ⟨by rw [← e1]; exact QI_step h.1, fun k hk => by
            rw [up2_row, ← hpos]; exact SH_e hs k hk, fun c hc => by rw [up2_off _ _ _ hc]; exact hf c hc⟩
          rw [nI_succ w, nI_succ i] at this
          exact this
        | succ p ihp =>
          intro hp v1 hs hf hpos
          have hL1 : LA v1 b σ n m := LA_c hL hn hm (fun c _ _ _ h5 => hf c h5)
          rw [w_X1_queueUp_40, nI_pred]
          have hg := (h.1.2.1 p hp)
          have hgn : g p < n := Nat.lt_trans hg.1 hi
          refine br_f (nI_nle (by omega) (by omega)) ⟨vp_in_nI (by omega) (by decide), ?_⟩
          rw [show ix (nI p) = p from nI_clamp (by omega), hs.1 p (by omega), nx_ix hgn hn, hL1.bk hgn 0 (by omega)]
          refine ⟨nx_in hgn hn, ?_⟩
          obtain ⟨p1, p2⟩ := own_of hO hm hgn
          rw [p2]
          refine uC_brk hL1 hm p1 ?_
          rw [posF] at hpos
          refine br_c (fun hc => ?_) (fun hc => ?_)
          · rw [if_pos hc] at hpos
            refine ⟨vp_in_nI (by omega) (by decide), nm_e ?_⟩
            rw [show ix (nI (p + 1)) = p + 1 from nI_clamp (by omega)]
            have : w_X1_queueUp_4 b Q r (nI (w + 1)) (nI (i + 1)) (up2 v1 (b + 5) (p + 1) (nI i)) := ih _ ⟨by rw [← e1]; exact QI_step h.1, fun k hk => by
              rw [up2_row, ← hpos]; exact SH_e hs k hk, fun c hc => by rw [up2_off _ _ _ hc]; exact hf c hc⟩
            rw [nI_succ w, nI_succ i] at this
            exact this
          · rw [if_neg hc] at hpos
            refine ⟨vp_in_nI (by omega) (by decide), vp_in_nI (by omega) (by decide), nm_e ?_⟩
            rw [show ix (nI (p + 1)) = p + 1 from nI_clamp (by omega), show nI (p + 1) + (-1) = nI p from nI_dec p]
            refine ihp (by omega) _ ?_ ?_ hpos
            · rw [up2_row]; exact SH_s hs
            · exact fun c hc => by rw [up2_off _ _ _ hc]; exact hf c hc
      exact ⟨w + 1, key w (Nat.le_refl w) v' (SH_0 h.2.1) h.2.2 rfl⟩
    · refine ⟨fun _ => ?_, fun q => absurd q h0⟩
      have e1 : stpQ σ G i = G := if_neg h0
      have hq := QI_step h.1
      rw [e1] at ih hq
      have := ih v' ⟨hq, h.2.1, h.2.2⟩
      rw [nI_succ i] at this
      exact this
/-- the waiting booking at a place -/
def wtrS (σ : Nat → Int32) (n : Nat) (x : Int32) : Int32 := if nI (ordS σ n).2 ≤ x then -1 else nI ((ordS σ n).1 x.toNatClampNeg)
theorem uC_waiter (hL : LA v b σ n m) (hn : n ≤ 40) (hm : m ≤ 8) (hO : Ow σ n m) {x : Int32} (hx : ¬ x < 0) {Q : Int32 → V3 → Prop} (hQ : ∀ v', (∀ c, c ≠ b + 5 → v' c = v c) → Q (wtrS σ n x) v') : w_X1_waiterAt b x v Q := by
  refine uC_queue hL hn hm hO (fun v' h1 h2 => ?_)
  have h := hQ v' h2
  have hw := (QI_ord σ n).1
  unfold wtrS at h
  refine br_f hx (br_c (fun q => ?_) (fun q => ?_))
  · rw [if_pos q] at h; exact h
  · rw [if_neg q] at h
    obtain ⟨k, hk, rfl⟩ := nI_of hx
    have hk2 : k < (ordS σ n).2 := Classical.byContradiction (fun z => q (nI_le (by omega) (by omega)))
    have e : ix (nI k) = k := nI_clamp (by omega)
    refine ⟨vp_in_nI (by omega) (by decide), ?_⟩
    rw [e, h1 k hk2]
    rw [show (nI k).toNatClampNeg = k from e] at h
    exact h
end QC
