/-! PURE LEVEL 4: who holds a byte, and how many bytes are booked -/
/-- the spans lie within the file -/
def Sp (σ : Nat → Int32) (n S : Nat) : Prop := (∀ i, i < n → 0 ≤ (bf σ i 1).toInt ∧ 1 ≤ (bf σ i 2).toInt ∧ (bf σ i 1).toInt + (bf σ i 2).toInt ≤ S) ∧ 1 ≤ S ∧ S ≤ 64
theorem one_I : (1 : Int32).toInt = 1 := rfl
theorem zero_I : (0 : Int32).toInt = 0 := rfl
/-- booking i has byte x at time t -/
def cvB (σ : Nat → Int32) (i : Nat) (x t : Int) : Prop := lvB σ i = true ∧ (bf σ i 1).toInt ≤ x ∧ x < (bf σ i 1).toInt + (bf σ i 2).toInt ∧ (bf σ i 8).toInt ≤ t ∧ t < (bf σ i 9).toInt
theorem cv_cl {σ : Nat → Int32} {n S i : Nat} {x t : Int32} (hS : Sp σ n S) (hi : i < n) (hn : n ≤ 40) (hx : 0 ≤ x.toInt ∧ x.toInt ≤ 1000) (ht : 0 ≤ t.toInt ∧ t.toInt ≤ 1000000) : clB σ x 1 t (t + 1) (-1) (-1) i = true ↔ cvB σ i x.toInt t.toInt := by
  rw [clB_iff]
  have h := hS.1 i hi
  have hS2 := hS.2.2
  have e1 : (x + 1).toInt = x.toInt + 1 := by rw [ti_add (by rw [one_I]; omega) (by rw [one_I]; omega), one_I]
  have e2 : (t + 1).toInt = t.toInt + 1 := by rw [ti_add (by rw [one_I]; omega) (by rw [one_I]; omega), one_I]
  have e3 : (bf σ i 1 + bf σ i 2).toInt = (bf σ i 1).toInt + (bf σ i 2).toInt := ti_add (by omega) (by omega)
  simp only [spB, cvB, ti_le, e1, e2, e3]
  have ne := nI_neg1 (i := i) (by omega)
  exact ⟨fun ⟨a, _, _, ⟨c, d⟩, e, f⟩ => ⟨a, by omega, by omega, by omega, f⟩, fun ⟨a, c, d, e, f⟩ => ⟨a, ne, ne, ⟨by omega, by omega⟩, by omega, f⟩⟩
section HO
variable {v : V3} {n m S : Nat} {Q : Int32 → V3 → Prop}
/-- the bytes that are held at a time -/
def bytS (σ : Nat → Int32) (n S : Nat) (t : Int32) : Int32 := sumI (fun a => if hldS σ n (nI a) t = -1 then 0 else 1) S 0 0
end HO
/-- sums -/
def sN (f : Nat → Nat) : Nat → Nat
  | 0 => 0
  | k + 1 => sN f k + f k
theorem sN_congr {f g : Nat → Nat} : ∀ k, (∀ i, i < k → f i = g i) → sN f k = sN g k := by
  intro k
  induction k with
  | zero => intro _; rfl
  | succ k ih => intro h; rw [sN, sN, ih (fun i hi => h i (by omega)), h k (by omega)]
theorem sN_zero : ∀ k, sN (fun _ => 0) k = 0 := by
  intro k
  induction k with
  | zero => rfl
  | succ k ih => rw [sN, ih]
theorem sN_add (f g : Nat → Nat) : ∀ k, sN (fun i => f i + g i) k = sN f k + sN g k := by
  intro k
  induction k with
  | zero => rfl
  | succ k ih => rw [sN, sN, sN, ih]; omega
theorem sN_mul (c : Nat) (f : Nat → Nat) : ∀ k, sN (fun i => c * f i) k = c * sN f k := by
  intro k
  induction k with
  | zero => rfl
  | succ k ih => rw [sN, sN, ih, Nat.mul_add]
theorem sN_swap (F : Nat → Nat → Nat) (n : Nat) : ∀ k, sN (fun a => sN (fun i => F a i) n) k = sN (fun i => sN (fun a => F a i) k) n := by
  intro k
  induction k with
  | zero => exact (sN_zero n).symm
  | succ k ih =>
    rw [sN, ih]
    exact (sN_add (fun i => sN (fun a => F a i) k) (fun i => F k i) n).symm
theorem sN_head (g : Nat → Nat) : ∀ k, sN g (k + 1) = g 0 + sN (fun j => g (j + 1)) k := by
  intro k
  induction k with
  | zero => rw [sN, sN, sN]; omega
  | succ k ih => rw [sN, ih, sN]; omega
theorem sN_iv (lo hi : Nat) : ∀ k, sN (fun j => if lo ≤ j ∧ j < hi then 1 else 0) k = min hi k - lo := by
  intro k
  induction k with
  | zero => rw [sN]; omega
  | succ k ih =>
    rw [sN, ih]
    by_cases h : lo ≤ k ∧ k < hi
    · rw [if_pos h]; omega
    · rw [if_neg h]; omega
theorem sN_le (f : Nat → Nat) (c : Nat) : ∀ k, (∀ i, i < k → f i ≤ c) → sN f k ≤ k * c := by
  intro k
  induction k with
  | zero => intro _; rw [sN]; omega
  | succ k ih =>
    intro h
    have h1 := ih (fun i hi => h i (by omega))
    have h2 := h k (by omega)
    rw [sN, Nat.succ_mul]
    omega
theorem sumI_sN {f : Nat → Int32} : ∀ (k i c : Nat) (g : Nat → Nat), (∀ j, j < k → f (i + j) = nI (g j)) → sumI f k i (nI c) = nI (c + sN g k) := by
  intro k
  induction k with
  | zero => intro i c g _; rfl
  | succ k ih =>
    intro i c g h
    rw [sumI, sN_head]
    have h0 := h 0 (by omega)
    rw [Nat.add_zero] at h0
    rw [h0, nI_add, ih (i + 1) (c + g 0) (fun j => g (j + 1)) (fun j hj => by
      have := h (j + 1) (by omega)
      rw [← this]
      congr 1
      omega)]
    congr 1
    omega
theorem sN_one {p : Nat → Prop} [DecidablePred p] : ∀ k, (∀ i j, i < k → j < k → p i → p j → i = j) → sN (fun i => if p i then 1 else 0) k = if ∃ i, i < k ∧ p i then 1 else 0 := by
  intro k
  induction k with
  | zero => intro _; rw [sN, if_neg (fun ⟨i, h, _⟩ => by omega)]
  | succ k ih =>
    intro h
    rw [sN, ih (fun i j hi hj => h i j (by omega) (by omega))]
    by_cases hk : p k
    · rw [if_pos hk, if_neg (fun ⟨i, hi, hp⟩ => by have := h i k (by omega) (by omega) hp hk; omega), if_pos ⟨k, by omega, hk⟩]
    · rw [if_neg hk]
      by_cases he : ∃ i, i < k ∧ p i
      · obtain ⟨i, hi, hp⟩ := he
        rw [if_pos ⟨i, hi, hp⟩, if_pos ⟨i, by omega, hp⟩]
      · rw [if_neg he, if_neg (fun ⟨i, hi, hp⟩ => he ⟨i, by
          refine Classical.byContradiction (fun q => ?_)
          have : i = k := by omega
          subst this
          exact hk hp, hp⟩)]
/-- live bookings don't meet -/
def NC (σ : Nat → Int32) (n : Nat) : Prop := ∀ i j, i < n → j < n → i ≠ j → lvB σ i = true → lvB σ j = true → (bf σ i 1).toInt < (bf σ j 1).toInt + (bf σ j 2).toInt → (bf σ j 1).toInt < (bf σ i 1).toInt + (bf σ i 2).toInt → (bf σ i 8).toInt < (bf σ j 9).toInt → (bf σ j 8).toInt < (bf σ i 9).toInt → False
/-- the byte as a number: one where some live booking has it -/
def indN (σ : Nat → Int32) (n : Nat) (a : Nat) (t : Int32) : Nat := if hldS σ n (nI a) t = -1 then 0 else 1
def cvN (σ : Nat → Int32) (i : Nat) (x t : Int) : Bool := lvB σ i && (decide ((bf σ i 1).toInt ≤ x) && (decide (x < (bf σ i 1).toInt + (bf σ i 2).toInt) && (decide ((bf σ i 8).toInt ≤ t) && decide (t < (bf σ i 9).toInt))))
theorem cvN_iff {σ : Nat → Int32} {i : Nat} {x t : Int} : cvN σ i x t = true ↔ cvB σ i x t := by
  simp only [cvN, cvB, Bool.and_eq_true, decide_eq_true_eq]
theorem ind_sum {σ : Nat → Int32} {n S a : Nat} {t : Int32} (hn : n ≤ 40) (hS : Sp σ n S) (hN : NC σ n) (ha : a < S) (ht : 0 ≤ t.toInt ∧ t.toInt ≤ 1000000) : indN σ n a t = sN (fun i => if cvN σ i (a : Int) t.toInt = true then 1 else 0) n := by
  have hS2 := hS.2.2
  have ea : (nI a).toInt = a := ti_nI (by omega)
  rw [sN_one n (fun i j hi hj p q => Classical.byContradiction (fun e => by
    obtain ⟨p0, p1, p2, p3, p4⟩ := cvN_iff.mp p
    obtain ⟨q0, q1, q2, q3, q4⟩ := cvN_iff.mp q
    exact hN i j hi hj e p0 q0 (by omega) (by omega) (by omega) (by omega)))]
  unfold indN
  rcases clS_cases (σ := σ) (x1 := nI a) (x2 := 1) (x3 := t) (x4 := t + 1) (x5 := -1) (x6 := -1) hn with ⟨h1, h2⟩ | ⟨j, hj, _, h3, h4⟩
  · have g : ¬ ∃ i, i < n ∧ cvN σ i (a : Int) t.toInt = true := fun ⟨i, hi, hp⟩ => by
      have h9 := h2 i hi
      have := (cv_cl (σ := σ) (x := nI a) hS hi hn (by omega) ht).mpr (by rw [ea]; exact cvN_iff.mp hp)
      rw [h9] at this
      exact absurd this (by decide)
    rw [if_pos (show hldS σ n (nI a) t = -1 from h1), if_neg g]
  · have g : ∃ i, i < n ∧ cvN σ i (a : Int) t.toInt = true := ⟨j, hj, by
      have := (cv_cl (σ := σ) (x := nI a) hS hj hn (by omega) ht).mp h4
      rw [ea] at this
      exact cvN_iff.mpr this⟩
    rw [if_neg (show ¬ hldS σ n (nI a) t = -1 from h3), if_pos g]
theorem byt_N {σ : Nat → Int32} {n S : Nat} (t : Int32) : bytS σ n S t = nI (sN (fun a => indN σ n a t) S) := by
  have h := sumI_sN (f := fun a => if hldS σ n (nI a) t = -1 then (0 : Int32) else 1) S 0 0 (fun a => indN σ n a t) (fun j _ => by
    show (if hldS σ n (nI (0 + j)) t = -1 then (0 : Int32) else 1) = nI (indN σ n j t)
    rw [Nat.zero_add]
    unfold indN
    by_cases h : hldS σ n (nI j) t = -1
    · rw [if_pos h, if_pos h]; rfl
    · rw [if_neg h, if_neg h]; rfl)
  rw [Nat.zero_add] at h
  exact h
/-- the ticks and the bytes of a booking -/
theorem cov_sum {σ : Nat → Int32} {n S i : Nat} {T : Int} (hS : Sp σ n S) (hi : i < n) (K : Nat) (hl : lvB σ i = true) : sN (fun k => sN (fun a => if cvN σ i (a : Int) (T + k) = true then 1 else 0) S) K = (min ((bf σ i 9).toInt - T).toNat K - ((bf σ i 8).toInt - T).toNat) * (bf σ i 2).toInt.toNat := by
  have h := hS.1 i hi
  have e1 : ∀ k : Nat, sN (fun a => if cvN σ i (a : Int) (T + k) = true then 1 else 0) S = (bf σ i 2).toInt.toNat * (if ((bf σ i 8).toInt - T).toNat ≤ k ∧ k < ((bf σ i 9).toInt - T).toNat then 1 else 0) := fun k => by
    by_cases hk : ((bf σ i 8).toInt - T).toNat ≤ k ∧ k < ((bf σ i 9).toInt - T).toNat
    · rw [if_pos hk, sN_congr (g := fun a => if (bf σ i 1).toInt.toNat ≤ a ∧ a < ((bf σ i 1).toInt + (bf σ i 2).toInt).toNat then 1 else 0) S (fun a ha => by
        have : (cvN σ i (a : Int) (T + k) = true) ↔ ((bf σ i 1).toInt.toNat ≤ a ∧ a < ((bf σ i 1).toInt + (bf σ i 2).toInt).toNat) := by
          rw [cvN_iff]
          exact ⟨fun ⟨_, c1, c2, _, _⟩ => ⟨by omega, by omega⟩, fun ⟨c1, c2⟩ => ⟨hl, by omega, by omega, by omega, by omega⟩⟩
        by_cases hc : cvN σ i (a : Int) (T + k) = true
        · rw [if_pos hc, if_pos (this.mp hc)]
        · rw [if_neg hc, if_neg (fun q => hc (this.mpr q))]), sN_iv]
      omega
    · rw [if_neg hk, sN_congr (g := fun _ => 0) S (fun a ha => if_neg (fun hc => by
        obtain ⟨_, c1, c2, c3, c4⟩ := cvN_iff.mp hc
        exact hk ⟨by omega, by omega⟩)), sN_zero]
      omega
  rw [sN_congr K (fun k _ => e1 k), sN_mul, sN_iv, Nat.mul_comm]
theorem use_N {σ : Nat → Int32} {n S K : Nat} (hn : n ≤ 40) {B : Int} (hE : Tm σ n B) (hS : Sp σ n S) (hN : NC σ n) (hT : 0 ≤ (σ 7).toInt ∧ (σ 7).toInt ≤ 900000) (hK : K ≤ 1000) : useS σ n (nI K) = nI (sN (fun k => sN (fun a => indN σ n a (σ 7 + nI k)) S) K) := by
  have eT : ∀ k : Nat, k ≤ 1000 → (σ 7 + nI k).toInt = (σ 7).toInt + k := fun k hk => by
    rw [ti_add (by rw [ti_nI (by omega)]; omega) (by rw [ti_nI (by omega)]; omega), ti_nI (by omega)]
  have h1 : sN (fun k => sN (fun a => indN σ n a (σ 7 + nI k)) S) K = sN (fun i => sN (fun k => sN (fun a => if cvN σ i (a : Int) ((σ 7).toInt + k) = true then 1 else 0) S) K) n := by
    rw [← sN_swap (fun k i => sN (fun a => if cvN σ i (a : Int) ((σ 7).toInt + k) = true then 1 else 0) S) n K]
    refine sN_congr K (fun k hk => ?_)
    rw [← sN_swap (fun a i => if cvN σ i (a : Int) ((σ 7).toInt + k) = true then 1 else 0) n S]
    refine sN_congr S (fun a ha => ?_)
    rw [ind_sum hn hS hN ha (by rw [eT k (by omega)]; omega), eT k (by omega)]
  rw [h1]
  have h2 := sumI_sN (f := fun i => if lvB σ i = true then (if comS σ (nI K) i ≤ 0 then 0 else comS σ (nI K) i * bf σ i 2) else (0 : Int32)) n 0 0 (fun i => sN (fun k => sN (fun a => if cvN σ i (a : Int) ((σ 7).toInt + k) = true then 1 else 0) S) K) (fun i hi => by
    show (if lvB σ (0 + i) = true then (if comS σ (nI K) (0 + i) ≤ 0 then 0 else comS σ (nI K) (0 + i) * bf σ (0 + i) 2) else (0 : Int32)) = _
    rw [Nat.zero_add]
    by_cases hl : lvB σ i = true
    · have ht := hE.1 i hi hl
      have hB := hE.2
      have hs := hS.1 i hi
      have hs2 := hS.2.2
      have ec : (comS σ (nI K) i).toInt = min (bf σ i 9).toInt ((σ 7).toInt + K) - max (bf σ i 8).toInt (σ 7).toInt := by
        unfold comS
        rw [ti_sub (by rw [zmin_I, zmax_I, eT K (by omega)]; omega) (by rw [zmin_I, zmax_I, eT K (by omega)]; omega), zmin_I, zmax_I, eT K (by omega)]
      rw [if_pos hl, cov_sum hS hi K hl]
      by_cases hc : comS σ (nI K) i ≤ 0
      · have := ti_le.mp hc
        rw [ec, zero_I] at this
        rw [if_pos hc, show min ((bf σ i 9).toInt - (σ 7).toInt).toNat K - ((bf σ i 8).toInt - (σ 7).toInt).toNat = 0 from by omega, Nat.zero_mul]
        rfl
      · have hc' : ¬ (comS σ (nI K) i).toInt ≤ (0 : Int32).toInt := fun q => hc (ti_le.mpr q)
        rw [ec, zero_I] at hc'
        rw [if_neg hc, ← nI_mul]
        congr 1
        · refine ti_eq.mpr ?_
          rw [ec, ti_nI (by omega)]
          omega
        · refine ti_eq.mpr ?_
          rw [ti_nI (by omega)]
          omega
    · rw [if_neg hl, sN_congr (g := fun _ => 0) K (fun k _ => by
        rw [sN_congr (g := fun _ => 0) S (fun a _ => if_neg (fun hc => hl (cvN_iff.mp hc).1)), sN_zero]), sN_zero]
      rfl)
  rw [Nat.zero_add] at h2
  exact h2
theorem use_1 {σ : Nat → Int32} {n S : Nat} (hn : n ≤ 40) {B : Int} (hE : Tm σ n B) (hS : Sp σ n S) (hN : NC σ n) (hT : 0 ≤ (σ 7).toInt ∧ (σ 7).toInt ≤ 900000) : useS σ n 1 = bytS σ n S (σ 7) := by
  have h := use_N (K := 1) hn hE hS hN hT (by omega)
  rw [byt_N]
  refine Eq.trans h ?_
  rw [sN, sN, Nat.zero_add]
  rw [show σ 7 + nI 0 = σ 7 from Int32.add_zero _]
theorem use_K {σ : Nat → Int32} {n S K : Nat} (hn : n ≤ 40) {B : Int} (hE : Tm σ n B) (hS : Sp σ n S) (hN : NC σ n) (hT : 0 ≤ (σ 7).toInt ∧ (σ 7).toInt ≤ 900000) (hK : K ≤ 1000) : useS σ n (nI K) = sumI (fun k => bytS σ n S (σ 7 + nI k)) K 0 0 := by
  rw [use_N hn hE hS hN hT hK]
  have h := sumI_sN (f := fun k => bytS σ n S (σ 7 + nI k)) K 0 0 (fun k => sN (fun a => indN σ n a (σ 7 + nI k)) S) (fun k _ => by
    show bytS σ n S (σ 7 + nI (0 + k)) = _
    rw [Nat.zero_add, byt_N])
  rw [Nat.zero_add] at h
  exact h.symm
