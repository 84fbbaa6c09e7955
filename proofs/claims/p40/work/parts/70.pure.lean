/-! PURE LEVEL: numbers, the picture of a ledger, what both sides count -/
theorem ti_add {x y : Int32} (h1 : -2147483648 ≤ x.toInt + y.toInt) (h2 : x.toInt + y.toInt ≤ 2147483647) : (x + y).toInt = x.toInt + y.toInt := by
  rw [Int32.toInt_add]
  exact Int.bmod_eq_of_le (by omega) (by omega)
theorem ti_sub {x y : Int32} (h1 : -2147483648 ≤ x.toInt - y.toInt) (h2 : x.toInt - y.toInt ≤ 2147483647) : (x - y).toInt = x.toInt - y.toInt := by
  rw [Int32.toInt_sub]
  exact Int.bmod_eq_of_le (by omega) (by omega)
theorem ti_le {x y : Int32} : x ≤ y ↔ x.toInt ≤ y.toInt := Int32.le_iff_toInt_le
theorem ti_lt {x y : Int32} : x < y ↔ x.toInt < y.toInt := Int32.lt_iff_toInt_lt
theorem ti_eq {x y : Int32} : x = y ↔ x.toInt = y.toInt := Int32.toInt_inj.symm
theorem ti_nI {n : Nat} (h : n < 2147483648) : (nI n).toInt = (n : Int) := nI_toInt h
theorem ti_hi (x : Int32) : x.toInt ≤ 2147483647 := by have := Int32.toInt_lt x; omega
theorem ti_lo (x : Int32) : -2147483648 ≤ x.toInt := by have := Int32.le_toInt x; omega
theorem ti_abs {x : Int32} (h : -2147483648 < x.toInt) : (zabs x).toInt = (x.toInt.natAbs : Int) := by
  unfold zabs
  by_cases h0 : (0 : Int32) ≤ x
  · rw [if_pos h0]
    have := ti_le.mp h0
    have e : (0 : Int32).toInt = 0 := rfl
    omega
  · rw [if_neg h0]
    have h1 : ¬ (0 : Int32).toInt ≤ x.toInt := fun h => h0 (ti_le.mpr h)
    have e : (0 : Int32).toInt = 0 := rfl
    have := ti_hi x
    rw [ti_sub (by omega) (by omega)]
    omega
theorem nx_le {i n : Nat} (hi : i < n) (hn : n ≤ 40) : ¬ nI n ≤ nI i := nI_ge hi (by omega)
theorem nx_in {i n : Nat} (hi : i < n) (hn : n ≤ 40) : vp_in (nI i) 40 := vp_in_nI (by omega) (by decide)
theorem nx_ix {i n : Nat} (hi : i < n) (hn : n ≤ 40) : ix (nI i) = i := nI_clamp (by omega)
theorem nI_neg1 {i : Nat} (h : i < 2147483648) : ¬ nI i = -1 := by
  intro e
  have h1 := congrArg Int32.toInt e
  rw [ti_nI h] at h1
  have h2 : (-1 : Int32).toInt = -1 := rfl
  omega
theorem i32_a0 (x : Int32) : x + 0 = x := Int32.add_zero x
/-- booking i's field f, owner o's field f, in the flat state -/
abbrev bf (σ : Nat → Int32) (i f : Nat) : Int32 := σ (74 + 10 * i + f)
abbrev og (σ : Nat → Int32) (o f : Nat) : Int32 := σ (10 + 8 * o + f)
def putB (σ : Nat → Int32) (i f : Nat) (x : Int32) : Nat → Int32 := upd σ (74 + 10 * i + f) x
def putO (σ : Nat → Int32) (o f : Nat) (x : Int32) : Nat → Int32 := upd σ (10 + 8 * o + f) x
/-- the counts -/
def Cn (σ : Nat → Int32) (n m : Nat) : Prop := σ 5 = nI m ∧ m ≤ 8 ∧ σ 6 = nI n ∧ n ≤ 40
/-- the ledger at b holds the flat state -/
def LA (v : V3) (b : Nat) (σ : Nat → Int32) (n m : Nat) : Prop :=
  ((∀ j, j < 4 → v (b + 1) j = σ j) ∧ v b 5 = σ 4 ∧ v b 6 = σ 7 ∧ v b 7 = nI m ∧ v b 8 = nI n ∧ v b 9 = σ 8 ∧ v b 10 = σ 9) ∧ (∀ o, o < m → ∀ f, f < 8 → v (b + 6 + o) f = og σ o f) ∧ (∀ i, i < n → ∀ f, f < 10 → v (b + 14 + i) f = bf σ i f)
section SP
variable {v : V3} {b n m : Nat} {σ : Nat → Int32}
theorem LA.n8 (h : LA v b σ n m) : v b 8 = nI n := h.1.2.2.2.2.1
theorem LA.m7 (h : LA v b σ n m) : v b 7 = nI m := h.1.2.2.2.1
theorem LA.sz (h : LA v b σ n m) : v b 5 = σ 4 := h.1.2.1
theorem LA.tm (h : LA v b σ n m) : v b 6 = σ 7 := h.1.2.2.1
theorem LA.st (h : LA v b σ n m) {j : Nat} (hj : j < 4) : v (b + 1) j = σ j := h.1.1 j hj
theorem LA.bk (h : LA v b σ n m) {i : Nat} (hi : i < n) (f : Nat) (hf : f < 10) : v (b + 14 + i) f = bf σ i f := h.2.2 i hi f hf
theorem LA.ow (h : LA v b σ n m) {o : Nat} (ho : o < m) (f : Nat) (hf : f < 8) : v (b + 6 + o) f = og σ o f := h.2.1 o ho f hf
end SP
/-- sums and first places over the bookings -/
def sumI (f : Nat → Int32) : Nat → Nat → Int32 → Int32
  | 0, _, a => a
  | k + 1, i, a => sumI f k (i + 1) (a + f i)
def fstI (p : Nat → Bool) : Nat → Nat → Int32
  | 0, _ => -1
  | k + 1, i => if p i = true then nI i else fstI p k (i + 1)
theorem loop_sum {W : Nat → Int32 → Nat → Prop} {f : Nat → Int32} {n : Nat} {Qf : Int32 → Prop} (h0 : ∀ r a, Qf a → W (r + 1) a n) (hs : ∀ r a i, i < n → W r (a + f i) (i + 1) → W (r + 1) a i) {a0 : Int32} (hQ : Qf (sumI f n 0 a0)) : ∃ r, W r a0 0 := by
  have key : ∀ k i a, i + k = n → Qf (sumI f k i a) → W (k + 1) a i := by
    intro k
    induction k with
    | zero => intro i a e h; obtain rfl : i = n := by omega
              exact h0 0 a h
    | succ k ih => intro i a e h; exact hs (k + 1) a i (by omega) (ih (i + 1) _ (by omega) h)
  exact ⟨n + 1, key n 0 a0 (by omega) hQ⟩
theorem loop_fst {W : Nat → Nat → Prop} {p : Nat → Bool} {n : Nat} {Qf : Int32 → Prop} (h0 : ∀ r, Qf (-1) → W (r + 1) n) (hy : ∀ r i, i < n → p i = true → Qf (nI i) → W (r + 1) i) (hs : ∀ r i, i < n → p i = false → W r (i + 1) → W (r + 1) i) (hQ : Qf (fstI p n 0)) : ∃ r, W r 0 := by
  have key : ∀ k i, i + k = n → Qf (fstI p k i) → W (k + 1) i := by
    intro k
    induction k with
    | zero => intro i e h; obtain rfl : i = n := by omega
              exact h0 0 h
    | succ k ih =>
      intro i e h
      cases hp : p i with
      | true => rw [fstI, if_pos hp] at h; exact hy (k + 1) i (by omega) hp h
      | false => rw [fstI, if_neg (by rw [hp]; decide)] at h; exact hs (k + 1) i (by omega) hp (ih (i + 1) (by omega) h)
  exact ⟨n + 1, key n 0 (by omega) hQ⟩
theorem fstI_spec {p : Nat → Bool} : ∀ (k i : Nat), (fstI p k i = -1 ∧ ∀ j, i ≤ j → j < i + k → p j = false) ∨ (∃ j, i ≤ j ∧ j < i + k ∧ fstI p k i = nI j ∧ p j = true ∧ ∀ l, i ≤ l → l < j → p l = false) := by
  intro k
  induction k with
  | zero => intro i; exact .inl ⟨rfl, fun j h1 h2 => by omega⟩
  | succ k ih =>
    intro i
    cases hp : p i with
    | true => exact .inr ⟨i, by omega, by omega, by rw [fstI, if_pos hp], hp, fun l h1 h2 => by omega⟩
    | false =>
      have e : fstI p (k + 1) i = fstI p k (i + 1) := by rw [fstI, if_neg (by rw [hp]; decide)]
      rw [e]
      rcases ih (i + 1) with ⟨h1, h2⟩ | ⟨j, h1, h2, h3, h4, h5⟩
      · refine .inl ⟨h1, fun j h3 h4 => ?_⟩
        by_cases hj : j = i
        · subst hj; exact hp
        · exact h2 j (by omega) (by omega)
      · refine .inr ⟨j, by omega, by omega, h3, h4, fun l h6 h7 => ?_⟩
        by_cases hj : l = i
        · subst hj; exact hp
        · exact h5 l (by omega) h7
/-- what both sides ask of a booking -/
def brk (σ : Nat → Int32) (o : Nat) : Int32 := og σ o 2 + og σ o 3
def actB (σ : Nat → Int32) (i : Nat) : Bool := decide (bf σ i 7 = 0 ∨ bf σ i 7 = 1 ∨ bf σ i 7 = 2)
def lvB (σ : Nat → Int32) (i : Nat) : Bool := decide (bf σ i 7 = 1 ∨ bf σ i 7 = 2)
def joyS (σ : Nat → Int32) (i : Nat) (t : Int32) : Int32 := bf σ i 6 * zmax 0 (20 - zabs (t - bf σ i 4))
def joyN (σ : Nat → Int32) (i : Nat) : Int32 := if bf σ i 7 = 1 then joyS σ i (bf σ i 8) else 0
def hitB (σ : Nat → Int32) (x1 x2 x3 x4 : Int32) (i : Nat) : Bool := decide (¬ x1 + x2 ≤ bf σ i 1 ∧ ¬ bf σ i 1 + bf σ i 2 ≤ x1 ∧ ¬ x4 ≤ bf σ i 8 ∧ ¬ bf σ i 9 ≤ x3)
def clB (σ : Nat → Int32) (x1 x2 x3 x4 x5 x6 : Int32) (i : Nat) : Bool := lvB σ i && !decide (nI i = x5) && !decide (nI i = x6) && hitB σ x1 x2 x3 x4 i
def clS (σ : Nat → Int32) (n : Nat) (x1 x2 x3 x4 x5 x6 : Int32) : Int32 := fstI (clB σ x1 x2 x3 x4 x5 x6) n 0
def cntS (σ : Nat → Int32) (n : Nat) (x : Int32) : Int32 := sumI (fun i => if bf σ i 7 = x then 1 else 0) n 0 0
def opnS (σ : Nat → Int32) (n : Nat) (o : Int32) : Int32 := sumI (fun i => if bf σ i 0 = o ∧ actB σ i = true then 1 else 0) n 0 0
def joyO (σ : Nat → Int32) (n : Nat) (o : Int32) : Int32 := sumI (fun i => if bf σ i 0 = o then joyN σ i else 0) n 0 0
section CL
variable {v : V3} {b n m : Nat} {σ : Nat → Int32} {Q : Int32 → V3 → Prop}
theorem uC_brk (hL : LA v b σ n m) (hm : m ≤ 8) {o : Nat} (ho : o < m) (hQ : Q (brk σ o) v) : w_X1_brokenOf b (nI o) v Q := by
  refine ⟨vp_in_nI (by omega) (by decide), vp_in_nI (by omega) (by decide), ?_⟩
  rw [show ix (nI o) = o from nI_clamp (by omega), hL.ow ho 2 (by omega), hL.ow ho 3 (by omega)]
  exact hQ
theorem uC_barred (hL : LA v b σ n m) (hm : m ≤ 8) {o : Nat} (ho : o < m) (hQ : Q (if brk σ o < σ 3 then 0 else 1) v) : w_X1_isBarred b (nI o) v Q := by
  refine uC_brk hL hm ho ?_
  rw [hL.st (by omega)]
  refine br_c (fun h => ⟨.inl rfl, ?_⟩) (fun h => ⟨.inr rfl, ?_⟩)
  · rw [if_pos h] at hQ; exact hQ
  · rw [if_neg h] at hQ; exact hQ
theorem uC_act (hL : LA v b σ n m) (hn : n ≤ 40) {i : Nat} (hi : i < n) (hQ : Q (if actB σ i = true then 1 else 0) v) : w_X1_isActive b (nI i) v Q := by
  refine ⟨nx_in hi hn, ?_⟩
  rw [nx_ix hi hn, hL.bk hi 7 (by omega)]
  simp only [actB, decide_eq_true_eq] at hQ
  by_cases h0 : bf σ i 7 = 0
  · rw [if_pos (.inl h0)] at hQ; exact br_t h0 ⟨.inr rfl, hQ⟩
  refine br_f h0 ?_
  by_cases h1 : bf σ i 7 = 1
  · rw [if_pos (.inr (.inl h1))] at hQ; exact br_t h1 ⟨.inr rfl, hQ⟩
  refine br_f h1 ?_
  by_cases h2 : bf σ i 7 = 2
  · rw [if_pos (.inr (.inr h2))] at hQ; exact ⟨fun h => absurd h2 h, fun _ => ⟨.inr rfl, hQ⟩⟩
  · rw [if_neg (by simp [h0, h1, h2])] at hQ; exact ⟨fun _ => ⟨.inl rfl, hQ⟩, fun h => absurd h h2⟩
theorem uC_opn (hL : LA v b σ n m) (hn : n ≤ 40) {o : Int32} (hQ : Q (opnS σ n o) v) : w_X1_activeOf b o v Q := by
  refine loop_sum (W := fun r a i => w_X1_activeOf_4 b Q r o a (nI i) v) (Qf := fun a => Q a v) ?_ ?_ hQ
  · intro r a h
    rw [w_X1_activeOf_4, hL.n8]
    exact br_t Int32.le_rfl h
  · intro r a i hi h
    rw [w_X1_activeOf_4, hL.n8]
    refine br_f (nx_le hi hn) ⟨nx_in hi hn, ?_⟩
    rw [nx_ix hi hn, hL.bk hi 0 (by omega)]
    rw [nI_succ] at h
    by_cases h0 : bf σ i 0 = o
    · refine ⟨fun h => absurd h0 h, fun _ => uC_act hL hn hi ?_⟩
      by_cases h1 : actB σ i = true
      · rw [if_pos ⟨h0, h1⟩] at h
        rw [if_pos h1]
        exact br_f (by decide) h
      · rw [if_neg (fun h => h1 h.2), i32_a0] at h
        rw [if_neg h1]
        exact br_t rfl h
    · rw [if_neg (fun h => h0 h.1), i32_a0] at h
      exact ⟨fun _ => h, fun h => absurd h h0⟩
theorem uC_lim (hL : LA v b σ n m) (hn : n ≤ 40) {o : Int32} (hQ : Q (if opnS σ n o < σ 2 then 0 else 1) v) : w_X1_hasLimit b o v Q := by
  refine uC_opn hL hn ?_
  rw [hL.st (by omega)]
  refine br_c (fun h => ⟨.inl rfl, ?_⟩) (fun h => ⟨.inr rfl, ?_⟩)
  · rw [if_pos h] at hQ; exact hQ
  · rw [if_neg h] at hQ; exact hQ
theorem joy_alt (x y : Int32) : (if y ≤ 0 then 0 else x * y) = x * zmax 0 y := by
  unfold zmax
  by_cases h : (0 : Int32) < y
  · rw [if_pos h, if_neg (fun h2 => by have := ti_lt.mp h; have := ti_le.mp h2; omega)]
  · rw [if_neg h, if_pos (by
      refine ti_le.mpr ?_
      have h3 : ¬ (0 : Int32).toInt < y.toInt := fun h2 => h (ti_lt.mpr h2)
      omega), Int32.mul_zero]
theorem uC_joyAt (hL : LA v b σ n m) (hn : n ≤ 40) {i : Nat} (hi : i < n) {t : Int32} (hQ : Q (joyS σ i t) v) : w_X1_joyAt b (nI i) t v Q := by
  refine ⟨nx_in hi hn, ?_⟩
  rw [nx_ix hi hn, hL.bk hi 4 (by omega), hL.bk hi 6 (by omega)]
  unfold joyS at hQ
  rw [← joy_alt] at hQ
  refine br_c (fun h => ?_) (fun h => ?_)
  · rw [if_pos h] at hQ; exact hQ
  · rw [if_neg h] at hQ; exact hQ
theorem uC_joyOf (hL : LA v b σ n m) (hn : n ≤ 40) {i : Nat} (hi : i < n) (hQ : Q (joyN σ i) v) : w_X1_joyOf b (nI i) v Q := by
  refine ⟨nx_in hi hn, ?_⟩
  rw [nx_ix hi hn, hL.bk hi 7 (by omega), hL.bk hi 8 (by omega)]
  unfold joyN at hQ
  refine ⟨fun h => ?_, fun h => uC_joyAt hL hn hi ?_⟩
  · rw [if_neg h] at hQ; exact hQ
  · rw [if_pos h] at hQ; exact hQ
theorem uC_joyO (hL : LA v b σ n m) (hn : n ≤ 40) {o : Int32} (hQ : Q (joyO σ n o) v) : w_X1_joyOfOwner b o v Q := by
  refine loop_sum (W := fun r a i => w_X1_joyOfOwner_4 b Q r o a (nI i) v) (Qf := fun a => Q a v) ?_ ?_ hQ
  · intro r a h
    rw [w_X1_joyOfOwner_4, hL.n8]
    exact br_t Int32.le_rfl h
  · intro r a i hi h
    rw [w_X1_joyOfOwner_4, hL.n8]
    refine br_f (nx_le hi hn) ⟨nx_in hi hn, ?_⟩
    rw [nx_ix hi hn, hL.bk hi 0 (by omega)]
    rw [nI_succ] at h
    refine ⟨fun h0 => ?_, fun h0 => uC_joyOf hL hn hi ?_⟩
    · rw [if_neg h0, i32_a0] at h; exact h
    · rw [if_pos h0] at h; exact h
theorem uC_isIn (hL : LA v b σ n m) (hn : n ≤ 40) {i : Nat} (hi : i < n) {x : Int32} (hQ : Q (if bf σ i 7 = x then 1 else 0) v) : w_X1_isIn b (nI i) x v Q := by
  refine ⟨nx_in hi hn, ?_⟩
  rw [nx_ix hi hn, hL.bk hi 7 (by omega)]
  refine ⟨fun h => ⟨.inl rfl, ?_⟩, fun h => ⟨.inr rfl, ?_⟩⟩
  · rw [if_neg h] at hQ; exact hQ
  · rw [if_pos h] at hQ; exact hQ
theorem uC_cnt (hL : LA v b σ n m) (hn : n ≤ 40) {x : Int32} (hQ : Q (cntS σ n x) v) : w_X1_countIn b x v Q := by
  refine loop_sum (W := fun r a i => w_X1_countIn_4 b Q r x a (nI i) v) (Qf := fun a => Q a v) ?_ ?_ hQ
  · intro r a h
    rw [w_X1_countIn_4, hL.n8]
    exact br_t Int32.le_rfl h
  · intro r a i hi h
    rw [w_X1_countIn_4, hL.n8]
    refine br_f (nx_le hi hn) ⟨nx_in hi hn, ?_⟩
    rw [nx_ix hi hn, hL.bk hi 7 (by omega)]
    rw [nI_succ] at h
    refine ⟨fun h0 => ?_, fun h0 => ?_⟩
    · rw [if_neg h0, i32_a0] at h; exact h
    · rw [if_pos h0] at h; exact h
theorem uC_clash (hL : LA v b σ n m) (hn : n ≤ 40) {x1 x2 x3 x4 x5 x6 : Int32} (hQ : Q (clS σ n x1 x2 x3 x4 x5 x6) v) : w_X1_clashing b x1 x2 x3 x4 x5 x6 v Q := by
  have h39 : ∀ r i, i < n → lvB σ i = true → (clB σ x1 x2 x3 x4 x5 x6 i = true → Q (nI i) v) → (clB σ x1 x2 x3 x4 x5 x6 i = false → w_X1_clashing_3 b Q r x1 x2 x3 x4 x5 x6 (nI i + 1) v) → w_X1_clashing_39 b Q (w_X1_clashing_3 b Q r) x1 x2 x3 x4 x5 x6 (nI i) i v := by
    intro r i hi hv hy hno
    unfold w_X1_clashing_39
    rw [hL.bk hi 1 (by omega), hL.bk hi 2 (by omega), hL.bk hi 8 (by omega), hL.bk hi 9 (by omega)]
    simp only [clB, hitB, hv, Bool.true_and, Bool.and_eq_true, Bool.not_eq_true', decide_eq_false_iff_not, decide_eq_true_eq, Bool.and_eq_false_iff, Bool.not_eq_false'] at hy hno
    refine br_c (fun h => hno (by simp [h])) (fun a5 => br_c (fun h => hno (by simp [h])) (fun a6 => br_c (fun h => hno (by simp [h])) (fun a1 => br_c (fun h => hno (by simp [h])) (fun a2 => br_c (fun h => hno (by simp [h])) (fun a8 => br_c (fun h => hno (by simp [h])) (fun a9 => hy ⟨⟨a5, a6⟩, a1, a2, a8, a9⟩))))))
  refine loop_fst (W := fun r i => w_X1_clashing_3 b Q r x1 x2 x3 x4 x5 x6 (nI i) v) (Qf := fun a => Q a v) ?_ ?_ ?_ hQ
  · intro r h
    rw [w_X1_clashing_3, hL.n8]
    exact br_t Int32.le_rfl h
  · intro r i hi hp h
    rw [w_X1_clashing_3, hL.n8]
    refine br_f (nx_le hi hn) ⟨nx_in hi hn, ?_⟩
    rw [nx_ix hi hn, hL.bk hi 7 (by omega)]
    have hv : lvB σ i = true := by simp only [clB, Bool.and_eq_true] at hp; exact hp.1.1.1
    have hv' := hv
    simp only [lvB, decide_eq_true_eq] at hv'
    have g := h39 r i hi hv (fun _ => h) (fun h2 => by rw [hp] at h2; exact absurd h2 (by decide))
    exact br_c (fun _ => g) (fun h1 => ⟨fun h2 => absurd (hv'.resolve_left h1) h2, fun _ => g⟩)
  · intro r i hi hp h
    rw [w_X1_clashing_3, hL.n8]
    rw [nI_succ] at h
    refine br_f (nx_le hi hn) ⟨nx_in hi hn, ?_⟩
    rw [nx_ix hi hn, hL.bk hi 7 (by omega)]
    have g := fun hv => h39 r i hi hv (fun h2 => by rw [hp] at h2; exact absurd h2 (by decide)) (fun _ => h)
    exact br_c (fun h1 => g (by simp only [lvB, decide_eq_true_eq]; exact .inl h1)) (fun h1 => ⟨fun _ => h, fun h2 => g (by simp only [lvB, decide_eq_true_eq]; exact .inr h2)⟩)
end CL
