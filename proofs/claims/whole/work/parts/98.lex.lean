/-! THE TEXT OF A SETUP 1: tokens -/
def tL (x : Nat) : Bool := decide (97 ≤ x ∧ x ≤ 122)
def tD (x : Nat) : Bool := decide (48 ≤ x ∧ x ≤ 57)
def tS (x : Nat) : Bool := decide (x = 32 ∨ x = 10)
/-- the end of a run -/
def rn (β : Nat → Nat) (p : Nat → Bool) : Nat → Nat → Nat
  | 0, k => k
  | f + 1, k => if p (β k) = true then rn β p f (k + 1) else k
/-- the number -/
def nmF (β : Nat → Nat) : Nat → Nat → Nat → Nat
  | 0, _, a => a
  | f + 1, k, a => if tD (β k) = true then nmF β f (k + 1) (10 * a + (β k - 48)) else a
/-- the word -/
def pw (β : Nat → Nat) (st : Nat) : Nat → Nat
  | 0 => 0
  | k + 1 => 27 * pw β st k + (β (st + k) - 96)
section LX
variable (β : Nat → Nat) (T st : Nat)
def sk : Nat := rn β tS (T - st) st
def kd : Nat := if T ≤ st then 0 else if tL (β st) = true then 1 else if tD (β st) = true then 2 else if β st = 59 then 3 else 4
def en : Nat := if T ≤ st then st else if tL (β st) = true then rn β tL (T - st) st else if tD (β st) = true then rn β tD (T - st) st else st + 1
def nm : Nat := nmF β (T - st) st 0
def nx : Nat := sk β T (en β T st)
def kr : Nat → Nat
  | 0 => 0
  | 1 => 2
  | 2 => 3
  | 3 => 4
  | _ => 1
end LX
theorem rn_ge (β : Nat → Nat) (p : Nat → Bool) : ∀ f k, k ≤ rn β p f k
  | 0, k => Nat.le_refl k
  | f + 1, k => by
    show k ≤ if p (β k) = true then rn β p f (k + 1) else k
    have := rn_ge β p f (k + 1)
    by_cases c : p (β k) = true
    · rw [if_pos c]; omega
    · rw [if_neg c]; omega
theorem rn_le (β : Nat → Nat) (p : Nat → Bool) : ∀ f k, rn β p f k ≤ k + f
  | 0, k => Nat.le_refl k
  | f + 1, k => by
    show (if p (β k) = true then rn β p f (k + 1) else k) ≤ k + (f + 1)
    have := rn_le β p f (k + 1)
    by_cases c : p (β k) = true
    · rw [if_pos c]; omega
    · rw [if_neg c]; omega
theorem rn_in (β : Nat → Nat) (p : Nat → Bool) : ∀ f k i, k ≤ i → i < rn β p f k → p (β i) = true
  | 0, k, i, h, h' => absurd h' (by show ¬ i < k; omega)
  | f + 1, k, i, h, h' => by
    have h' : i < if p (β k) = true then rn β p f (k + 1) else k := h'
    by_cases c : p (β k) = true
    · rw [if_pos c] at h'
      by_cases e : i = k
      · subst e; exact c
      · exact rn_in β p f (k + 1) i (by omega) h'
    · rw [if_neg c] at h'; omega
theorem sk_b {β : Nat → Nat} {T p : Nat} (h : p ≤ T) : p ≤ sk β T p ∧ sk β T p ≤ T := by
  have := rn_ge β tS (T - p) p
  have := rn_le β tS (T - p) p
  unfold sk
  omega
theorem en_b {β : Nat → Nat} {T st : Nat} (h : st ≤ T) : st ≤ en β T st ∧ en β T st ≤ T ∧ (¬ kd β T st = 0 → st + 1 ≤ en β T st) := by
  unfold en kd
  by_cases c : T ≤ st
  · rw [if_pos c, if_pos c]; omega
  · rw [if_neg c, if_neg c]
    obtain ⟨f, hf⟩ : ∃ f, T - st = f + 1 := ⟨T - st - 1, by omega⟩
    by_cases c1 : tL (β st) = true
    · rw [if_pos c1, hf]
      have e : rn β tL (f + 1) st = rn β tL f (st + 1) := if_pos c1
      have := rn_ge β tL f (st + 1)
      have := rn_le β tL f (st + 1)
      omega
    · rw [if_neg c1]
      by_cases c2 : tD (β st) = true
      · rw [if_pos c2, hf]
        have e : rn β tD (f + 1) st = rn β tD f (st + 1) := if_pos c2
        have := rn_ge β tD f (st + 1)
        have := rn_le β tD f (st + 1)
        omega
      · rw [if_neg c2]; omega
theorem nx_b {β : Nat → Nat} {T st : Nat} (h : st ≤ T) : st ≤ nx β T st ∧ nx β T st ≤ T ∧ (¬ kd β T st = 0 → st + 1 ≤ nx β T st) := by
  have a := en_b (β := β) h
  have b := sk_b (β := β) (p := en β T st) a.2.1
  unfold nx
  omega
/-- both texts -/
def BY (v : V3) (β : Nat → Nat) (T : Nat) : Prop := T ≤ 800 ∧ ∀ k, k < T → β k < 256 ∧ v 16 k = nI (β k) ∧ v 1 k = (nI (β k)).toInt8.toInt32
theorem by_f : ∀ j, j < 256 → (j ≤ 127 ∧ (nI j).toInt8.toInt32 = nI j) ∨ (127 < j ∧ (nI j).toInt8.toInt32 < 0) := by decide +kernel
theorem by_64 : ∀ j, j < 256 → (nI j).toInt64 = Int64.ofNat j := by decide +kernel
theorem nI_sb {a b : Nat} (h : b ≤ a) : nI a - nI b = nI (a - b) := by
  have : nI a = nI (a - b) + nI b := by rw [nI_add, Nat.sub_add_cancel h]
  rw [this, Int32.add_sub_cancel]
theorem zmin_nI {a : Nat} (h : a < 2 ^ 31) : zmin (nI a) 1000000 = nI (min a 1000000) := by
  have e : (1000000 : Int32) = nI 1000000 := rfl
  unfold zmin
  by_cases c : (1000000 : Int32) < nI a
  · rw [if_pos c]
    rw [e, nI_ltI (by omega) (by omega)] at c
    rw [Nat.min_eq_right (by omega)]
    rfl
  · rw [if_neg c]
    rw [e, nI_ltI (by omega) (by omega)] at c
    rw [Nat.min_eq_left (by omega)]
section LC
variable {v : V3} {β : Nat → Nat} {T : Nat}
theorem uC_isL {x : Nat} (hx : x < 256) {Q : Int32 → V3 → Prop} (h1 : tL x = true → Q 1 v) (h0 : ¬ tL x = true → Q 0 v) : w_X2_isLetter ((nI x).toInt8.toInt32) v Q := by
  unfold w_X2_isLetter w_X2_isLetter_16 w_X2_isLetter_17
  have nl : ¬ (97 ≤ x ∧ x ≤ 122) → ¬ tL x = true := fun q z => q (of_decide_eq_true z)
  rcases by_f x hx with ⟨a, e⟩ | ⟨a, e⟩
  · rw [e]
    have k1 : nI x < 97 ↔ x < 97 := nI_ltI (b := 97) (by omega) (by omega)
    have k2 : 122 < nI x ↔ 122 < x := nI_ltI (a := 122) (by omega) (by omega)
    exact br_c (fun c => ⟨.inl rfl, h0 (nl (by have := k1.mp c; omega))⟩) (fun c => br_c (fun d => ⟨.inl rfl, h0 (nl (by have := k2.mp d; omega))⟩) (fun d => ⟨.inr rfl, h1 (decide_eq_true (by
      have a1 : ¬ x < 97 := fun q => c (k1.mpr q)
      have a2 : ¬ 122 < x := fun q => d (k2.mpr q)
      omega))⟩))
  · exact br_t (Int32.lt_trans e (by decide)) ⟨.inl rfl, h0 (nl (by omega))⟩
theorem uC_isD {x : Nat} (hx : x < 256) {Q : Int32 → V3 → Prop} (h1 : tD x = true → Q 1 v) (h0 : ¬ tD x = true → Q 0 v) : w_X2_isDigit ((nI x).toInt8.toInt32) v Q := by
  unfold w_X2_isDigit w_X2_isDigit_16 w_X2_isDigit_17
  have nl : ¬ (48 ≤ x ∧ x ≤ 57) → ¬ tD x = true := fun q z => q (of_decide_eq_true z)
  rcases by_f x hx with ⟨a, e⟩ | ⟨a, e⟩
  · rw [e]
    have k1 : nI x < 48 ↔ x < 48 := nI_ltI (b := 48) (by omega) (by omega)
    have k2 : 57 < nI x ↔ 57 < x := nI_ltI (a := 57) (by omega) (by omega)
    exact br_c (fun c => ⟨.inl rfl, h0 (nl (by have := k1.mp c; omega))⟩) (fun c => br_c (fun d => ⟨.inl rfl, h0 (nl (by have := k2.mp d; omega))⟩) (fun d => ⟨.inr rfl, h1 (decide_eq_true (by
      have a1 : ¬ x < 48 := fun q => c (k1.mpr q)
      have a2 : ¬ 57 < x := fun q => d (k2.mpr q)
      omega))⟩))
  · exact br_t (Int32.lt_trans e (by decide)) ⟨.inl rfl, h0 (nl (by omega))⟩
theorem uM_isL {x : Nat} (hx : x < 256) {Q : Int32 → V3 → Prop} (h1 : tL x = true → Q 1 v) (h0 : ¬ tL x = true → Q 0 v) : w_X4_isLetter (nI x) v Q := by
  have k1 : nI x < 97 ↔ x < 97 := nI_ltI (b := 97) (by omega) (by omega)
  have k2 : 122 < nI x ↔ 122 < x := nI_ltI (a := 122) (by omega) (by omega)
  refine uM_btw (lo := 97) (hi := 122) rfl rfl (fun c d => ⟨.inr rfl, h1 (decide_eq_true ?_)⟩) (fun c => ⟨.inl rfl, h0 (fun z => ?_)⟩)
  · have a1 : ¬ x < 97 := fun q => c (k1.mpr q)
    have a2 : ¬ 122 < x := fun q => d (k2.mpr q)
    omega
  · have := of_decide_eq_true z
    rw [k1, k2] at c
    omega
theorem uM_isD {x : Nat} (hx : x < 256) {Q : Int32 → V3 → Prop} (h1 : tD x = true → Q 1 v) (h0 : ¬ tD x = true → Q 0 v) : w_X4_isDigit (nI x) v Q := by
  have k1 : nI x < 48 ↔ x < 48 := nI_ltI (b := 48) (by omega) (by omega)
  have k2 : 57 < nI x ↔ 57 < x := nI_ltI (a := 57) (by omega) (by omega)
  refine uM_btw (lo := 48) (hi := 57) rfl rfl (fun c d => ⟨.inr rfl, h1 (decide_eq_true ?_)⟩) (fun c => ⟨.inl rfl, h0 (fun z => ?_)⟩)
  · have a1 : ¬ x < 48 := fun q => c (k1.mpr q)
    have a2 : ¬ 57 < x := fun q => d (k2.mpr q)
    omega
  · have := of_decide_eq_true z
    rw [k1, k2] at c
    omega
theorem uM_isL' {Q : Int32 → V3 → Prop} (h0 : Q 0 v) : w_X4_isLetter (-1) v Q := uM_btw (lo := 97) (hi := 122) rfl rfl (fun c _ => absurd (by decide) c) (fun _ => ⟨.inl rfl, h0⟩)
theorem uM_isD' {Q : Int32 → V3 → Prop} (h0 : Q 0 v) : w_X4_isDigit (-1) v Q := uM_btw (lo := 48) (hi := 57) rfl rfl (fun c _ => absurd (by decide) c) (fun _ => ⟨.inl rfl, h0⟩)
theorem uM_byteAt (hb : BY v β T) (h13 : v 7 13 = nI T) {k : Nat} (hk : k ≤ T) {Q : Int32 → V3 → Prop} (h0 : k = T → Q (-1) v) (h1 : k < T → Q (nI (β k)) v) : w_X4_byteAt (nI k) v Q := by
  have hT := hb.1
  unfold w_X4_byteAt w_X4_byteAt_18
  rw [h13]
  have k1 : nI T ≤ nI k ↔ T ≤ k := nI_leI (by omega) (by omega)
  refine br_c (fun c => h0 (by have := k1.mp c; omega)) (fun c => ?_)
  have hkT : k < T := by have : ¬ T ≤ k := fun q => c (k1.mpr q); omega
  refine ⟨vp_in_nI (by omega) (by decide), ?_⟩
  rw [show ix (nI k) = k from nI_clamp (by omega), (hb.2 k hkT).2.1]
  exact h1 hkT
/-- the class passes letters and digits -/
def G6 (v v' : V3) : Prop := (∀ c, c ≠ 6 → v' c = v c) ∧ ∀ j, j ≠ 3 → j ≠ 6 → v' 6 j = v 6 j
theorem G6_r (v : V3) : G6 v v := ⟨fun _ _ => rfl, fun _ _ _ => rfl⟩
theorem G6_t {v w x : V3} (h : G6 v w) (h' : G6 w x) : G6 v x := ⟨fun c k => (h'.1 c k).trans (h.1 c k), fun j a b => (h'.2 j a b).trans (h.2 j a b)⟩
theorem G6_3 (v : V3) (x : Int32) : G6 v (up2 v 6 3 x) := ⟨fun _ h => up2_off _ _ _ h, fun j a _ => by rw [up2_row, pk_un a]⟩
theorem G6_6 (v : V3) (x : Int32) : G6 v (up2 v 6 6 x) := ⟨fun _ h => up2_off _ _ _ h, fun j _ a => by rw [up2_row, pk_un a]⟩
theorem BY_c {w : V3} (hb : BY v β T) (h1 : w 1 = v 1) (h16 : w 16 = v 16) : BY w β T := by unfold BY; rw [h1, h16]; exact hb
theorem BY_6 {w : V3} (hb : BY v β T) (h : G6 v w) : BY w β T := BY_c hb (h.1 1 (by decide)) (h.1 16 (by decide))
theorem uC_pL {Q : V3 → Prop} : ∀ f k v, k + f = T → BY v β T → v 6 2 = nI T → v 6 3 = nI k → (∀ v', v' 6 3 = nI (rn β tL f k) → G6 v v' → Q v') → w_X2_passLetters_0 Q (f + 1) v
  | 0, k, v, hk, hb, h2, h3, hQ => by
    have hT := hb.1
    rw [w_X2_passLetters_0, h2, h3]
    exact br_t (nI_le (by omega) (by omega)) (hQ v h3 (G6_r v))
  | f + 1, k, v, hk, hb, h2, h3, hQ => by
    have hT := hb.1
    rw [w_X2_passLetters_0, h2, h3]
    have b := hb.2 k (by omega)
    refine br_f (nI_ge (by omega) (by omega)) ⟨vp_in_nI (by omega) (by decide), ?_⟩
    rw [show ix (nI k) = k from nI_clamp (by omega), b.2.2]
    refine uC_isL b.1 (fun c => zt1 (nm_e ?_)) (fun c => zt0 (hQ v ?_ (G6_r v)))
    · rw [h3, nI_1]
      refine uC_pL f (k + 1) _ (by omega) (BY_6 hb (G6_3 v _)) (by rw [up2_row, pk_un (by decide)]; exact h2) (by rw [up2_row, pk_us]) (fun v' e g => hQ v' ?_ (G6_t (G6_3 v _) g))
      rw [e]
      show _ = nI (if tL (β k) = true then rn β tL f (k + 1) else k)
      rw [if_pos c]
    · rw [h3]
      show _ = nI (if tL (β k) = true then rn β tL f (k + 1) else k)
      rw [if_neg c]
theorem num_C {a b : Nat} (h : tD b = true) : zmin ((((nI (min a 1000000)) * 10) + nI b) - 48) 1000000 = nI (min (10 * a + (b - 48)) 1000000) := by
  have hb := of_decide_eq_true h
  rw [show (10 : Int32) = nI 10 from rfl, nI_mul, nI_add, show (48 : Int32) = nI 48 from rfl, nI_sb (by omega), zmin_nI (by omega)]
  congr 1
  omega
theorem uC_pD {Q : V3 → Prop} : ∀ f k a v, k + f = T → BY v β T → v 6 2 = nI T → v 6 3 = nI k → v 6 6 = nI (min a 1000000) → (∀ v', v' 6 3 = nI (rn β tD f k) → v' 6 6 = nI (min (nmF β f k a) 1000000) → G6 v v' → Q v') → w_X2_passDigits_0 Q (f + 1) v
  | 0, k, a, v, hk, hb, h2, h3, h6, hQ => by
    have hT := hb.1
    rw [w_X2_passDigits_0, h2, h3]
    exact br_t (nI_le (by omega) (by omega)) (hQ v h3 h6 (G6_r v))
  | f + 1, k, a, v, hk, hb, h2, h3, h6, hQ => by
    have hT := hb.1
    rw [w_X2_passDigits_0, h2, h3]
    have b := hb.2 k (by omega)
    refine br_f (nI_ge (by omega) (by omega)) ⟨vp_in_nI (by omega) (by decide), ?_⟩
    rw [show ix (nI k) = k from nI_clamp (by omega), b.2.2]
    refine uC_isD b.1 (fun c => zt1 ?_) (fun c => zt0 (hQ v ?_ ?_ (G6_r v)))
    · have hd := of_decide_eq_true c
      have e1 : (nI (β k)).toInt8.toInt32 = nI (β k) := by
        rcases by_f _ b.1 with ⟨_, e⟩ | ⟨q, _⟩
        · exact e
        · omega
      rw [h3]
      refine ⟨vp_in_nI (by omega) (by decide), nm_e ?_⟩
      rw [show ix (nI k) = k from nI_clamp (by omega), b.2.2, e1, h6, num_C c]
      refine nm_e ?_
      rw [show up2 v 6 6 (nI (min (10 * a + (β k - 48)) 1000000)) 6 3 = nI k by rw [up2_row, pk_un (by decide)]; exact h3, nI_1]
      have g := G6_t (G6_6 v (nI (min (10 * a + (β k - 48)) 1000000))) (G6_3 _ (nI (k + 1)))
      refine uC_pD f (k + 1) (10 * a + (β k - 48)) _ (by omega) (BY_6 hb g) ((g.2 2 (by decide) (by decide)).trans h2) (by rw [up2_row, pk_us]) (by rw [up2_row, pk_un (by decide), up2_row, pk_us]) (fun v' e e' g' => hQ v' ?_ ?_ (G6_t g g'))
      · rw [e]
        show _ = nI (if tD (β k) = true then rn β tD f (k + 1) else k)
        rw [if_pos c]
      · rw [e']
        show _ = nI (min (if tD (β k) = true then nmF β f (k + 1) (10 * a + (β k - 48)) else a) 1000000)
        rw [if_pos c]
    · rw [h3]
      show _ = nI (if tD (β k) = true then rn β tD f (k + 1) else k)
      rw [if_neg c]
    · rw [h6]
      show _ = nI (min (if tD (β k) = true then nmF β f (k + 1) (10 * a + (β k - 48)) else a) 1000000)
      rw [if_neg c]
/-- the class stands at a token -/
def CT (v : V3) (β : Nat → Nat) (T st : Nat) : Prop := v 6 2 = nI T ∧ v 6 3 = nI (en β T st) ∧ v 6 4 = nI (kd β T st) ∧ v 6 5 = nI st ∧ (kd β T st = 2 → v 6 6 = nI (min (nm β T st) 1000000)) ∧ st ≤ T
def F6 (v v' : V3) : Prop := (∀ c, c ≠ 6 → v' c = v c) ∧ v' 6 7 = v 6 7 ∧ v' 6 8 = v 6 8
theorem F6_r (v : V3) : F6 v v := ⟨fun _ _ => rfl, rfl, rfl⟩
theorem F6_t {v w x : V3} (h : F6 v w) (h' : F6 w x) : F6 v x := ⟨fun c k => (h'.1 c k).trans (h.1 c k), h'.2.1.trans h.2.1, h'.2.2.trans h.2.2⟩
theorem F6_g {v w : V3} (h : G6 v w) : F6 v w := ⟨h.1, h.2 7 (by decide) (by decide), h.2 8 (by decide) (by decide)⟩
theorem F6_u (v : V3) {j : Nat} (x : Int32) (hj : j < 7) : F6 v (up2 v 6 j x) := ⟨fun _ h => up2_off _ _ _ h, by rw [up2_row, pk_un (by omega)], by rw [up2_row, pk_un (by omega)]⟩
theorem BY_F {w : V3} (hb : BY v β T) (h : F6 v w) : BY w β T := BY_c hb (h.1 1 (by decide)) (h.1 16 (by decide))
theorem uC_adv52 {Q : V3 → Prop} {st : Nat} (hb : BY v β T) (h2 : v 6 2 = nI T) (h3 : v 6 3 = nI st) (hs : st ≤ T) (hQ : ∀ v', CT v' β T st → F6 v v' → Q v') : w_X2_advance_52 Q v := by
  have hT := hb.1
  unfold w_X2_advance_52
  refine nm_e (nm_e ?_)
  rw [h3]
  have f0 : F6 v (up2 (up2 v 6 5 (nI st)) 6 6 0) := F6_t (F6_u v (nI st) (by decide)) (F6_u _ 0 (by decide))
  have e2 : up2 (up2 v 6 5 (nI st)) 6 6 0 6 2 = nI T := by rw [up2_row, pk_un (by decide), up2_row, pk_un (by decide)]; exact h2
  have e3 : up2 (up2 v 6 5 (nI st)) 6 6 0 6 3 = nI st := by rw [up2_row, pk_un (by decide), up2_row, pk_un (by decide)]; exact h3
  have e5 : up2 (up2 v 6 5 (nI st)) 6 6 0 6 5 = nI st := by rw [up2_row, pk_un (by decide), up2_row, pk_us]
  have e6 : up2 (up2 v 6 5 (nI st)) 6 6 0 6 6 = 0 := by rw [up2_row, pk_us]
  generalize up2 (up2 v 6 5 (nI st)) 6 6 0 = u at *
  have hb' := BY_F hb f0
  rw [e2, e3]
  have k1 : nI st < nI T ↔ st < T := nI_ltI (by omega) (by omega)
  have ks : ix (nI st) = st := nI_clamp (by omega)
  refine br_c (fun c => ?_) (fun c => nm_e ?_)
  · have c := k1.mp c
    have b := hb'.2 st c
    refine ⟨vp_in_nI (by omega) (by decide), ?_⟩
    rw [ks, b.2.2]
    refine uC_isL b.1 (fun c1 => zt1 (nm_e ?_)) (fun c1 => zt0 ?_)
    · refine ⟨T - st + 1, uC_pL (T - st) st _ (by omega) (BY_F hb' (F6_u u 1 (by decide))) (by rw [up2_row, pk_un (by decide)]; exact e2) (by rw [up2_row, pk_un (by decide)]; exact e3) (fun v' p q => hQ v' ?_ (F6_t f0 (F6_t (F6_u u 1 (by decide)) (F6_g q))))⟩
      have ek : kd β T st = 1 := by unfold kd; rw [if_neg (by omega), if_pos c1]
      refine ⟨?_, ?_, ?_, ?_, fun q => absurd (ek.symm.trans q) (by decide), hs⟩
      · rw [q.2 2 (by decide) (by decide), up2_row, pk_un (by decide)]; exact e2
      · rw [p]; unfold en; rw [if_neg (by omega), if_pos c1]
      · rw [q.2 4 (by decide) (by decide), up2_row, pk_us, ek]; rfl
      · rw [q.2 5 (by decide) (by decide), up2_row, pk_un (by decide)]; exact e5
    · rw [e3]
      refine ⟨vp_in_nI (by omega) (by decide), ?_⟩
      rw [ks, b.2.2]
      refine uC_isD b.1 (fun c2 => zt1 (nm_e ?_)) (fun c2 => zt0 ?_)
      · refine ⟨T - st + 1, uC_pD (T - st) st 0 _ (by omega) (BY_F hb' (F6_u u 2 (by decide))) (by rw [up2_row, pk_un (by decide)]; exact e2) (by rw [up2_row, pk_un (by decide)]; exact e3) (by rw [up2_row, pk_un (by decide)]; exact e6) (fun v' p p6 q => hQ v' ?_ (F6_t f0 (F6_t (F6_u u 2 (by decide)) (F6_g q))))⟩
        have ek : kd β T st = 2 := by unfold kd; rw [if_neg (by omega), if_neg c1, if_pos c2]
        refine ⟨?_, ?_, ?_, ?_, fun _ => p6, hs⟩
        · rw [q.2 2 (by decide) (by decide), up2_row, pk_un (by decide)]; exact e2
        · rw [p]; unfold en; rw [if_neg (by omega), if_neg c1, if_pos c2]
        · rw [q.2 4 (by decide) (by decide), up2_row, pk_us, ek]; rfl
        · rw [q.2 5 (by decide) (by decide), up2_row, pk_un (by decide)]; exact e5
      · rw [e3]
        refine ⟨vp_in_nI (by omega) (by decide), ?_⟩
        rw [ks, b.2.2]
        have fin : ∀ (x : Nat), kd β T st = x → ¬ x = 2 → w_X2_advance_158 Q (nI x) u := fun x ek n2 => by
          unfold w_X2_advance_158
          refine nm_e (nm_e ?_)
          rw [show up2 u 6 4 (nI x) 6 3 = nI st by rw [up2_row, pk_un (by decide)]; exact e3, nI_1]
          refine hQ _ ⟨?_, ?_, ?_, ?_, fun q => absurd (ek.symm.trans q) n2, hs⟩ (F6_t f0 (F6_t (F6_u u _ (by decide)) (F6_u _ _ (by decide))))
          · rw [up2_row, pk_un (by decide), up2_row, pk_un (by decide)]; exact e2
          · rw [up2_row, pk_us]; unfold en; rw [if_neg (by omega), if_neg c1, if_neg c2]
          · rw [up2_row, pk_un (by decide), up2_row, pk_us, ek]
          · rw [up2_row, pk_un (by decide), up2_row, pk_un (by decide)]; exact e5
        have k59 : (nI (β st)).toInt8.toInt32 = 59 ↔ β st = 59 := by
          rcases by_f _ b.1 with ⟨_, e⟩ | ⟨q, e⟩
          · rw [e]; exact nI_eq (b := 59) (by omega) (by omega)
          · exact ⟨fun z => absurd e (by rw [z]; decide), fun z => by omega⟩
        refine ntc (fun c3 => fin 4 ?_ (by decide)) (fun c3 => fin 3 ?_ (by decide))
        · unfold kd; rw [if_neg (by omega), if_neg c1, if_neg c2, if_neg (fun z => c3 (k59.mpr z))]
        · unfold kd; rw [if_neg (by omega), if_neg c1, if_neg c2, if_pos (k59.mp c3)]
  · have c : T ≤ st := by have : ¬ st < T := fun z => c (k1.mpr z); omega
    have ek : kd β T st = 0 := by unfold kd; rw [if_pos c]
    refine hQ _ ⟨?_, ?_, ?_, ?_, fun q => absurd (ek.symm.trans q) (by decide), hs⟩ (F6_t f0 (F6_u u _ (by decide)))
    · rw [up2_row, pk_un (by decide)]; exact e2
    · rw [up2_row, pk_un (by decide)]; unfold en; rw [if_pos c]; exact e3
    · rw [up2_row, pk_us, ek]; rfl
    · rw [up2_row, pk_un (by decide)]; exact e5
theorem uC_adv0 {Q : V3 → Prop} : ∀ f p v, p + f = T → BY v β T → v 6 2 = nI T → v 6 3 = nI p → (∀ v', CT v' β T (rn β tS f p) → F6 v v' → Q v') → w_X2_advance_0 Q (f + 1) v
  | 0, p, v, hp, hb, h2, h3, hQ => by
    have hT := hb.1
    rw [w_X2_advance_0, h2, h3]
    exact br_t (nI_le (by omega) (by omega)) (uC_adv52 hb h2 h3 (by omega) hQ)
  | f + 1, p, v, hp, hb, h2, h3, hQ => by
    have hT := hb.1
    rw [w_X2_advance_0, h2, h3]
    have b := hb.2 p (by omega)
    refine br_f (nI_ge (by omega) (by omega)) ⟨vp_in_nI (by omega) (by decide), ?_⟩
    rw [show ix (nI p) = p from nI_clamp (by omega), b.2.2]
    have kk : ∀ x : Nat, x < 127 → ((nI (β p)).toInt8.toInt32 = nI x ↔ β p = x) := fun x hx => by
      rcases by_f _ b.1 with ⟨_, e⟩ | ⟨q, e⟩
      · rw [e]; exact nI_eq (by omega) (by omega)
      · exact ⟨fun z => absurd e (by rw [z]; exact nI_pos (by omega)), fun z => by omega⟩
    have go : tS (β p) = true → w_X2_advance_39 Q (w_X2_advance_0 Q (f + 1)) v := fun c => by
      unfold w_X2_advance_39
      refine nm_e ?_
      rw [h3, nI_1]
      refine uC_adv0 f (p + 1) _ (by omega) (BY_6 hb (G6_3 v _)) (by rw [up2_row, pk_un (by decide)]; exact h2) (by rw [up2_row, pk_us]) (fun v' q r => hQ v' ?_ (F6_t (F6_g (G6_3 v _)) r))
      have : rn β tS (f + 1) p = rn β tS f (p + 1) := if_pos c
      rw [this]; exact q
    have k32 : (nI (β p)).toInt8.toInt32 = 32 ↔ β p = 32 := kk 32 (by omega)
    have k10 : (nI (β p)).toInt8.toInt32 = 10 ↔ β p = 10 := kk 10 (by omega)
    refine br_c (fun c => go (decide_eq_true (.inl (k32.mp c)))) (fun c => ⟨vp_in_nI (by omega) (by decide), ntc (fun d => ?_) (fun d => go (decide_eq_true (.inr (k10.mp d))))⟩)
    refine uC_adv52 hb h2 h3 (by omega) (fun v' q r => hQ v' ?_ r)
    have : rn β tS (f + 1) p = p := if_neg (fun z => by
      have := of_decide_eq_true z
      rw [← k32, ← k10] at this
      exact this.elim c d)
    rw [this]; exact q
theorem uC_adv {Q : V3 → Prop} {p : Nat} (hb : BY v β T) (h2 : v 6 2 = nI T) (h3 : v 6 3 = nI p) (hp : p ≤ T) (hQ : ∀ v', CT v' β T (sk β T p) → F6 v v' → Q v') : w_X2_advance v Q :=
  ⟨T - p + 1, uC_adv0 (T - p) p v (by omega) hb h2 h3 hQ⟩
theorem uC_next {Q : V3 → Prop} {st : Nat} (hb : BY v β T) (h : CT v β T st) (hQ : ∀ v', CT v' β T (nx β T st) → F6 v v' → Q v') : w_X2_advance v Q :=
  uC_adv hb h.1 h.2.1 (en_b h.2.2.2.2.2).2.1 hQ
end LC
