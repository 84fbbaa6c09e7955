/-! PURE LEVEL 12: what the acts change -/
theorem plc_add (n : Nat) (g : Nat → Nat) (d : Int32) : ∀ k i (σ : Nat → Int32) (c : Int32), foldN (plcStep n g) k i (σ, d + c) = ((foldN (plcStep n g) k i (σ, c)).1, d + (foldN (plcStep n g) k i (σ, c)).2) := by
  intro k
  induction k with
  | zero => intro i σ c; rfl
  | succ k ih =>
    intro i σ c
    rw [foldN, foldN]
    by_cases h : bstS σ n (g i) = -1
    · rw [show plcStep n g (σ, d + c) i = (σ, d + c) from if_pos h, show plcStep n g (σ, c) i = (σ, c) from if_pos h]
      exact ih (i + 1) _ _
    · rw [show plcStep n g (σ, d + c) i = (settleS σ (g i) (bstS σ n (g i)), d + (c + 1)) from by
        unfold plcStep
        rw [if_neg h, Int32.add_assoc], show plcStep n g (σ, c) i = (settleS σ (g i) (bstS σ n (g i)), c + 1) from if_neg h]
      exact ih (i + 1) _ _
/-- the state behind placing -/
def pl (σ : Nat → Int32) (n : Nat) : Nat → Int32 := (plcS σ n 0).1
theorem plc_1 (σ : Nat → Int32) (n : Nat) (c : Int32) : (plcS σ n c).1 = pl σ n := by
  have h := plc_add n (ordS σ n).1 c (ordS σ n).2 0 σ 0
  rw [Int32.add_zero] at h
  show (foldN (plcStep n (ordS σ n).1) (ordS σ n).2 0 (σ, c)).1 = _
  rw [h]
  rfl
theorem pl_ok {σ : Nat → Int32} {n m S : Nat} {B : Int} (h : Wf σ n m S B) (hB : 10300 ≤ B) : Wf (pl σ n) n m S B ∧ NF (pl σ n) n ∧ pl σ n 7 = σ 7 :=
  ⟨plc_wf hB h 0, plc_nf hB h 0, plc_7 hB h 0⟩
/-- the numbers of an owner change -/
def addO (σ : Nat → Int32) (i f : Nat) (x : Int32) : Nat → Int32 := putO σ (ownI σ i) f (og σ (ownI σ i) f + x)
theorem wf_O {σ : Nat → Int32} {n m S o f : Nat} {x : Int32} {B : Int} (h : Wf σ n m S B) (ho : o < 8) (hf : f < 8) : Wf (putO σ o f x) n m S B :=
  Wf_e h (fun k hk => sc_putO (by omega)) (fun j _ g _ => bf_putO ho hf)
theorem nf_O {σ : Nat → Int32} {n o f : Nat} {x : Int32} (h : NF σ n) (ho : o < 8) (hf : f < 8) : NF (putO σ o f x) n :=
  NF_e h (by rw [sc_putO (by omega)]; exact Int.le_refl _) (fun j _ g _ => bf_putO ho hf)
theorem wf_A {σ : Nat → Int32} {n m S i f : Nat} {x : Int32} {B : Int} (h : Wf σ n m S B) (hi : i < n) (hf : f < 8) : Wf (addO σ i f x) n m S B :=
  wf_O h (by have := (own_of h.ow h.m8 hi).1; have := h.m8; omega) hf
theorem nf_A {σ : Nat → Int32} {n m S i f : Nat} {x : Int32} {B : Int} (h : Wf σ n m S B) (hN : NF σ n) (hi : i < n) (hf : f < 8) : NF (addO σ i f x) n :=
  nf_O hN (by have := (own_of h.ow h.m8 hi).1; have := h.m8; omega) hf
theorem wf_8 {σ : Nat → Int32} {n m S k : Nat} {x : Int32} {B : Int} (h : Wf σ n m S B) (hk : k = 8 ∨ k = 9) : Wf (upd σ k x) n m S B :=
  Wf_e h (fun j hj => pk_un (by omega)) (fun j _ g _ => bf_sc (by omega))
theorem addO_b {σ : Nat → Int32} {n m i f j g : Nat} {x : Int32} (hO : Ow σ n m) (hm : m ≤ 8) (hi : i < n) (hf : f < 8) : bf (addO σ i f x) j g = bf σ j g :=
  bf_putO (by have := (own_of hO hm hi).1; omega) hf
theorem hit_m {σ σ' : Nat → Int32} {n : Nat} {x1 x2 : Int32} {D t : Int} (hb : ∀ j, j < n → lvB σ j = true → lvB σ' j = true ∧ bf σ' j 1 = bf σ j 1 ∧ bf σ' j 2 = bf σ j 2 ∧ bf σ' j 8 = bf σ j 8 ∧ bf σ' j 9 = bf σ j 9) (h : hitI σ n x1 x2 D t) : hitI σ' n x1 x2 D t := by
  obtain ⟨j, hj, a, s, c, d⟩ := h
  obtain ⟨b1, b2, b3, b4, b5⟩ := hb j hj a
  refine ⟨j, hj, b1, ?_, ?_, ?_⟩
  · unfold spB; rw [b2, b3]; exact s
  · rw [b4]; exact c
  · rw [b5]; exact d
/-- a booked booking is held -/
theorem hold_ok {σ : Nat → Int32} {n m S i : Nat} {B : Int} (h : Wf σ n m S B) (hN : NF σ n) (hi : i < n) (h7 : bf σ i 7 = 1) : Wf (putB σ i 7 2) n m S B ∧ NF (putB σ i 7 2) n := by
  have ch : Ch σ (putB σ i 7 2) n i := Ch_b (by omega) (by omega)
  have e7 : bf (putB σ i 7 2) i 7 = 2 := (bf_put (by omega) (by omega)).trans (if_pos ⟨rfl, rfl⟩)
  have e8 : bf (putB σ i 7 2) i 8 = bf σ i 8 := (bf_put (by omega) (by omega)).trans (if_neg (by omega))
  have e9 : bf (putB σ i 7 2) i 9 = bf σ i 9 := (bf_put (by omega) (by omega)).trans (if_neg (by omega))
  have l0 : lvB σ i = true := by unfold lvB; rw [h7]; decide
  have l1 : lvB (putB σ i 7 2) i = true := by unfold lvB; rw [e7]; decide
  refine ⟨Ch_wf h ⟨Int.le_refl _, h.tm.2⟩ ch ⟨2, by omega, e7⟩ (fun _ => ⟨?_, fun j hj hji lj a c d q => ?_⟩), fun k hk hk0 t t1 t2 t3 => ?_⟩
  · rw [e8, e9]; exact h.tm.1 i hi l0
  · rw [e8] at d
    rw [e9] at q
    exact h.nc i j hi hj (fun z => hji z.symm) l0 lj a c d q
  · have hki : k ≠ i := fun z => by rw [z, e7] at hk0; exact absurd hk0 (by decide)
    rw [sc_put (by omega)] at t1
    rw [ch.2 k hk 4 (by omega) (.inl hki), ch.2 k hk 5 (by omega) (.inl hki)] at t2 t3
    rw [ch.2 k hk 1 (by omega) (.inl hki), ch.2 k hk 2 (by omega) (.inl hki), ch.2 k hk 3 (by omega) (.inl hki)]
    refine hit_m (fun j hj lj => ?_) (hN k hk ((ch.2 k hk 7 (by omega) (.inl hki)).symm.trans hk0) t t1 t2 t3)
    by_cases hji : j = i
    · subst hji
      exact ⟨l1, ch.2 j hj 1 (by omega) (.inr (by omega)), ch.2 j hj 2 (by omega) (.inr (by omega)), e8, e9⟩
    · exact ⟨(lv_of (ch.2 j hj 7 (by omega) (.inl hji))).trans lj, ch.2 j hj 1 (by omega) (.inl hji), ch.2 j hj 2 (by omega) (.inl hji), ch.2 j hj 8 (by omega) (.inl hji), ch.2 j hj 9 (by omega) (.inl hji)⟩
/-- a booking ends or waits: it is live no more -/
theorem gone_ok {σ : Nat → Int32} {n m S i s : Nat} {B : Int} (h : Wf σ n m S B) (hi : i < n) (hs : s = 0 ∨ s = 3 ∨ s = 4 ∨ s = 5 ∨ s = 6) : Wf (putB σ i 7 (nI s)) n m S B := by
  have e7 : bf (putB σ i 7 (nI s)) i 7 = nI s := (bf_put (by omega) (by omega)).trans (if_pos ⟨rfl, rfl⟩)
  refine Ch_wf0 h (Ch_b (by omega) (by omega)) ⟨s, by omega, e7⟩ ?_
  unfold lvB
  rw [e7]
  rcases hs with rfl | rfl | rfl | rfl | rfl <;> decide
/-- times of a booking that is not live -/
theorem free_ok {σ : Nat → Int32} {n m S i f : Nat} {x : Int32} {B : Int} (h : Wf σ n m S B) (hi : i < n) (hf : f = 8 ∨ f = 9) (hl : lvB σ i = false) : Wf (putB σ i f x) n m S B := by
  have e7 : bf (putB σ i f x) i 7 = bf σ i 7 := (bf_put (by omega) (by omega)).trans (if_neg (by omega))
  obtain ⟨s, hs, e⟩ := h.st i hi
  exact Ch_wf0 h (Ch_b (by omega) (by omega)) ⟨s, hs, e7.trans e⟩ ((lv_of e7).trans hl)
theorem await_ok {σ : Nat → Int32} {n m S i : Nat} {B : Int} (h : Wf σ n m S B) (hi : i < n) : Wf (awaitS σ i) n m S B :=
  Ch_wf0 h aw_ch ⟨0, by omega, aw_7⟩ (lv_0 aw_7)
/-- no one is in the way -/
theorem cl_free {σ : Nat → Int32} {n : Nat} {x1 x2 x3 x4 x5 x6 : Int32} (hn : n ≤ 40) (h : clS σ n x1 x2 x3 x4 x5 x6 = -1) {j : Nat} (hj : j < n) (h5 : ¬ nI j = x5) (h6 : ¬ nI j = x6) (hl : lvB σ j = true) (hs : spB σ x1 x2 j) (a : (bf σ j 8).toInt < x4.toInt) (b : x3.toInt < (bf σ j 9).toInt) : False := by
  rcases clS_cases (σ := σ) (x1 := x1) (x2 := x2) (x3 := x3) (x4 := x4) (x5 := x5) (x6 := x6) hn with g | ⟨_, _, _, g, _⟩
  · have := clB_iff.mpr ⟨hl, h5, h6, hs, a, b⟩
    rw [g.2 j hj] at this
    exact absurd this (by decide)
  · exact g h
/-- a live booking ends later -/
theorem ext_ok {σ : Nat → Int32} {n m S i : Nat} {B : Int} {x : Int32} (h : Wf σ n m S B) (hB : B + 99 ≤ 1000000) (hi : i < n) (hl : lvB σ i = true) (hx : 1 ≤ x.toInt ∧ x.toInt ≤ 99) (hc : clS σ n (bf σ i 1) (bf σ i 2) (bf σ i 8) (bf σ i 9 + x) (nI i) (-1) = -1) : Wf (putB σ i 9 (bf σ i 9 + x)) n m S (B + 99) := by
  have hn := h.n40
  have t := h.tm.1 i hi hl
  have e : (bf σ i 9 + x).toInt = (bf σ i 9).toInt + x.toInt := ti_add (by omega) (by omega)
  have e7 : bf (putB σ i 9 (bf σ i 9 + x)) i 7 = bf σ i 7 := (bf_put (by omega) (by omega)).trans (if_neg (by omega))
  have e8 : bf (putB σ i 9 (bf σ i 9 + x)) i 8 = bf σ i 8 := (bf_put (by omega) (by omega)).trans (if_neg (by omega))
  have e9 : bf (putB σ i 9 (bf σ i 9 + x)) i 9 = bf σ i 9 + x := (bf_put (by omega) (by omega)).trans (if_pos ⟨rfl, rfl⟩)
  obtain ⟨s, hs, es⟩ := h.st i hi
  refine Ch_wf h ⟨by omega, hB⟩ (Ch_b (by omega) (by omega)) ⟨s, hs, e7.trans es⟩ (fun _ => ⟨?_, fun j hj hji lj a c d q => ?_⟩)
  · rw [e8, e9, e]; omega
  · rw [e8] at d
    rw [e9] at q
    exact cl_free hn hc hj (fun z => hji ((nI_eq (by omega) (by omega)).mp z)) (nI_neg1 (by omega)) lj ((spB_I h.sp hi hj).mpr ⟨c, a⟩) q d
/-- a swap -/
def swpS (σ : Nat → Int32) (i j : Nat) : Nat → Int32 := putB (putB (putB (putB σ i 8 (bf σ j 8)) i 9 (bf σ j 9)) j 8 (bf σ i 8)) j 9 (bf σ i 9)
/-- a live booking at given times -/
theorem live_ok {σ : Nat → Int32} {n m S i : Nat} {B : Int} {b e : Int32} (h : Wf σ n m S B) (hi : i < n) (ht : 0 ≤ b.toInt ∧ b.toInt < e.toInt ∧ e.toInt ≤ B) (hf : ∀ j, j < n → j ≠ i → lvB σ j = true → spB σ (bf σ i 1) (bf σ i 2) j → (bf σ j 8).toInt < e.toInt → b.toInt < (bf σ j 9).toInt → False) : Wf (putB (putB (putB σ i 7 1) i 8 b) i 9 e) n m S B := by
  have e7 : bf (putB (putB (putB σ i 7 1) i 8 b) i 9 e) i 7 = 1 := by
    rw [bf_put (by omega) (by omega), if_neg (by omega), bf_put (by omega) (by omega), if_neg (by omega), bf_put (by omega) (by omega), if_pos ⟨rfl, rfl⟩]
  have e8 : bf (putB (putB (putB σ i 7 1) i 8 b) i 9 e) i 8 = b := by
    rw [bf_put (by omega) (by omega), if_neg (by omega), bf_put (by omega) (by omega), if_pos ⟨rfl, rfl⟩]
  have e9 : bf (putB (putB (putB σ i 7 1) i 8 b) i 9 e) i 9 = e := by
    rw [bf_put (by omega) (by omega), if_pos ⟨rfl, rfl⟩]
  refine Ch_wf h ⟨Int.le_refl _, h.tm.2⟩ (Ch_t (Ch_t (Ch_b (by omega) (by omega)) (Ch_b (by omega) (by omega))) (Ch_b (by omega) (by omega))) ⟨1, by omega, e7⟩ (fun _ => ⟨?_, fun j hj hji lj a c d q => ?_⟩)
  · rw [e8, e9]; exact ht
  · rw [e8] at d
    rw [e9] at q
    exact hf j hj hji lj ((spB_I h.sp hi hj).mpr ⟨c, a⟩) q d
theorem swp_ok {σ : Nat → Int32} {n m S i j : Nat} {B : Int} (h : Wf σ n m S B) (hi : i < n) (hj : j < n) (hij : ¬ i = j) (hbi : bf σ i 7 = 1) (hbj : bf σ j 7 = 1) (ok : swpOk σ n i j) : Wf (swpS σ i j) n m S B := by
  have hn := h.n40
  have li : lvB σ i = true := by unfold lvB; rw [hbi]; decide
  have lj : lvB σ j = true := by unfold lvB; rw [hbj]; decide
  have ti := h.tm.1 i hi li
  have tj := h.tm.1 j hj lj
  obtain ⟨_, _, _, _, _, c1, c2⟩ := ok
  have w1 := await_ok h hi
  have w2 := await_ok w1 hj
  have ai : Ch σ (awaitS σ i) n i := aw_ch
  have aj : Ch (awaitS σ i) (awaitS (awaitS σ i) j) n j := aw_ch
  generalize hs2 : awaitS (awaitS σ i) j = σ2 at *
  have e2 : ∀ k, k < n → k ≠ i → k ≠ j → ∀ f, f < 10 → bf σ2 k f = bf σ k f := fun k hk k1 k2 f hf => (aj.2 k hk f hf (.inl k2)).trans (ai.2 k hk f hf (.inl k1))
  have e27 : ∀ k, k < n → ∀ f, f < 7 → bf σ2 k f = bf σ k f := fun k hk f hf => (aj.2 k hk f (by omega) (.inr hf)).trans (ai.2 k hk f (by omega) (.inr hf))
  have lv2 : ∀ k, k < n → lvB σ2 k = true → k ≠ i ∧ k ≠ j := fun k hk l => by
    refine ⟨fun z => ?_, fun z => ?_⟩
    · subst z
      have : bf σ2 k 7 = 0 := (aj.2 k hk 7 (by omega) (.inl hij)).trans aw_7
      rw [lv_0 this] at l
      exact absurd l (by decide)
    · subst z
      have : bf σ2 k 7 = 0 := by rw [← hs2]; exact aw_7
      rw [lv_0 this] at l
      exact absurd l (by decide)
  have w3 := live_ok (b := bf σ j 8) (e := bf σ j 9) w2 hi tj (fun k hk hki l s a c => by
    obtain ⟨k1, k2⟩ := lv2 k hk l
    rw [e2 k hk k1 k2 8 (by omega)] at a
    rw [e2 k hk k1 k2 9 (by omega)] at c
    refine cl_free hn c1 hk (fun z => k1 ((nI_eq (by omega) (by omega)).mp z)) (fun z => k2 ((nI_eq (by omega) (by omega)).mp z)) ((lv_of (e2 k hk k1 k2 7 (by omega))).symm.trans l) ?_ a c
    unfold spB at s ⊢
    rw [e27 i hi 1 (by omega), e27 i hi 2 (by omega), e2 k hk k1 k2 1 (by omega), e2 k hk k1 k2 2 (by omega)] at s
    exact s)
  generalize hs3 : putB (putB (putB σ2 i 7 1) i 8 (bf σ j 8)) i 9 (bf σ j 9) = σ3 at *
  have ch3 : Ch σ2 σ3 n i := by
    rw [← hs3]
    exact Ch_t (Ch_t (Ch_b (by omega) (by omega)) (Ch_b (by omega) (by omega))) (Ch_b (by omega) (by omega))
  have i8 : bf σ3 i 8 = bf σ j 8 := by
    rw [← hs3, bf_put (by omega) (by omega), if_neg (by omega), bf_put (by omega) (by omega), if_pos ⟨rfl, rfl⟩]
  have i9 : bf σ3 i 9 = bf σ j 9 := by
    rw [← hs3, bf_put (by omega) (by omega), if_pos ⟨rfl, rfl⟩]
  have i7 : bf σ3 i 7 = 1 := by
    rw [← hs3, bf_put (by omega) (by omega), if_neg (by omega), bf_put (by omega) (by omega), if_neg (by omega), bf_put (by omega) (by omega), if_pos ⟨rfl, rfl⟩]
  have e37 : ∀ k, k < n → ∀ f, f < 7 → bf σ3 k f = bf σ k f := fun k hk f hf => (ch3.2 k hk f (by omega) (.inr hf)).trans (e27 k hk f hf)
  have w4 := live_ok (b := bf σ i 8) (e := bf σ i 9) w3 hj ti (fun k hk hkj l s a c => by
    unfold spB at s
    rw [e37 j hj 1 (by omega), e37 j hj 2 (by omega), e37 k hk 1 (by omega), e37 k hk 2 (by omega)] at s
    by_cases hki : k = i
    · subst hki
      rw [i8] at a
      rw [i9] at c
      have s' := (spB_I h.sp hj hk).mp s
      exact h.nc k j hk hj hij li lj s'.1 s'.2 c a
    · rw [ch3.2 k hk 8 (by omega) (.inl hki), e2 k hk hki hkj 8 (by omega)] at a
      rw [ch3.2 k hk 9 (by omega) (.inl hki), e2 k hk hki hkj 9 (by omega)] at c
      have l2 : lvB σ k = true := (lv_of ((ch3.2 k hk 7 (by omega) (.inl hki)).trans (e2 k hk hki hkj 7 (by omega)))).symm.trans l
      exact cl_free hn c2 hk (fun z => hkj ((nI_eq (by omega) (by omega)).mp z)) (fun z => hki ((nI_eq (by omega) (by omega)).mp z)) l2 s a c)
  have ch4 : Ch σ3 (putB (putB (putB σ3 j 7 1) j 8 (bf σ i 8)) j 9 (bf σ i 9)) n j := Ch_t (Ch_t (Ch_b (by omega) (by omega)) (Ch_b (by omega) (by omega))) (Ch_b (by omega) (by omega))
  have hji : ¬ j = i := fun z => hij z.symm
  refine Wf_e w4 (fun k hk => ?_) (fun k hk f hf => ?_)
  · rw [ch4.1 k hk, ch3.1 k hk, aj.1 k hk, ai.1 k hk]
    unfold swpS
    rw [sc_put (by omega), sc_put (by omega), sc_put (by omega), sc_put (by omega)]
  · unfold swpS
    rw [bf_put (by omega) hf, bf_put (by omega) hf, bf_put (by omega) hf, bf_put (by omega) hf]
    by_cases kj : k = j
    · subst kj
      by_cases f9 : f = 9
      · subst f9
        rw [if_pos ⟨rfl, rfl⟩, bf_put (by omega) (by omega), if_pos ⟨rfl, rfl⟩]
      · rw [if_neg (fun z => f9 z.2)]
        by_cases f8 : f = 8
        · subst f8
          rw [if_pos ⟨rfl, rfl⟩, bf_put (by omega) (by omega), if_neg (by omega), bf_put (by omega) (by omega), if_pos ⟨rfl, rfl⟩]
        · rw [if_neg (fun z => f8 z.2), if_neg (fun z => hji z.1), if_neg (fun z => hji z.1)]
          by_cases f7 : f = 7
          · subst f7
            rw [bf_put (by omega) (by omega), if_neg (by omega), bf_put (by omega) (by omega), if_neg (by omega), bf_put (by omega) (by omega), if_pos ⟨rfl, rfl⟩]
            exact hbj
          · rw [ch4.2 k hk f hf (.inr (by omega)), e37 k hk f (by omega)]
    · rw [if_neg (fun z => kj z.1), if_neg (fun z => kj z.1), ch4.2 k hk f hf (.inl kj)]
      by_cases ki : k = i
      · subst ki
        by_cases f9 : f = 9
        · subst f9
          rw [if_pos ⟨rfl, rfl⟩]; exact i9.symm
        · rw [if_neg (fun z => f9 z.2)]
          by_cases f8 : f = 8
          · subst f8
            rw [if_pos ⟨rfl, rfl⟩]; exact i8.symm
          · rw [if_neg (fun z => f8 z.2)]
            by_cases f7 : f = 7
            · subst f7; rw [i7]; exact hbi
            · rw [e37 k hk f (by omega)]
      · rw [if_neg (fun z => ki z.1), if_neg (fun z => ki z.1), ch3.2 k hk f hf (.inl ki), e2 k hk ki kj f hf]
/-- a buyout -/
theorem buy_ok {σ : Nat → Int32} {n m S i j : Nat} {B : Int} (h : Wf σ n m S B) (hB : 10300 ≤ B) (hi : i < n) (hj : j < n) (hij : ¬ i = j) (hbi : bf σ i 7 = 0) (hbj : bf σ j 7 = 1) (ok : buyOk σ n i j) : Wf (settleS (awaitS σ j) i (bf σ j 8)) n m S B := by
  have hn := h.n40
  have lj : lvB σ j = true := by unfold lvB; rw [hbj]; decide
  have tj := h.tm.1 j hj lj
  obtain ⟨r1, r2, r3, r4, r5, r6⟩ := h.rg hi
  have hB2 := h.tm.2
  obtain ⟨_, a2, _, _, _, c1⟩ := ok
  have es : (bf σ j 8 - bf σ i 4).toInt = (bf σ j 8).toInt - (bf σ i 4).toInt := ti_sub (by omega) (by omega)
  rw [ti_le, ti_abs (by rw [es]; omega), es] at a2
  have ed : (bf σ j 8 + bf σ i 3).toInt = (bf σ j 8).toInt + (bf σ i 3).toInt := ti_add (by omega) (by omega)
  have w1 := await_ok h hj
  have aj : Ch σ (awaitS σ j) n j := aw_ch
  have e3 : bf (awaitS σ j) i 3 = bf σ i 3 := aj.2 i hi 3 (by omega) (.inl hij)
  refine stl_wf w1 hB hi ⟨by omega, by omega, by rw [e3]; omega⟩ (fun k hk hki l s a c => ?_)
  have hkj : k ≠ j := fun z => by subst z; rw [lv_0 aw_7] at l; exact absurd l (by decide)
  rw [e3] at a
  rw [aj.2 k hk 8 (by omega) (.inl hkj)] at a
  rw [aj.2 k hk 9 (by omega) (.inl hkj)] at c
  unfold spB at s
  rw [aj.2 i hi 1 (by omega) (.inl hij), aj.2 i hi 2 (by omega) (.inl hij), aj.2 k hk 1 (by omega) (.inl hkj), aj.2 k hk 2 (by omega) (.inl hkj)] at s
  exact cl_free hn c1 hk (fun z => hki ((nI_eq (by omega) (by omega)).mp z)) (fun z => hkj ((nI_eq (by omega) (by omega)).mp z)) ((lv_of (aj.2 k hk 7 (by omega) (.inl hkj))).symm.trans l) s (by rw [ed]; exact a) c
