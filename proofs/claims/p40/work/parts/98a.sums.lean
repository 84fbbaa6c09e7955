/-! THE LAW: sums -/
theorem posF_spec (σ : Nat → Int32) (x : Int32) (g : Nat → Nat) : ∀ p, (posF σ x g p = 0 ∨ brkI σ (g (posF σ x g p - 1)) ≤ x) ∧ ∀ k, posF σ x g p ≤ k → k < p → ¬ brkI σ (g k) ≤ x := by
  intro p
  induction p with
  | zero => exact ⟨.inl rfl, fun k _ h => absurd h (Nat.not_lt_zero k)⟩
  | succ p ih =>
    rw [posF]
    by_cases h : brkI σ (g p) ≤ x
    · rw [if_pos h]
      exact ⟨.inr h, fun k a b => by omega⟩
    · rw [if_neg h]
      refine ⟨ih.1, fun k a b => ?_⟩
      by_cases e : k = p
      · subst e; exact h
      · exact ih.2 k a (by omega)
/-- the order is one -/
def OrI (σ : Nat → Int32) (G : (Nat → Nat) × Nat) : Prop := ∀ k, k + 1 < G.2 → (brkI σ (G.1 k)).toInt ≤ (brkI σ (G.1 (k + 1))).toInt
theorem OrI_m {σ : Nat → Int32} {G : (Nat → Nat) × Nat} (h : OrI σ G) : ∀ d k, k + d < G.2 → (brkI σ (G.1 k)).toInt ≤ (brkI σ (G.1 (k + d))).toInt := by
  intro d
  induction d with
  | zero => intro k _; exact Int.le_refl _
  | succ d ih => intro k hk; exact Int.le_trans (ih k (by omega)) (h (k + d) (by omega))
theorem OrI_s {σ : Nat → Int32} {G : (Nat → Nat) × Nat} {i : Nat} (h : OrI σ G) : OrI σ (stpQ σ G i) := by
  unfold stpQ
  by_cases h0 : bf σ i 7 = 0
  · rw [if_pos h0]
    have hp := posF_le σ (brkI σ i) G.1 G.2
    have hs := posF_spec σ (brkI σ i) G.1 G.2
    generalize posF σ (brkI σ i) G.1 G.2 = p at hp hs
    intro k hk
    have hk : k + 1 < G.2 + 1 := hk
    show (brkI σ (insG G.1 p i k)).toInt ≤ (brkI σ (insG G.1 p i (k + 1))).toInt
    unfold insG
    by_cases a : k < p
    · rw [if_pos a]
      by_cases b : k + 1 < p
      · rw [if_pos b]; exact h k (by omega)
      · rw [if_neg b, if_pos (by omega)]
        have e : p - 1 = k := by omega
        rcases hs.1 with z | z
        · omega
        · rw [e] at z; exact ti_le.mp z
    · rw [if_neg a]
      have b1 : ¬ k + 1 < p := by omega
      have b2 : ¬ k + 1 = p := by omega
      rw [if_neg b1, if_neg b2]
      by_cases c : k = p
      · rw [if_pos c]
        have := hs.2 k (by omega) (by omega)
        show (brkI σ i).toInt ≤ (brkI σ (G.1 (k + 1 - 1))).toInt
        rw [show k + 1 - 1 = k from rfl]
        exact Int.le_of_lt (Int.not_le.mp (fun q => this (ti_le.mpr q)))
      · rw [if_neg c]
        have := h (k - 1) (by omega)
        rw [show k - 1 + 1 = k from by omega] at this
        exact this
  · rw [if_neg h0]; exact h
theorem OrI_ord (σ : Nat → Int32) (n : Nat) : OrI σ (ordS σ n) := foldN_inv (P := fun _ G => OrI σ G) (fun k hk => absurd hk (Nat.not_lt_zero _)) (fun _ _ _ h => OrI_s h)
/-- how many wait -/
theorem cnt_ord (σ : Nat → Int32) (n : Nat) : cntS σ n 0 = nI (ordS σ n).2 := by
  refine foldN_inv (s := stpQ σ) (P := fun i G => cntS σ i 0 = nI G.2) (a0 := ((fun _ => 0 : Nat → Nat), 0)) rfl (fun i G _ h => ?_)
  show sumI _ (i + 1) 0 0 = _
  rw [sumI_s, Nat.zero_add]
  have h' : sumI (fun i => if bf σ i 7 = 0 then (1 : Int32) else 0) i 0 0 = nI G.2 := h
  rw [h']
  unfold stpQ
  by_cases c : bf σ i 7 = 0
  · rw [if_pos c, if_pos c]; exact (nI_succ G.2).symm
  · rw [if_neg c, if_neg c, Int32.add_zero]
/-- the owners' bookings are all bookings -/
theorem sumI_add (f g : Nat → Int32) : ∀ k, sumI (fun o => f o + g o) k 0 0 = sumI f k 0 0 + sumI g k 0 0 := by
  intro k
  induction k with
  | zero => exact (Int32.add_zero 0).symm
  | succ k ih =>
    rw [sumI_s, sumI_s, sumI_s, ih]
    ac_rfl
theorem sumI_z : ∀ k, sumI (fun _ => 0) k 0 0 = 0 := by
  intro k
  induction k with
  | zero => rfl
  | succ k ih => rw [sumI_s, ih, Int32.add_zero]
theorem open_all {σ : Nat → Int32} {m : Nat} (hm : m ≤ 8) : ∀ n, n ≤ 40 → Ow σ n m → sumI (fun o => opnS σ n (nI o)) m 0 0 = cntS σ n 0 + cntS σ n 1 + cntS σ n 2 := by
  intro n
  induction n with
  | zero => intro _ _; rw [show (fun o => opnS σ 0 (nI o)) = (fun _ => (0 : Int32)) from rfl, sumI_z]; rfl
  | succ n ih =>
    intro hn hO
    have ih' := ih (by omega) (fun i hi => hO i (by omega))
    have e1 : ∀ o, opnS σ (n + 1) (nI o) = opnS σ n (nI o) + (if bf σ n 0 = nI o ∧ actB σ n = true then 1 else 0) := fun o => by
      show sumI _ (n + 1) 0 0 = _
      rw [sumI_s, Nat.zero_add]
      rfl
    have e2 : ∀ x, cntS σ (n + 1) x = cntS σ n x + (if bf σ n 7 = x then 1 else 0) := fun x => by
      show sumI _ (n + 1) 0 0 = _
      rw [sumI_s, Nat.zero_add]
      rfl
    have e3 : sumI (fun o => if bf σ n 0 = nI o ∧ actB σ n = true then (1 : Int32) else 0) m 0 0 = if actB σ n = true then 1 else 0 := by
      obtain ⟨p, hp, ep⟩ := hO n (by omega)
      by_cases c : actB σ n = true
      · have e := sumI_p (f := fun _ => 0) (g := fun o => if bf σ n 0 = nI o ∧ actB σ n = true then (1 : Int32) else 0) (p := p) (x := 1) (by
          show (if bf σ n 0 = nI p ∧ actB σ n = true then (1 : Int32) else 0) = 0 + 1
          rw [if_pos ⟨ep, c⟩]; rfl) m (fun j hj hjp => by
          show (if bf σ n 0 = nI j ∧ actB σ n = true then (1 : Int32) else 0) = 0
          rw [if_neg (fun z => hjp ((nI_eq (by omega) (by omega)).mp (z.1.symm.trans ep)))]) hp
        rw [sumI_z, Int32.zero_add] at e
        rw [if_pos c]
        exact e
      · rw [if_neg c]
        have e := sumI_c (f := fun _ => 0) (g := fun o => if bf σ n 0 = nI o ∧ actB σ n = true then (1 : Int32) else 0) m 0 (fun j _ _ => by
          show (if bf σ n 0 = nI j ∧ actB σ n = true then (1 : Int32) else 0) = 0
          exact if_neg (fun z => c z.2))
        rw [sumI_z] at e
        exact e
    rw [sumI_c m 0 (f := fun o => opnS σ n (nI o) + (if bf σ n 0 = nI o ∧ actB σ n = true then 1 else 0)) (fun j _ _ => e1 j), sumI_add, ih', e3, e2, e2, e2]
    unfold actB
    by_cases c0 : bf σ n 7 = 0
    · rw [if_pos (decide_eq_true (.inl c0)), if_pos c0, if_neg (by rw [c0]; decide), if_neg (by rw [c0]; decide), Int32.add_zero, Int32.add_zero]
      ac_rfl
    · by_cases c1 : bf σ n 7 = 1
      · rw [if_pos (decide_eq_true (.inr (.inl c1))), if_pos c1, if_neg c0, if_neg (by rw [c1]; decide), Int32.add_zero, Int32.add_zero]
        ac_rfl
      · by_cases c2 : bf σ n 7 = 2
        · rw [if_pos (decide_eq_true (.inr (.inr c2))), if_pos c2, if_neg c0, if_neg c1, Int32.add_zero, Int32.add_zero]
          ac_rfl
        · rw [if_neg (by rw [decide_eq_true_eq]; exact fun z => z.elim c0 (fun z => z.elim c1 c2)), if_neg c0, if_neg c1, if_neg c2, Int32.add_zero, Int32.add_zero, Int32.add_zero, Int32.add_zero]
section LS4
variable {v : V3} {N r n m : Nat} {x : Int} {σ : Nat → Int32}
theorem brk_I (h : GI σ n m (1000 * r)) (hr : r ≤ 400) {o : Nat} (ho : o < m) : 0 ≤ (brk σ o).toInt ∧ (brk σ o).toInt ≤ 1000000 := by
  have := h.2.2.2.2 o ho
  unfold brk
  rw [ti_add (by omega) (by omega)]
  omega
theorem LA_13 {v' : V3} (hL : LA v 8 σ n m) (hn : n ≤ 40) (hm : m ≤ 8) (h : ∀ c, c ≠ 13 → v' c = v c) : LA v' 8 σ n m := LA_c hL hn hm (fun c _ _ _ h5 => h c (by omega))
theorem us_sums (hV : VJ v N r x σ n m) (hr : r ≤ 400) {Q : Int32 → V3 → Prop} (h : ∀ v', VJ v' N r x σ n m → Q 1 v') : w_L_sums v Q := by
  have hW := hV.2.1.1
  have hG := hV.2.2.1
  have hL := hV.1
  have hn := hW.n40
  have hm := hW.m8
  have h73 : v 7 3 = sO σ m 0 := hV.2.2.2.2.2.2.1
  have hopen := open_all hm n hn hW.ow
  have hq := QI_ord σ n
  have hw := cnt_ord σ n
  -- the last loop
  have L3 : ∀ v1, (∀ c, c ≠ 13 → v1 c = v c) → ∃ r3, w_L_sums_317 Q r3 (sO σ m 0) (cntS σ n 0) (cntS σ n 1) (cntS σ n 2) (sumI (fun o => opnS σ n (nI o)) m 0 0) (-1) 0 v1 := by
    intro v1 hv1
    have key : ∀ d k (last : Int32) (w : V3), k + d = (ordS σ n).2 → (∀ c, c ≠ 13 → w c = v c) → (∀ z, z < (ordS σ n).2 → k ≤ z → last.toInt ≤ (brkI σ ((ordS σ n).1 z)).toInt) → w_L_sums_317 Q (d + 1) (sO σ m 0) (cntS σ n 0) (cntS σ n 1) (cntS σ n 2) (sumI (fun o => opnS σ n (nI o)) m 0 0) last (nI k) w := by
      intro d
      have wn : (ordS σ n).2 ≤ 40 := Nat.le_trans hq.1 hn
      induction d with
      | zero =>
        intro k last w hk hw1 hlast
        obtain rfl : k = (ordS σ n).2 := by omega
        have hLw := LA_13 hL hn hm hw1
        rw [w_L_sums_317]
        refine br_t (by rw [hw]; exact Int32.le_rfl) (ntc (fun q => absurd (by rw [hw1 7 (by decide)]; exact h73.symm) q) (fun _ => us_count_8 hLw hn ⟨fun q => absurd rfl q, fun _ => us_count_9 hLw hn ⟨fun q => absurd rfl q, fun _ => us_count_10 hLw hn ⟨fun q => absurd rfl q, fun _ => ntc (fun q => absurd hopen q) (fun _ => ?_)⟩⟩⟩))
        rw [hw]
        refine us_waiter hLw hW (by omega) (fun v2 c2 => ?_)
        have e : wtrS σ n (nI (ordS σ n).2) = -1 := if_pos Int32.le_rfl
        rw [e]
        refine ⟨fun q => absurd rfl q, fun _ => ⟨.inr rfl, h v2 ?_⟩⟩
        have c3 : ∀ c, c ≠ 13 → v2 c = v c := fun c hc => (c2 c hc).trans (hw1 c hc)
        exact VJ_k hV (LA_13 hL hn hm c3) (c3 7 (by decide)) (c3 3 (by decide))
      | succ d ih =>
        intro k last w hk hw1 hlast
        have hLw := LA_13 hL hn hm hw1
        rw [w_L_sums_317]
        refine br_f (by rw [hw]; exact nI_ge (by omega) (by omega)) (us_waiter hLw hW (by omega) (fun v2 c2 => ?_))
        have e : wtrS σ n (nI k) = nI ((ordS σ n).1 k) := by
          unfold wtrS
          rw [if_neg (nI_ge (by omega) (by omega)), nI_clamp (by omega)]
        have gk := hq.2.1 k (by omega)
        have c3 : ∀ c, c ≠ 13 → v2 c = v c := fun c hc => (c2 c hc).trans (hw1 c hc)
        have hL2 := LA_13 hL hn hm c3
        have ow := own_of hW.ow hm gk.1
        rw [e]
        refine br_t (nI_pos' (by omega)) (us_booking_0 hL2 hn gk.1 ?_)
        rw [ow.2]
        refine us_owner_2 hL2 hm ow.1 (us_owner_3 hL2 hm ow.1 (br_f (nI_pos (by omega)) (us_booking_7 hL2 hn gk.1 (ntc (fun q => absurd gk.2 q) (fun _ => br_t (ti_le.mpr (hlast k (by omega) (Nat.le_refl k))) ?_)))))
        have nx := ih (k + 1) (brkI σ ((ordS σ n).1 k)) v2 (by omega) c3 (fun z hz kz => by
          have := OrI_m (OrI_ord σ n) (z - k) k (by omega)
          rw [show k + (z - k) = z from by omega] at this
          exact this)
        rw [nI_succ k] at nx
        exact nx
    refine ⟨(ordS σ n).2 + 1, key (ordS σ n).2 0 (-1) v1 (by omega) hv1 (fun z hz _ => ?_)⟩
    have gz := hq.2.1 z hz
    have b : 0 ≤ (brkI σ ((ordS σ n).1 z)).toInt ∧ _ := brk_I hG hr (own_of hW.ow hm gz.1).1
    have : (-1 : Int32).toInt = -1 := rfl
    omega
  -- the second loop
  have L2 : ∃ r2, w_L_sums_167 Q r2 (sO σ m 0) 0 0 0 (sumI (fun o => opnS σ n (nI o)) m 0 0) (-1) 0 v := by
    refine loop_0 (W := fun r2 i w => w_L_sums_167 Q r2 (sO σ m 0) (cntS σ i 0) (cntS σ i 1) (cntS σ i 2) (sumI (fun o => opnS σ n (nI o)) m 0 0) (-1) (nI i) w) (I := fun i w => w = v) n v rfl ?_ ?_
    · intro r2 w hw1
      subst hw1
      rw [w_L_sums_167]
      exact us_count_6 hL (br_t Int32.le_rfl (L3 w (fun _ _ => rfl)))
    · intro r2 i w hi hw1 ih
      subst hw1
      have nx := ih w rfl
      have e2 : ∀ z, cntS σ (i + 1) z = cntS σ i z + (if bf σ i 7 = z then 1 else 0) := fun z => by
        show sumI _ (i + 1) 0 0 = _
        rw [sumI_s, Nat.zero_add]
        rfl
      rw [e2, e2, e2, nI_succ] at nx
      rw [w_L_sums_167]
      refine us_count_6 hL (br_f (nx_le hi hn) (us_booking_7 hL hn hi ?_))
      have s8 : bf σ i 7 = 0 → bf σ i 8 = -1 ∧ bf σ i 9 = -1 := hG.2.2.2.1 i hi
      by_cases c0 : bf σ i 7 = 0
      · rw [if_pos c0, if_neg (by rw [c0]; decide), if_neg (by rw [c0]; decide)] at nx
        refine ntc (fun q => absurd c0 q) (fun _ => ?_)
        refine ntc (fun _ => ntc (fun _ => ntc (fun q => absurd c0 q) (fun _ => ?_)) (fun q => absurd (c0.symm.trans q) (by decide))) (fun q => absurd (c0.symm.trans q) (by decide))
        refine us_booking_8 hL hn hi (ntc (fun q => absurd (s8 c0).1 q) (fun _ => us_booking_9 hL hn hi (ntc (fun q => absurd (s8 c0).2 q) (fun _ => us_booking_10 hL hn hi ?_))))
        have j0 : joyN σ i = 0 := by unfold joyN; rw [if_neg (by rw [c0]; decide)]
        exact ntc (fun q => absurd j0 q) (fun _ => ⟨fun _ => nx, fun q => absurd c0 q⟩)
      · rw [if_neg c0] at nx
        refine ntc (fun _ => ?_) (fun q => absurd q c0)
        have tl : ∀ a b c d e f, (w_L_sums_167 Q r2) a b c (d + e) f (-1) (nI i + 1) w → w_L_sums_234 Q (w_L_sums_167 Q r2) a b c f (-1) (nI i) (bf σ i 7) d e w := fun a b c d e f z => ⟨fun _ => ⟨fun q => absurd q c0, fun _ => us_booking_11 hL hW hV.2.1.2.1 hi (br_t rfl z)⟩, fun q => absurd q c0⟩
        by_cases c1 : bf σ i 7 = 1
        · rw [if_pos c1, if_neg (by rw [c1]; decide)] at nx
          refine ntc (fun q => absurd c1 q) (fun _ => ntc (fun _ => tl _ _ _ _ _ _ nx) (fun q => absurd (c1.symm.trans q) (by decide)))
        · rw [if_neg c1] at nx
          refine ntc (fun _ => ?_) (fun q => absurd q c1)
          by_cases c2 : bf σ i 7 = 2
          · rw [if_pos c2] at nx
            exact ntc (fun q => absurd c2 q) (fun _ => tl _ _ _ _ _ _ nx)
          · rw [if_neg c2] at nx
            exact ntc (fun _ => tl _ _ _ _ _ _ nx) (fun q => absurd q c2)
  -- the first loop
  refine loop_0 (W := fun r1 k w => w_L_sums_18 Q r1 (sO σ k 0) 0 0 0 (sumI (fun o => opnS σ n (nI o)) k 0 0) (-1) (nI k) w) (I := fun k w => w = v) m v rfl ?_ ?_
  · intro r1 w hw1
    subst hw1
    rw [w_L_sums_18]
    exact us_count_5 hL (br_t Int32.le_rfl L2)
  · intro r1 k w hk hw1 ih
    subst hw1
    have nx := ih w rfl
    have e1 : sO σ (k + 1) 0 = sO σ k 0 + og σ k 0 := by
      show sumI _ (k + 1) 0 0 = _
      rw [sumI_s, Nat.zero_add]
      rfl
    rw [e1, sumI_s, Nat.zero_add, nI_succ] at nx
    rw [w_L_sums_18]
    have bI := brk_I hG hr hk
    have go : ∀ s1, (if brk σ k < σ 3 then 0 else 1 : Int32) = s1 → w_L_sums_118 Q (w_L_sums_18 Q r1) (sO σ k 0 + og σ k 0) 0 0 0 (sumI (fun o => opnS σ n (nI o)) k 0 0 + opnS σ n (nI k)) (-1) (nI k) (og σ k 1) (og σ k 2 + og σ k 3) (if brk σ k < σ 3 then 0 else 1) s1 w := by
      intro s1 hs
      refine ⟨fun q => absurd hs q, fun _ => us_trust hL hm hk ?_⟩
      have ok : ∀ z : UInt64, vf_n64 z → w_L_sums_152 Q (w_L_sums_18 Q r1) (sO σ k 0 + og σ k 0) 0 0 0 (sumI (fun o => opnS σ n (nI o)) k 0 0 + opnS σ n (nI k)) (-1) (nI k) z z w := fun z hz => by
        have e0 : Op.cmpValue (FP.dcmp z z) .l = 0 := by rw [fp_dcmp hz]; rfl
        exact ⟨fun _ => nx, fun q => absurd e0 q⟩
      unfold trS
      refine ntc (fun c => ?_) (fun c => ?_)
      · rw [if_neg (show ¬ og σ k 1 + brk σ k = 0 from c)]
        exact ⟨fp_ddiv _ c, ok _ (fp_ddiv _ c)⟩
      · rw [if_pos (show og σ k 1 + brk σ k = 0 from c)]
        exact ok _ vf_d1
    refine us_count_5 hL (br_f (nI_ge hk (by omega)) (us_owner_0 hL hm hk (us_owner_8 hL hn hm hk (us_owner_1 hL hm hk (us_owner_2 hL hm hk (us_owner_3 hL hm hk (us_owner_9 hL hm hk (br_c (fun c => go 0 ?_) (fun c => go 1 ?_)))))))))
    · rw [hG.2.1.2.2]; exact if_pos c
    · rw [hG.2.1.2.2]; exact if_neg c
end LS4
