/-! THE LAW: acts, bargains -/
section LAD
variable {v : V3} {N r n m : Nat} {x : Int} {σ : Nat → Int32} {Q : Int32 → V3 → Prop}
theorem joy_e {σ' : Nat → Int32} {i : Nat} {t : Int32} (h4 : bf σ' i 4 = bf σ i 4) (h6 : bf σ' i 6 = bf σ i 6) : joyS σ' i t = joyS σ i t := by unfold joyS; rw [h4, h6]
theorem own_b {τ : Nat → Int32} {i f : Nat} {y : Int32} {j g : Nat} (hO : Ow τ n m) (hm : m ≤ 8) (hi : i < n) (hf : f < 8) : bf (addO τ i f y) j g = bf τ j g := addO_b hO hm hi hf
theorem bar_b {τ : Nat → Int32} {i j k f : Nat} (hO : Ow τ n m) (hm : m ≤ 8) (hi : i < n) (hj : j < n) : bf (barS τ i j) k f = bf τ k f := (addO_b (Ow_A hO hm hi (by omega)) hm hj (by omega)).trans (addO_b hO hm hi (by omega))
theorem swpF_b {i j k f : Nat} (hO : Ow σ n m) (hm : m ≤ 8) (hi : i < n) (hj : j < n) : bf (swpF σ i j) k f = bf (swpS σ i j) k f := (bf_sc (by omega)).trans (bar_b (Ow_e hO (fun k _ => swpS_f (by omega))) hm hi hj)
theorem buy_ow {i j : Nat} (hO : Ow σ n m) : Ow (settleS (awaitS σ j) i (bf σ j 8)) n m := Ow_ch (Ow_ch hO aw_ch) stl_ch
theorem buyF_b {i j k f : Nat} (hO : Ow σ n m) (hm : m ≤ 8) (hi : i < n) (hj : j < n) : bf (buyF σ i j) k f = bf (settleS (awaitS σ j) i (bf σ j 8)) k f := by
  have O1 := buy_ow (i := i) (j := j) hO
  have O2 := Ow_A O1 hm hi (f := 0) (x := -prcS σ i j) (by omega)
  have O3 := Ow_A O2 hm hj (f := 0) (x := prcS σ i j) (by omega)
  exact (bf_sc (by omega)).trans ((bar_b O3 hm hi hj).trans ((addO_b O2 hm hj (by omega)).trans (addO_b O1 hm hi (by omega))))
theorem barS_k {τ : Nat → Int32} {i j k : Nat} (hk : k < 10) : barS τ i j k = τ k := (addO_k hk).trans (addO_k hk)
theorem swpS_k {i j k : Nat} (hk : k < 10) : swpS σ i j k = σ k := by unfold swpS; rw [sc_put (by omega), sc_put (by omega), sc_put (by omega), sc_put (by omega)]
theorem swpF_89 {i j : Nat} : swpF σ i j 8 + swpF σ i j 9 = σ 8 + σ 9 + 1 := by
  unfold swpF
  rw [pk_us, pk_un (by decide), barS_k (by omega), barS_k (by omega), swpS_k (by omega), swpS_k (by omega)]
  ac_rfl
theorem buyC_k {i j k : Nat} {p : Int32} (hk : k < 10) : buyC σ i j p k = σ k := by
  unfold buyC
  rw [barS_k hk, addO_k hk, addO_k hk]
  unfold settleS awaitS
  rw [sc_put (by omega), sc_put (by omega), sc_put (by omega), sc_put (by omega), sc_put (by omega), sc_put (by omega)]
theorem buyF_89 {i j : Nat} : buyF σ i j 8 + buyF σ i j 9 = σ 8 + σ 9 + 1 := by
  unfold buyF
  rw [pk_us, pk_un (by decide), buyC_k (by omega), buyC_k (by omega)]
  ac_rfl
/-- the price of the best bargain, or -1 -/
def prB (σ : Nat → Int32) (n : Nat) : Int32 := if (bestB σ n).1 = 0 then -1 else if (bestB σ n).2.1 = 1 then prcS σ (bestB σ n).2.2.1 (bestB σ n).2.2.2 else 0
theorem prB_pos {C B : Int} (hW : Wf σ n m 32 B) (hG : GI σ n m C) (hb : ¬ (bestB σ n).1 = 0) : (0 : Int32) ≤ prB σ n := by
  obtain ⟨⟨b1, b2, b3, b4⟩, b5⟩ := (BI_bestB σ n).2 hb
  unfold prB
  rw [if_neg hb]
  by_cases k : (bestB σ n).2.1 = 1
  · rw [if_pos k]; exact ti_le.mpr (by rw [zero_I]; exact prc_pos hW hG b1 b2 b4)
  · rw [if_neg k]; exact Int32.le_rfl
theorem LA_5J {v' : V3} (hV : VJ v N r x σ n m) (h : ∀ c, c ≠ 5 → v' c = v c) : VJ v' N r x σ n m := VJ_k hV (LA_5 hV.1 hV.2.1.1.n40 hV.2.1.1.m8 h) (h 7 (by decide)) (h 3 (by decide))
/-- what best tells, place by place -/
def bsV (σ : Nat → Int32) (n k : Nat) : Int32 := if (bestB σ n).1 = 0 then -1 else match k with
  | 0 => (bestB σ n).1
  | 1 => nI (bestB σ n).2.1
  | 2 => nI (bestB σ n).2.2.1
  | 3 => nI (bestB σ n).2.2.2
  | _ => if (bestB σ n).2.1 = 1 then prcS σ (bestB σ n).2.2.1 (bestB σ n).2.2.2 else 0
theorem us_bestJ (hV : VJ v N r x σ n m) {k : Nat} (hk : k < 5) (h : ∀ v', VJ v' N r x σ n m → Q (bsV σ n k) v') : w_L_best (nI k) v Q := by
  refine us_best hV.1 hV.2.1.1 hk (fun c v' hv => ?_) (fun c v' hv hc => ?_)
  · have := h v' (LA_5J hV hv)
    unfold bsV at this
    rw [if_pos c] at this
    exact this
  · have := h v' (LA_5J hV hv)
    unfold bsV at this
    rw [if_neg c] at this
    obtain ⟨e0, e1⟩ := hc
    obtain ⟨e1, e2, e3, e4⟩ := e1 c
    match k, hk with
    | 0, _ => rw [e0]; exact this
    | 1, _ => rw [e1]; exact this
    | 2, _ => rw [e2]; exact this
    | 3, _ => rw [e3]; exact this
    | 4, _ => rw [e4]; exact this
/-- the check behind a swap or a buyout -/
theorem act_732 (hV : VJ v N r x σ n m) (hx : x ≤ 100 * r + 50) (hr : r ≤ 400) {i j : Nat} (hi : i < n) (hj : j < n) (h : ∀ (v' : V3) (σ' : Nat → Int32) (n' : Nat), VI v' N (r + 1) σ' n' m → Q 1 v') :
    (bf σ i 7 = 0 → w_L_buy (nI i) (nI j) v (fun r127 v126 => w_L_acts_732 Q (nI i) (nI j) (bf σ i 7) (gnS σ n i j) (joyN σ i) (joyN σ j) (prB σ n) (σ 8 + σ 9) r127 v126)) ∧ (¬ i = j → ¬ bf σ i 7 = 0 → w_L_swap (nI i) (nI j) v (fun r127 v126 => w_L_acts_732 Q (nI i) (nI j) (bf σ i 7) (gnS σ n i j) (joyN σ i) (joyN σ j) (prB σ n) (σ 8 + σ 9) r127 v126)) := by
  have hW := hV.2.1.1
  have hG := hV.2.2.1
  have hm := hW.m8
  have hn := hW.n40
  -- refused: nothing changed
  have ref : ∀ y : Int32, (y = 1 ∨ y = 4) → gnS σ n i j = 0 → w_L_acts_732 Q (nI i) (nI j) (bf σ i 7) (gnS σ n i j) (joyN σ i) (joyN σ j) (prB σ n) (σ 8 + σ 9) y v := by
    intro y hy hg
    have t : ∀ s0, w_L_acts_756 Q (nI i) (nI j) (bf σ i 7) (gnS σ n i j) (joyN σ i) (joyN σ j) (prB σ n) (σ 8 + σ 9) y s0 v := fun s0 => by
      have k : w_L_acts_775 Q (σ 8 + σ 9) v := us_count_11 hV.1 (us_count_12 hV.1 ⟨fun q => absurd rfl q, fun _ => ⟨.inr rfl, h _ _ _ (VI_g hV (by omega) hr)⟩⟩)
      refine ⟨fun q => absurd hg q, fun _ => ?_⟩
      rcases hy with e | e
      · subst e; exact br_t rfl k
      · subst e; exact br_f (by decide) ⟨fun q => absurd rfl q, fun _ => k⟩
    have u : w_L_acts_745 Q (nI i) (nI j) (bf σ i 7) (gnS σ n i j) (joyN σ i) (joyN σ j) (prB σ n) (σ 8 + σ 9) y v := ⟨fun _ => t 0, fun _ => t 1⟩
    exact ⟨fun _ => u, fun _ => ⟨fun _ => t 0, fun _ => u⟩⟩
  -- done
  have enter : ∀ {v' : V3}, (bf σ i 7 = 0 ∨ bf σ i 7 = 1) → w_L_acts_756 Q (nI i) (nI j) (bf σ i 7) (gnS σ n i j) (joyN σ i) (joyN σ j) (prB σ n) (σ 8 + σ 9) 0 1 v' → w_L_acts_732 Q (nI i) (nI j) (bf σ i 7) (gnS σ n i j) (joyN σ i) (joyN σ j) (prB σ n) (σ 8 + σ 9) 0 v' := by
    intro v' hb hk
    have u : w_L_acts_745 Q (nI i) (nI j) (bf σ i 7) (gnS σ n i j) (joyN σ i) (joyN σ j) (prB σ n) (σ 8 + σ 9) 0 v' := ⟨fun q => absurd q (by decide), fun _ => hk⟩
    exact ⟨fun _ => u, fun c => ⟨fun q => absurd (hb.resolve_left c) q, fun _ => u⟩⟩
  have prc : ¬ gnS σ n i j = 0 → (0 : Int32) ≤ prB σ n := fun hg => by
    refine prB_pos hW hG (fun z => ?_)
    have := gn_le (σ := σ) (n := n) hi hj
    have g := gn_pos hW hG hi hj hg
    rw [z, zero_I] at this
    omega
  refine ⟨fun c0 => ?_, fun ne c0 => ?_⟩
  · refine us_buy hV.1 hV.2.1 (by omega) hi hj (fun q => ref 1 (.inl rfl) ?_) (fun q1 q2 q3 => ref 4 (.inr rfl) ?_) (fun ne d1 d2 ok nz v' hL' hF' => ?_)
    · unfold gnS
      rw [if_pos (.inr (fun z => q ⟨c0, z⟩))]
    · unfold gnS
      by_cases e : i = j
      · rw [if_pos (.inl e)]
      · rw [if_neg (fun z => z.elim e (fun y => y q2)), if_neg (by rw [c0]; decide), if_pos c0]; exact q3
    · have eg : gnS σ n i j = candB σ n i j := by
        unfold gnS
        rw [if_neg (fun z => z.elim ne (fun y => y d2)), if_neg (by rw [c0]; decide), if_pos c0]
      have ev : candB σ n i j = buyV σ i j := if_pos ok
      have W1 := Wf_B (buyF_wf hW (by omega) hi hj ne d1 d2 ok) (B' := 10300 + 99 * r + 99) (by omega)
      have pok := pl_ok W1 (by omega)
      have fin := h v' _ n (VI_p hV (by omega) hr (d := 0) (by omega) hL' (hF' 7 (by omega)) (hF' 3 (by omega)) W1 (buyF_7 hW.ow hm hi hj) (buyF_Ev hW hi hj))
      have s7 : bf (buyF σ i j) i 7 = 1 := by rw [buyF_b hW.ow hm hi hj]; exact stl_7
      have s8 : bf (buyF σ i j) i 8 = bf σ j 8 := by rw [buyF_b hW.ow hm hi hj]; exact stl_8
      have sl : ∀ f, f < 7 → bf (buyF σ i j) i f = bf σ i f := fun f hf => (buyF_Ev hW hi hj).2.1 i hi f hf
      have pn : ∀ f, f < 10 → bf (pl (buyF σ i j) n) i f = bf (buyF σ i j) i f := fun f hf => plc_st (by omega) W1 0 hi (by rw [s7]; decide) hf
      have jn : joyN (pl (buyF σ i j) n) i = joyS σ i (bf σ j 8) := by
        unfold joyN
        rw [if_pos ((pn 7 (by omega)).trans s7), pn 8 (by omega), s8]
        exact joy_e ((pn 4 (by omega)).trans (sl 4 (by omega))) ((pn 6 (by omega)).trans (sl 6 (by omega)))
      have jo : joyN σ j = joyS σ j (bf σ j 8) := if_pos d2
      have lt := buy_lt hW hG hi hj d2 ok
      have k89 : pl (buyF σ i j) n 8 + pl (buyF σ i j) n 9 = σ 8 + σ 9 + 1 := by
        rw [show pl (buyF σ i j) n 8 = buyF σ i j 8 from plc_k (by omega) W1 0 (by omega), show pl (buyF σ i j) n 9 = buyF σ i j 9 from plc_k (by omega) W1 0 (by omega)]
        exact buyF_89
      refine enter (.inl c0) (ntc (fun hg => ⟨fun q => absurd q (by decide), fun _ => ⟨fun q => absurd rfl q, fun _ => us_count_11 hL' (us_count_12 hL' ⟨fun q => absurd k89 q, fun _ => br_t (prc hg) (ntc (fun q => absurd c0 q) (fun _ => ?_))⟩)⟩⟩) (fun q => absurd (eg.symm.trans q) nz))
      refine us_booking_10 hL' hn hi ?_
      rw [jn, jo]
      refine br_f (fun q => by have := ti_le.mp q; omega) (us_booking_10 hL' hn hi ?_)
      rw [jn]
      exact ⟨fun q => absurd (eg.trans ev).symm q, fun _ => ⟨.inr rfl, fin⟩⟩
  · refine us_swapx hV.1 hV.2.1 (by omega) hi hj (fun e => absurd e ne) (fun _ q => ref 1 (.inl rfl) ?_) (fun _ q1 q2 q3 => ref 4 (.inr rfl) ?_) (fun _ d1 d2 ok nz v' hL' hF' => ?_)
    · unfold gnS
      by_cases e : bf σ j 7 = 1
      · rw [if_neg (fun z => z.elim ne (fun y => y e)), if_neg (fun z => q ⟨z, e⟩), if_neg c0]
      · rw [if_pos (.inr e)]
    · unfold gnS
      rw [if_neg (fun z => z.elim ne (fun y => y q2)), if_pos q1]; exact q3
    · have eg : gnS σ n i j = candS σ n i j := by
        unfold gnS
        rw [if_neg (fun z => z.elim ne (fun y => y d2)), if_pos d1]
      have ev : candS σ n i j = swgV σ i j := if_pos ok
      have W1 := Wf_B (swpF_wf hW hi hj ne d1 d2 ok) (B' := 10300 + 99 * r + 99) (by omega)
      have pok := pl_ok W1 (by omega)
      have E := swpF_Ev hW hi hj d1 d2
      have fin := h v' _ n (VI_p hV (by omega) hr (d := 0) (by omega) hL' (hF' 7 (by omega)) (hF' 3 (by omega)) W1 (swpF_7 hW.ow hm hi hj) E)
      have s7 : ∀ k, bf (swpF σ i j) k 7 = bf σ k 7 := fun k => by rw [swpF_b hW.ow hm hi hj]; exact swpS_f (by omega)
      have i8 : bf (swpF σ i j) i 8 = bf σ j 8 := by rw [swpF_b hW.ow hm hi hj]; exact swpS_i ne
      have j8 : bf (swpF σ i j) j 8 = bf σ i 8 := by rw [swpF_b hW.ow hm hi hj]; exact swpS_j
      have pn : ∀ k, k < n → bf σ k 7 = 1 → ∀ f, f < 10 → bf (pl (swpF σ i j) n) k f = bf (swpF σ i j) k f := fun k hk h1 f hf => plc_st (by omega) W1 0 hk (by rw [s7, h1]; decide) hf
      have jni : joyN (pl (swpF σ i j) n) i = joyS σ i (bf σ j 8) := by
        unfold joyN
        rw [if_pos ((pn i hi d1 7 (by omega)).trans ((s7 i).trans d1)), pn i hi d1 8 (by omega), i8]
        exact joy_e ((pn i hi d1 4 (by omega)).trans (E.2.1 i hi 4 (by omega))) ((pn i hi d1 6 (by omega)).trans (E.2.1 i hi 6 (by omega)))
      have jnj : joyN (pl (swpF σ i j) n) j = joyS σ j (bf σ i 8) := by
        unfold joyN
        rw [if_pos ((pn j hj d2 7 (by omega)).trans ((s7 j).trans d2)), pn j hj d2 8 (by omega), j8]
        exact joy_e ((pn j hj d2 4 (by omega)).trans (E.2.1 j hj 4 (by omega))) ((pn j hj d2 6 (by omega)).trans (E.2.1 j hj 6 (by omega)))
      have ji : joyN σ i = joyS σ i (bf σ i 8) := if_pos d1
      have jj : joyN σ j = joyS σ j (bf σ j 8) := if_pos d2
      obtain ⟨-, -, -, g1, g2, -, -⟩ := ok
      have ti := bk_tm hW hi d1
      have tj := bk_tm hW hj d2
      have p := sub_pos (joy_I hW hG hi tj) (joy_I hW hG hi ti) g1
      have q := sub_pos (joy_I hW hG hj ti) (joy_I hW hG hj tj) g2
      have k89 : pl (swpF σ i j) n 8 + pl (swpF σ i j) n 9 = σ 8 + σ 9 + 1 := by
        rw [show pl (swpF σ i j) n 8 = swpF σ i j 8 from plc_k (by omega) W1 0 (by omega), show pl (swpF σ i j) n 9 = swpF σ i j 9 from plc_k (by omega) W1 0 (by omega)]
        exact swpF_89
      refine enter (.inr d1) (ntc (fun hg => ⟨fun q => absurd q (by decide), fun _ => ⟨fun q => absurd rfl q, fun _ => us_count_11 hL' (us_count_12 hL' ⟨fun q => absurd k89 q, fun _ => br_t (prc hg) (ntc (fun _ => ?_) (fun q => absurd q c0))⟩)⟩⟩) (fun q => absurd (eg.symm.trans q) nz))
      refine us_booking_10 hL' hn hi ?_
      rw [jni, ji, jj]
      refine br_f (fun z => by have := ti_le.mp z; omega) (us_booking_10 hL' hn hj ?_)
      rw [jnj]
      refine br_f (fun z => by have := ti_le.mp z; omega) (us_booking_10 hL' hn hi (us_booking_10 hL' hn hj ?_))
      rw [jni, jnj]
      have e : joyS σ i (bf σ j 8) - joyS σ i (bf σ i 8) + joyS σ j (bf σ i 8) - joyS σ j (bf σ j 8) = gnS σ n i j := by
        rw [eg, ev]
        unfold swgV
        rw [Int32.sub_eq_add_neg (a := joyS σ i (bf σ j 8) - joyS σ i (bf σ i 8) + joyS σ j (bf σ i 8)), Int32.sub_eq_add_neg (a := joyS σ j (bf σ i 8)), Int32.add_assoc]
      exact ⟨fun z => absurd e z, fun _ => ⟨.inr rfl, fin⟩⟩
theorem act_gain (hV : VJ v N r x σ n m) (hx : x ≤ 100 * r + 50) (hr : r ≤ 400) {i j : Nat} (hi : i < n) (hj : j < n) (h : ∀ (v' : V3) (σ' : Nat → Int32) (n' : Nat), VI v' N (r + 1) σ' n' m → Q 1 v') :
    w_L_gain (nI i) (nI j) v (fun r113 v112 => w_L_booking (nI i) 10 v112 (fun r115 v114 => w_L_booking (nI j) 10 v114 (fun r117 v116 => w_L_best 4 v116 (fun r119 v118 => w_L_count 11 v118 (fun r121 v120 => w_L_count 12 v120 (fun r123 v122 => ((¬ nI i = nI j → ((¬ bf σ i 7 = 0 → w_L_swap (nI i) (nI j) v122 (fun r127 v126 => w_L_acts_732 Q (nI i) (nI j) (bf σ i 7) r113 r115 r117 r119 (r121 + r123) r127 v126)) ∧ (bf σ i 7 = 0 → w_L_buy (nI i) (nI j) v122 (fun r168 v167 => w_L_acts_732 Q (nI i) (nI j) (bf σ i 7) r113 r115 r117 r119 (r121 + r123) r168 v167)))) ∧ (nI i = nI j → ((¬ r113 = 0 → w_L_acts_704 Q v122) ∧ (r113 = 0 → w_L_swap (nI i) (nI j) v122 (fun r172 v171 => ((¬ r172 = (-102) → w_L_acts_704 Q v171) ∧ (r172 = (-102) → w_L_acts_705 Q 1 v171))))))))))))) := by
  have hW := hV.2.1.1
  have hn := hW.n40
  refine us_gain hV.1 hW hi hj (us_booking_10 hV.1 hn hi (us_booking_10 hV.1 hn hj (us_bestJ (k := 4) hV (by omega) (fun v1 V1 => ?_))))
  have e4 : bsV σ n 4 = prB σ n := rfl
  rw [e4]
  refine us_count_11 V1.1 (us_count_12 V1.1 ?_)
  have k := act_732 (Q := Q) V1 hx hr hi hj h
  refine ntc (fun c => ntc (fun d => k.2 (fun z => c (by rw [z])) d) (fun d => k.1 d)) (fun c => ?_)
  have e : i = j := (nI_eq (by omega) (by omega)).mp c
  have g0 : gnS σ n i j = 0 := by unfold gnS; rw [if_pos (.inl e)]
  refine ⟨fun q => absurd g0 q, fun _ => us_swapx V1.1 V1.2.1 (by omega) hi hj (fun _ => ⟨fun q => absurd rfl q, fun _ => ⟨.inr rfl, h _ _ _ (VI_g V1 (by omega) hr)⟩⟩) (fun q => absurd e q) (fun q => absurd e q) (fun q => absurd e q)⟩
theorem act_best (hV : VJ v N r x σ n m) (hx : x ≤ 100 * r + 50) (hr : r ≤ 400) {i j : Nat} (hi : i < n) (hj : j < n) (h : ∀ (v' : V3) (σ' : Nat → Int32) (n' : Nat), VI v' N (r + 1) σ' n' m → Q 1 v') :
    w_L_best 0 v (fun r175 v174 => w_L_best 1 v174 (fun r177 v176 => w_L_best 2 v176 (fun r179 v178 => w_L_best 3 v178 (fun r181 v180 => ((0 ≤ r175 → w_L_gain r179 r181 v180 (fun r184 v183 => ((¬ r175 = r184 → w_L_acts_1087 Q v183) ∧ (r175 = r184 → w_L_gain (nI i) (nI j) v183 (fun r187 v186 => ((r175 < r187 → w_L_acts_1087 Q v186) ∧ (¬ r175 < r187 → w_L_booking r179 7 v186 (fun r190 v189 => ((¬ r190 = (1 - r177) → w_L_acts_1087 Q v189) ∧ (r190 = (1 - r177) → w_L_booking r181 7 v189 (fun r193 v192 => ((r193 = 1 → w_X3_bargain v192 (fun r196 v195 => ((¬ r196 = 0 → w_L_acts_1110 Q v195) ∧ (r196 = 0 → w_L_nobodyCould v195 (fun r200 v199 => ((r200 = 0 → w_L_acts_1110 Q v199) ∧ (¬ r200 = 0 → w_L_acts_1111 Q 1 v199))))))) ∧ (¬ r193 = 1 → w_L_acts_1087 Q v192))))))))))))) ∧ (¬ 0 ≤ r175 → w_X3_bargain v180 (fun r203 v202 => ((¬ r203 = 5 → w_L_acts_1023 Q 0 v202) ∧ (r203 = 5 → w_L_acts_1023 Q 1 v202)))))))) ) := by
  have hW := hV.2.1.1
  have hn := hW.n40
  have hm := hW.m8
  refine us_bestJ (k := 0) hV (by omega) (fun v1 V1 => us_bestJ (k := 1) V1 (by omega) (fun v2 V2 => us_bestJ (k := 2) V2 (by omega) (fun v3 V3' => us_bestJ (k := 3) V3' (by omega) (fun v4 V4 => ?_))))
  by_cases c : (bestB σ n).1 = 0
  · have e0 : bsV σ n 0 = -1 := if_pos c
    rw [e0]
    refine br_f (by decide) (us_bargain V4.1 V4.2.1 (by omega) (fun _ v' hv => ⟨fun q => absurd rfl q, fun _ => ⟨.inr rfl, h _ _ _ (VI_g (LA_5J V4 hv) (by omega) hr)⟩⟩) (fun q => absurd c q))
  · have e0 : bsV σ n 0 = (bestB σ n).1 := if_neg c
    have e1 : bsV σ n 1 = nI (bestB σ n).2.1 := if_neg c
    have e2 : bsV σ n 2 = nI (bestB σ n).2.2.1 := if_neg c
    have e3 : bsV σ n 3 = nI (bestB σ n).2.2.2 := if_neg c
    rw [e0, e1, e2, e3]
    obtain ⟨⟨b1, b2, b3, b4⟩, b5⟩ := (BI_bestB σ n).2 c
    have g := best_gn (σ := σ) (n := n) c
    have b0 := best_0 (σ := σ) (n := n)
    refine br_t (ti_le.mpr (by rw [zero_I]; exact b0)) (us_gain V4.1 hW b1 b2 ⟨fun q => absurd g.symm q, fun _ => us_gain V4.1 hW hi hj (br_f (fun q => by have := gn_le (σ := σ) (n := n) hi hj; have := ti_lt.mp q; omega) (us_booking_7 V4.1 hn b1 ?_))⟩)
    have kk : bf σ (bestB σ n).2.2.1 7 = 1 - nI (bestB σ n).2.1 := by
      rcases b5 with ⟨k, s, _⟩ | ⟨k, s, _⟩
      · rw [k, s]; rfl
      · rw [k, s]; rfl
    refine ⟨fun q => absurd kk q, fun _ => us_booking_7 V4.1 hn b2 (br_t b4 (us_bargain V4.1 V4.2.1 (by omega) (fun q => absurd q c) (fun _ v' hL' hF' => ?_)))⟩
    have W1 := Wf_B (barF_wf hW (by omega) c) (B' := 10300 + 99 * r + 99) (by omega)
    have ok := pl_ok W1 (by omega)
    have t7 : barF σ n 7 = σ 7 := by
      unfold barF
      by_cases k : (bestB σ n).2.1 = 0
      · rw [if_pos k]; exact swpF_7 hW.ow hm b1 b2
      · rw [if_neg k]; exact buyF_7 hW.ow hm b1 b2
    have fin := h v' _ n (VI_p V4 (by omega) hr (d := 0) (by omega) hL' (hF' 7 (by omega) (by omega)) (hF' 3 (by omega) (by omega)) W1 t7 (barF_Ev hW c))
    exact ⟨fun q => absurd rfl q, fun _ => us_nobody hL' ok.1 ok.2.1 (zt1 ⟨.inr rfl, fin⟩)⟩
theorem us_acts (hV : VI v N r σ n m) (hr : r ≤ 400) (h : ∀ (v' : V3) (σ' : Nat → Int32) (n' : Nat), VI v' N (r + 1) σ' n' m → Q 1 v') : w_L_acts v Q := by
  have hW := hV.2.1.1
  have hn := hW.n40
  refine us_count_6 hV.1 (ntc (fun c => ?_) (fun c => ?_))
  · have n1 : 1 ≤ n := Nat.one_le_iff_ne_zero.mpr (fun z => c (by rw [z]; rfl))
    refine us_drawJ hV (by omega) (by omega) (fun i hi v1 V1 => us_drawJ V1 (by omega) (by omega) (fun j hj v2 V2 => us_booking_7 V2.1 hn hi (us_booking_0 V2.1 hn hi (us_booking_8 V2.1 hn hi (us_count_7 V2.1 (us_drawJ (K := 8) V2 (by omega) (by omega) (fun y hy v3 V3' => ?_)))))))
    exact ⟨fun _ => act_arrive V3' (by omega) hr hi h, fun _ => act_arrive V3' (by omega) hr hi h, fun _ => act_leave V3' (by omega) hr hi h, fun _ => act_cancel V3' (by omega) hr hi h, fun _ => act_extend V3' (by omega) hr hi h, fun _ => act_evict V3' (by omega) hr hi h, fun _ => act_gain V3' (by omega) hr hi hj h, fun _ => act_best V3' (by omega) hr hi hj h⟩
  · have n0 : n = 0 := (nI_eq (b := 0) (by omega) (by omega)).mp c
    subst n0
    exact us_leave0 hV.1 ⟨fun q => absurd rfl q, fun _ => ⟨.inr rfl, h _ _ _ (VI_g hV (by omega) hr)⟩⟩
end LAD
