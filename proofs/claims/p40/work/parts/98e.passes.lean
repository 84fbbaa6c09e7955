/-! THE LAW: passes, lines -/
section LPS
variable {v : V3} {N r n m : Nat} {x : Int} {σ : Nat → Int32} {Q : Int32 → V3 → Prop}
theorem VJ_62 {v' : V3} (hV : VJ v N r x σ n m) (F : Fr 62 v v') : VJ v' N r x σ n m := VJ_k hV (LA_fr hV.1 hV.2.1.1.n40 hV.2.1.1.m8 F (by omega)) (F 7 (by omega)) (F 3 (by omega))
theorem sO_1 (σ : Nat → Int32) (k f : Nat) : sO σ (k + 1) f = sO σ k f + og σ k f := by
  show sumI _ (k + 1) 0 0 = _
  rw [sumI_s, Nat.zero_add]
  rfl
theorem neg_s (S t : Int32) : S - (S + t) = -t := by
  rw [Int32.sub_eq_add_neg, Int32.neg_add, Int32.sub_eq_add_neg, ← Int32.add_assoc, Int32.add_right_neg, Int32.zero_add]
theorem us_passes (hV : VI v N r σ n m) (hr : r ≤ 400) (h : ∀ (v' : V3) (σ' : Nat → Int32) (n' : Nat), VI v' N (r + 1) σ' n' m → Q 1 v') : w_L_passes v Q := by
  have hW := hV.2.1.1
  have hn := hW.n40
  have hm := hW.m8
  have hT := hV.2.2.2.1
  have t0 := hW.t0.1
  refine us_drawJ (K := 12) hV (by omega) (by omega) (fun y hy v1 V1 => us_count_7 V1.1 ?_)
  rw [show (1 + nI y : Int32) = nI (1 + y) from nI_add 1 y]
  generalize hK : 1 + y = K
  have inv := tkN_inv (n := n) (m := m) (S := 32) (B := 10300 + 99 * r) (k := K) (t := (σ 7).toInt) (a := (σ, fun _ => 0)) (by omega) (by omega) ⟨hW, hV.2.1.2.1, rfl⟩
  obtain ⟨E, hPT, s2, s1, -⟩ := tkN_all (K := K) hW hV.2.1.2.1 (by omega) (by omega)
  have pt := hPT (by omega)
  refine loop_0 (W := fun q k w => w_L_passes_27 Q q (nI K) (σ 7) (sO σ k 2) (sO σ k 1) (nI k) w) (I := fun k w => w = v1) m v1 rfl ?_ ?_
  · intro q w hw
    subst hw
    rw [w_L_passes_27]
    refine us_count_5 V1.1 (br_t Int32.le_rfl (us_ahead (x := 0) V1.1 V1.2.1 (by omega) (by omega) (by omega) (fun v2 F2 => ?_)))
    have V2 := VJ_62 V1 F2
    refine us_ahead (x := 3) V2.1 V2.2.1 (by omega) (by omega) (by omega) (fun v3 F3 => ?_)
    have V3' := VJ_62 V2 F3
    refine us_pass V3'.1 V3'.2.1 (by omega) (by omega) (by omega) (fun v4 hL4 F4 => ?_)
    generalize hρ : (tkN n K (σ, fun _ => 0)).1 = ρ at *
    have x0 : sO σ m 2 - sO ρ m 2 = -((tkN n K (σ, fun _ => 0)).2 0) := by rw [s2]; exact neg_s _ _
    have x3 : sO σ m 1 - sO ρ m 1 = -((tkN n K (σ, fun _ => 0)).2 3) := by rw [s1]; exact neg_s _ _
    have k7 : ρ 7 = σ 7 + nI K := by
      rw [ti_eq, inv.2.2, ti_add (by rw [ti_nI (by omega)]; omega) (by rw [ti_nI (by omega)]; omega), ti_nI (by omega)]
    have fin := h v4 ρ n (VI_s V3' hr (d := 40 * K) (by omega) hL4 (Wf_B inv.1 (by omega)) inv.2.1 (by rw [inv.2.2]; omega) E (by rw [F4 7 (by omega)]) (by rw [F4 7 (by omega)]) (Nx_m (Nx_e V3'.2.2.2.2.2.1 (by rw [F4 7 (by omega)])) (by omega)) (F4 3 (by omega)))
    -- the checks of all bookings
    have L3 : ∃ q3, w_L_passes_159 Q q3 (nI K) (σ 7) (sO σ m 2 - sO ρ m 2) (sO σ m 1 - sO ρ m 1) ((tkN n K (σ, fun _ => 0)).2 0) ((tkN n K (σ, fun _ => 0)).2 3) ((tkN n K (σ, fun _ => 0)).2 0) 0 v4 := by
      refine loop_0 (W := fun q i w => w_L_passes_159 Q q (nI K) (σ 7) (sO σ m 2 - sO ρ m 2) (sO σ m 1 - sO ρ m 1) ((tkN n K (σ, fun _ => 0)).2 0) ((tkN n K (σ, fun _ => 0)).2 3) ((tkN n K (σ, fun _ => 0)).2 0) (nI i) w) (I := fun i w => w = v4) n v4 rfl ?_ ?_
      · intro q w hw
        subst hw
        rw [w_L_passes_159]
        exact us_count_6 hL4 (br_t Int32.le_rfl ⟨fun z => absurd rfl z, fun _ => ⟨fun z => absurd x0 z, fun _ => ⟨fun z => absurd x3 z, fun _ => us_count_7 hL4 ⟨fun z => absurd k7 z, fun _ => us_nobody hL4 inv.1 inv.2.1 (zt1 ⟨.inr rfl, fin⟩)⟩⟩⟩⟩)
      · intro q i w hi hw ih
        subst hw
        have nx := ih w rfl
        rw [nI_succ] at nx
        obtain ⟨p1, p2, p3⟩ := pt i hi
        have t3 : w_L_passes_241 Q (w_L_passes_159 Q q) (nI K) (σ 7) (sO σ m 2 - sO ρ m 2) (sO σ m 1 - sO ρ m 1) ((tkN n K (σ, fun _ => 0)).2 0) ((tkN n K (σ, fun _ => 0)).2 3) ((tkN n K (σ, fun _ => 0)).2 0) (nI i) (bf ρ i 7) w := by
          refine ntc (fun _ => nx) (fun c => us_booking_4 hL4 hn hi (us_booking_5 hL4 hn hi (br_t ?_ nx)))
          rw [← k7]
          refine Classical.byContradiction (fun z => ?_)
          unfold expC at p3
          exact absurd (decide_eq_true (show bf ρ i 7 = 0 ∧ ¬ ρ 7 ≤ bf ρ i 4 + bf ρ i 5 from ⟨c, z⟩)) (by rw [p3]; decide)
        have t2 : w_L_passes_209 Q (w_L_passes_159 Q q) (nI K) (σ 7) (sO σ m 2 - sO ρ m 2) (sO σ m 1 - sO ρ m 1) ((tkN n K (σ, fun _ => 0)).2 0) ((tkN n K (σ, fun _ => 0)).2 3) ((tkN n K (σ, fun _ => 0)).2 0) (nI i) (bf ρ i 7) w := by
          refine ntc (fun _ => t3) (fun c => us_booking_8 hL4 hn hi (us_count_0 hL4 (br_f (fun z => ?_) t3)))
          rw [← k7] at z
          unfold bmpC at p2
          exact absurd (decide_eq_true (show bf ρ i 7 = 1 ∧ ¬ ρ 7 ≤ bf ρ i 8 + ρ 0 from ⟨c, fun y => by have := ti_le.mp y; have := ti_lt.mp z; omega⟩)) (by rw [p2]; decide)
        rw [w_L_passes_159]
        refine us_count_6 hL4 (br_f (nx_le hi hn) (us_booking_7 hL4 hn hi (ntc (fun _ => t2) (fun c => us_booking_9 hL4 hn hi (br_f (fun z => ?_) t2)))))
        rw [← k7] at z
        unfold finC at p1
        exact absurd (decide_eq_true (show bf ρ i 7 = 2 ∧ ¬ ρ 7 < bf ρ i 9 from ⟨c, fun y => by have := ti_le.mp z; have := ti_lt.mp y; omega⟩)) (by rw [p1]; decide)
    -- the sums behind
    have L2 : ∃ q2, w_L_passes_109 Q q2 (nI K) (σ 7) (sO σ m 2) (sO σ m 1) ((tkN n K (σ, fun _ => 0)).2 0) ((tkN n K (σ, fun _ => 0)).2 3) ((tkN n K (σ, fun _ => 0)).2 0) 0 v4 := by
      have st : sO σ m 2 - sO ρ 0 2 = sO σ m 2 ∧ sO σ m 1 - sO ρ 0 1 = sO σ m 1 := ⟨Int32.sub_zero _, Int32.sub_zero _⟩
      have g : ∃ q2, w_L_passes_109 Q q2 (nI K) (σ 7) (sO σ m 2 - sO ρ 0 2) (sO σ m 1 - sO ρ 0 1) ((tkN n K (σ, fun _ => 0)).2 0) ((tkN n K (σ, fun _ => 0)).2 3) ((tkN n K (σ, fun _ => 0)).2 0) (nI 0) v4 := by
        refine loop_0 (W := fun q k w => w_L_passes_109 Q q (nI K) (σ 7) (sO σ m 2 - sO ρ k 2) (sO σ m 1 - sO ρ k 1) ((tkN n K (σ, fun _ => 0)).2 0) ((tkN n K (σ, fun _ => 0)).2 3) ((tkN n K (σ, fun _ => 0)).2 0) (nI k) w) (I := fun k w => w = v4) m v4 rfl ?_ ?_
        · intro q w hw
          subst hw
          rw [w_L_passes_109]
          exact us_count_5 hL4 (br_t Int32.le_rfl L3)
        · intro q k w hk hw ih
          subst hw
          have nx := ih w rfl
          rw [sO_1, sO_1, nI_succ] at nx
          have sa : ∀ a b c : Int32, a - (b + c) = a - b - c := fun a b c => by
            rw [Int32.sub_eq_add_neg, Int32.neg_add, Int32.sub_eq_add_neg, ← Int32.add_assoc, ← Int32.sub_eq_add_neg, ← Int32.sub_eq_add_neg]
          rw [sa, sa] at nx
          rw [w_L_passes_109]
          exact us_count_5 hL4 (br_f (nI_ge hk (by omega)) (us_owner_2 hL4 hm hk (us_owner_1 hL4 hm hk nx)))
      rw [st.1, st.2] at g
      exact g
    exact L2
  · intro q k w hk hw ih
    subst hw
    have nx := ih w rfl
    rw [sO_1, sO_1, nI_succ] at nx
    rw [w_L_passes_27]
    exact us_count_5 V1.1 (br_f (nI_ge hk (by omega)) (us_owner_2 V1.1 hm hk (us_owner_1 V1.1 hm hk nx)))
theorem us_lines (hV : VI v N r σ n m) (hr : r ≤ 400) (h : ∀ (v' : V3) (σ' : Nat → Int32) (n' : Nat), VI v' N (r + 1) σ' n' m → Q 1 v') : w_L_lines v Q := by
  have hW := hV.2.1.1
  have hn := hW.n40
  have hm := hW.m8
  have hT := hV.2.2.2.1
  have t0 := hW.t0.1
  refine us_count_7 hV.1 (us_drawJ (K := 20) hV (by omega) (by omega) (fun y hy v1 V1 => ?_))
  have et : (σ 7 + nI y).toInt = (σ 7).toInt + y := by rw [ti_add (by rw [ti_nI (by omega)]; omega) (by rw [ti_nI (by omega)]; omega), ti_nI (by omega)]
  generalize σ 7 + nI y = t at et
  refine us_show V1.1 V1.2.1 (by omega) (fun v2 c2 d2 l13 l2 => br_t rfl ?_)
  have V2 : VJ v2 N r (100 * r + 1) σ n m := VJ_k V1 (LA_c V1.1 hn hm (fun c q _ _ _ => c2 c (by omega) (by omega))) (c2 7 (by decide) (by decide)) (c2 3 (by decide) (by decide))
  have hL := V2.1
  have fin := h v2 σ n (VI_g V2 (by omega) hr)
  refine loop_0 (W := fun q k w => w_L_lines_34 Q q t (nI k) w) (I := fun k w => w = v2) 32 v2 rfl ?_ ?_
  · intro q w hw
    subst hw
    rw [w_L_lines_34]
    exact br_t Int32.le_rfl (us_shown32 l13 ⟨fun z => absurd rfl z, fun _ => ⟨.inr rfl, fin⟩⟩)
  · intro q k w hk hw ih
    subst hw
    have nx := ih w rfl
    rw [nI_succ] at nx
    rw [w_L_lines_34]
    refine br_f (nI_ge (b := 32) hk (by omega)) (us_holder hL hn hW.s4 hk (by omega) (us_shown hk l13 ?_))
    rw [l2 k hk]
    have cs : (hldS σ n (nI k) t = -1 ∧ lnS σ n t k = 46) ∨ (∃ j, j < n ∧ hldS σ n (nI k) t = nI j ∧ lnS σ n t k = 48 + bf σ j 0 ∧ cvB σ j (nI k).toInt t.toInt) := by
      rcases clS_cases (σ := σ) (n := n) (x1 := nI k) (x2 := 1) (x3 := t) (x4 := t + 1) (x5 := -1) (x6 := -1) hn with ⟨e, _⟩ | ⟨j, hj, e, ne, cl⟩
      · exact .inl ⟨e, if_pos e⟩
      · refine .inr ⟨j, hj, e, ?_, (cv_cl hW.sp hj hn (by rw [ti_nI (by omega)]; omega) (by omega)).mp cl⟩
        unfold lnS
        rw [if_neg (show ¬ hldS σ n (nI k) t = -1 from ne), show hldS σ n (nI k) t = nI j from e, nx_ix hj hn]
    rcases cs with ⟨e, el⟩ | ⟨j, hj, e, el, cv⟩
    · rw [e, el]
      exact br_f (by decide) (br_t rfl ⟨fun _ => nx, fun z => absurd (by decide) z⟩)
    · rw [e, el]
      have ik : (nI k).toInt = (k : Int) := ti_nI (by omega)
      rw [ik] at cv
      obtain ⟨-, q1, q2, q3, q4⟩ := cv
      have sp := hW.sp.1 j hj
      refine br_t (nI_pos' (by omega)) (us_booking_0 hL hn hj (br_t rfl ⟨fun z => absurd z (nI_pos (by omega)), fun _ => us_booking_8 hL hn hj (br_f (fun z => by have := ti_lt.mp z; omega) (us_booking_9 hL hn hj (br_f (fun z => by have := ti_le.mp z; omega) (us_booking_1 hL hn hj (br_f (fun z => by have := ti_lt.mp z; omega) (us_booking_1 hL hn hj (us_booking_2 hL hn hj (br_t (ti_lt.mpr ?_) nx))))))))⟩))
      rw [ti_add (by omega) (by omega)]
      omega
end LPS
