/-! THE LAW: acts -/
section LAC
variable {v : V3} {N r n m : Nat} {x : Int} {σ : Nat → Int32} {Q : Int32 → V3 → Prop}
/-- behind a change the law stands as before, a step on -/
theorem VI_f {v' : V3} {ρ : Nat → Int32} (hV : VJ v N r x σ n m) (hx : x ≤ 100 * r + 100) (hr : r ≤ 400) {d : Nat} (hd : d ≤ 1000) (hL : LA v' 8 ρ n m) (h7 : v' 7 = v 7) (h3 : v' 3 = v 3) (hW : Wf ρ n m 32 (10300 + 99 * r + 99)) (hN : NF ρ n) (hT : ρ 7 = σ 7) (hE : Ev σ ρ n m d) : VI v' N (r + 1) ρ n m :=
  VI_s hV hr hd hL hW hN (by rw [hT]; have := hV.2.2.2.1; omega) hE (by rw [h7]) (by rw [h7]) (Nx_m (Nx_e hV.2.2.2.2.2.1 (by rw [h7])) hx) h3
theorem VI_g (hV : VJ v N r x σ n m) (hx : x ≤ 100 * r + 100) (hr : r ≤ 400) : VI v N (r + 1) σ n m := VI_0 hV hr hV.1 rfl rfl (Nx_m hV.2.2.2.2.2.1 hx) rfl
/-- behind placing -/
theorem VI_p {v' : V3} {τ : Nat → Int32} (hV : VJ v N r x σ n m) (hx : x ≤ 100 * r + 100) (hr : r ≤ 400) {d : Nat} (hd : d ≤ 1000) (hL : LA v' 8 (pl τ n) n m) (h7 : v' 7 = v 7) (h3 : v' 3 = v 3) (hW : Wf τ n m 32 (10300 + 99 * r + 99)) (hT : τ 7 = σ 7) (hE : Ev σ τ n m d) : VI v' N (r + 1) (pl τ n) n m := by
  have ok := pl_ok hW (by omega)
  exact VI_f hV hx hr hd hL h7 h3 ok.1 ok.2.1 (ok.2.2.trans hT) (Ev_t hE (pl_Ev (by omega) hW))
theorem addO_k {τ : Nat → Int32} {i f k : Nat} {y : Int32} (hk : k < 10) : addO τ i f y k = τ k := sc_putO hk
theorem addO_g {τ : Nat → Int32} {i f : Nat} {y : Int32} (hf : f < 8) : og (addO τ i f y) (ownI τ i) f = og τ (ownI τ i) f + y := by
  unfold addO
  rw [og_putO hf hf, if_pos ⟨rfl, rfl⟩]
theorem act_arrive (hV : VJ v N r x σ n m) (hx : x ≤ 100 * r + 50) (hr : r ≤ 400) {i : Nat} (hi : i < n) (h : ∀ (v' : V3) (σ' : Nat → Int32) (n' : Nat), VI v' N (r + 1) σ' n' m → Q 1 v') : w_L_owner (bf σ i 0) 6 v (fun r20 v19 => w_L_arrive (nI i) v19 (fun r22 v21 => ((bf σ i 7 = 1 → ((bf σ i 8 ≤ σ 7 → w_L_acts_187 Q (bf σ i 0) (bf σ i 8) (σ 7) r20 r22 r22 0 v21) ∧ (¬ bf σ i 8 ≤ σ 7 → w_L_acts_187 Q (bf σ i 0) (bf σ i 8) (σ 7) r20 r22 r22 2 v21))) ∧ (¬ bf σ i 7 = 1 → w_L_acts_187 Q (bf σ i 0) (bf σ i 8) (σ 7) r20 r22 r22 1 v21)))) := by
  have hW := hV.2.1.1
  have hm := hW.m8
  have ow := own_of hW.ow hm hi
  rw [ow.2]
  have no : ∀ y : Int32, ¬ y = 0 → w_L_acts_187 Q (nI (ownI σ i)) (bf σ i 8) (σ 7) (og σ (ownI σ i) 6) y y y v := fun y hy => ⟨fun q => absurd rfl q, fun _ => us_owner_6 hV.1 hm ow.1 (ntc (fun _ => ⟨fun q => absurd (Int32.add_zero _).symm q, fun _ => ⟨.inr rfl, h _ _ _ (VI_g hV (by omega) hr)⟩⟩) (fun q => absurd q hy))⟩
  refine us_owner_6 hV.1 hm ow.1 (us_arrive hV.1 hV.2.1 hi (fun c => ?_) (fun c d => ?_) (fun c d v' hL' hF' => ?_))
  · exact ⟨fun q => absurd q c, fun _ => no 1 (by decide)⟩
  · exact ⟨fun _ => ⟨fun q => absurd q d, fun _ => no 2 (by decide)⟩, fun q => absurd c q⟩
  · have hk := hold_ok hW hV.2.1.2.1 hi c
    have oe : ownI (putB σ i 7 2) i = ownI σ i := own_e (by rw [bf_put (by omega) (by omega), if_neg (by omega)])
    have g6 : og (arvS σ i) (ownI σ i) 6 = og σ (ownI σ i) 6 + (σ 7 - bf σ i 8) := by
      have := addO_g (τ := putB σ i 7 2) (i := i) (f := 6) (y := σ 7 - bf σ i 8) (by omega)
      rw [oe, og_put (by omega) (by omega)] at this
      exact this
    have W1 := Wf_B (wf_A (f := 6) (x := σ 7 - bf σ i 8) hk.1 hi (by omega)) (B' := 10300 + 99 * r + 99) (by omega)
    have N1 := nf_A (f := 6) (x := σ 7 - bf σ i 8) hk.1 hk.2 hi (by omega)
    refine ⟨fun _ => ⟨fun _ => ⟨fun q => absurd rfl q, fun _ => us_owner_6 hL' hm ow.1 (ntc (fun q => absurd rfl q) (fun _ => ⟨fun q => absurd g6 q, fun _ => ⟨.inr rfl, h v' (arvS σ i) n ?_⟩⟩))⟩, fun q => absurd d q⟩, fun q => absurd c q⟩
    exact VI_f hV (by omega) hr (d := 0) (by omega) hL' (hF' 7 (by omega)) (hF' 3 (by omega)) W1 N1 ((addO_k (by omega)).trans (sc_put (by omega))) (arv_Ev hW hi)
theorem act_leave (hV : VJ v N r x σ n m) (hx : x ≤ 100 * r + 50) (hr : r ≤ 400) {i : Nat} (hi : i < n) (h : ∀ (v' : V3) (σ' : Nat → Int32) (n' : Nat), VI v' N (r + 1) σ' n' m → Q 1 v') : w_L_owner (bf σ i 0) 1 v (fun r40 v39 => w_L_leave (nI i) v39 (fun r42 v41 => ((¬ bf σ i 7 = 2 → w_L_acts_262 Q (nI i) (bf σ i 0) (σ 7) r40 r42 r42 1 v41) ∧ (bf σ i 7 = 2 → w_L_acts_262 Q (nI i) (bf σ i 0) (σ 7) r40 r42 r42 0 v41)))) := by
  have hW := hV.2.1.1
  have hm := hW.m8
  have hn := hW.n40
  have ow := own_of hW.ow hm hi
  rw [ow.2]
  refine us_owner_1 hV.1 hm ow.1 (us_leavex hV.1 hV.2.1 (by omega) hi (fun c => ?_) (fun c v' hL' hF' => ?_))
  · exact ntc (fun _ => ⟨fun q => absurd rfl q, fun _ => us_owner_1 hV.1 hm ow.1 ⟨fun q => absurd (Int32.add_sub_cancel _ _).symm q, fun _ => ntc (fun _ => ⟨.inr rfl, h _ _ _ (VI_g hV (by omega) hr)⟩) (fun q => absurd q (by decide))⟩⟩) (fun q => absurd q c)
  · have W1 := Wf_B (lve_wf hW hi) (B' := 10300 + 99 * r + 99) (by omega)
    have oe : ownI (putB (putB σ i 7 3) i 9 (σ 7)) i = ownI σ i := own_e (by rw [bf_put (by omega) (by omega), if_neg (by omega), bf_put (by omega) (by omega), if_neg (by omega)])
    have O1 : Ow (putB (putB σ i 7 3) i 9 (σ 7)) n m := Ow_b (Ow_b hW.ow (by omega)) (by omega)
    have g1 : og (pl (lveS σ i) n) (ownI σ i) 1 = og σ (ownI σ i) 1 + 1 - 0 := by
      rw [show og (pl (lveS σ i) n) (ownI σ i) 1 = og (lveS σ i) (ownI σ i) 1 from plc_og (by omega) W1 0 (by omega) (by omega), Int32.sub_zero]
      have := addO_g (τ := putB (putB σ i 7 3) i 9 (σ 7)) (i := i) (f := 1) (y := 1) (by omega)
      rw [oe, og_put (by omega) (by omega), og_put (by omega) (by omega)] at this
      exact this
    have s7 : bf (lveS σ i) i 7 = 3 := by
      unfold lveS
      rw [addO_b O1 hm hi (by omega), bf_put (by omega) (by omega), if_neg (by omega), bf_put (by omega) (by omega), if_pos ⟨rfl, rfl⟩]
    have s9 : bf (pl (lveS σ i) n) i 9 = σ 7 := by
      rw [show bf (pl (lveS σ i) n) i 9 = bf (lveS σ i) i 9 from plc_st (by omega) W1 0 hi (by rw [s7]; decide) (by omega)]
      unfold lveS
      rw [addO_b O1 hm hi (by omega), bf_put (by omega) (by omega), if_pos ⟨rfl, rfl⟩]
    have ok := pl_ok W1 (by omega)
    have fin := h v' _ n (VI_p hV (by omega) hr (d := 0) (by omega) hL' (hF' 7 (by omega)) (hF' 3 (by omega)) W1 ((addO_k (by omega)).trans ((sc_put (by omega)).trans (sc_put (by omega)))) (lve_Ev hW hi))
    refine ntc (fun q => absurd c q) (fun _ => ⟨fun q => absurd rfl q, fun _ => us_owner_1 hL' hm ow.1 ⟨fun q => absurd g1 q, fun _ => ntc (fun q => absurd rfl q) (fun _ => us_booking_9 hL' hn hi ⟨fun q => absurd s9 q, fun _ => us_nobody hL' ok.1 ok.2.1 (zt1 ⟨.inr rfl, fin⟩)⟩)⟩⟩)
theorem st_lt {i : Nat} (hW : Wf σ n m 32 (10300 + 99 * (r : Int))) (hi : i < n) : ¬ 2 ≤ bf σ i 7 ↔ (bf σ i 7 = 0 ∨ bf σ i 7 = 1) := by
  obtain ⟨s, hs, e⟩ := hW.st i hi
  rw [e]
  have hs : s ≤ 6 := hs
  constructor
  · intro q
    have : s < 2 := Nat.not_le.mp (fun z => q (nI_le (a := 2) z (by omega)))
    rcases Nat.lt_or_ge s 1 with c | c
    · left; rw [show s = 0 by omega]; rfl
    · right; rw [show s = 1 by omega]; rfl
  · rintro (q | q) z
    · rw [q] at z; exact absurd z (by decide)
    · rw [q] at z; exact absurd z (by decide)
theorem act_cancel (hV : VJ v N r x σ n m) (hx : x ≤ 100 * r + 50) (hr : r ≤ 400) {i : Nat} (hi : i < n) (h : ∀ (v' : V3) (σ' : Nat → Int32) (n' : Nat), VI v' N (r + 1) σ' n' m → Q 1 v') : w_L_owner (bf σ i 0) 3 v (fun r58 v57 => w_L_cancel (nI i) v57 (fun r60 v59 => ((2 ≤ bf σ i 7 → w_L_acts_353 Q (nI i) (bf σ i 7) (bf σ i 0) (bf σ i 8) (σ 7) r58 r60 r60 1 v59) ∧ (¬ 2 ≤ bf σ i 7 → w_L_acts_353 Q (nI i) (bf σ i 7) (bf σ i 0) (bf σ i 8) (σ 7) r58 r60 r60 0 v59)))) := by
  have hW := hV.2.1.1
  have hm := hW.m8
  have hn := hW.n40
  have ow := own_of hW.ow hm hi
  rw [ow.2]
  refine us_owner_3 hV.1 hm ow.1 (us_cancel hV.1 hV.2.1 (by omega) hi (fun c d => ?_) (fun c v' hL' hF' => ?_))
  · refine br_t (Classical.byContradiction (fun q => ((st_lt hW hi).mp q).elim c d)) ⟨fun q => absurd rfl q, fun _ => us_owner_3 hV.1 hm ow.1 (ntc (fun _ => ⟨fun q => absurd (Int32.add_zero _).symm q, fun _ => ntc (fun _ => ⟨.inr rfl, h _ _ _ (VI_g hV (by omega) hr)⟩) (fun q => absurd q (by decide))⟩) (fun q => absurd q d))⟩
  · have W1 := Wf_B (cnc_wf hW hi) (B' := 10300 + 99 * r + 99) (by omega)
    have ok := pl_ok W1 (by omega)
    have k0 : ∀ k, k < 10 → cncS σ i k = σ k := fun k hk => by
      unfold cncS
      rw [sc_put (by omega)]
      by_cases c : lateC σ i = true
      · rw [if_pos c]; exact addO_k hk
      · rw [if_neg c]
    have s7 : bf (cncS σ i) i 7 = 4 := by unfold cncS; rw [bf_put (by omega) (by omega), if_pos ⟨rfl, rfl⟩]
    have p7 : bf (pl (cncS σ i) n) i 7 = 4 := (plc_st (by omega) W1 0 hi (by rw [s7]; decide) (by omega)).trans s7
    have g3 : og (pl (cncS σ i) n) (ownI σ i) 3 = og σ (ownI σ i) 3 + (if lateC σ i = true then 1 else 0) := by
      rw [show og (pl (cncS σ i) n) (ownI σ i) 3 = og (cncS σ i) (ownI σ i) 3 from plc_og (by omega) W1 0 (by omega) (by omega)]
      unfold cncS
      rw [og_put (by omega) (by omega)]
      by_cases c : lateC σ i = true
      · rw [if_pos c, if_pos c]; exact addO_g (by omega)
      · rw [if_neg c, if_neg c, Int32.add_zero]
    have fin := h v' _ n (VI_p hV (by omega) hr (d := 1) (by omega) hL' (hF' 7 (by omega)) (hF' 3 (by omega)) W1 (k0 7 (by omega)) (cnc_Ev hW hi))
    have tail : ∀ s2, s2 = (if lateC σ i = true then 1 else 0 : Int32) → w_L_acts_395 Q (nI i) 0 (og (pl (cncS σ i) n) (ownI σ i) 3) (og σ (ownI σ i) 3) s2 v' := fun s2 hs => by
      subst hs
      exact ⟨fun q => absurd g3 q, fun _ => ntc (fun q => absurd rfl q) (fun _ => us_booking_7 hL' hn hi ⟨fun q => absurd p7 q, fun _ => us_nobody hL' ok.1 ok.2.1 (zt1 ⟨.inr rfl, fin⟩)⟩)⟩
    have p1 : pl (cncS σ i) n 1 = σ 1 := (plc_k (by omega) W1 0 (by omega)).trans (k0 1 (by omega))
    refine br_f (fun q => ((st_lt hW hi).mpr c) q) ⟨fun q => absurd rfl q, fun _ => us_owner_3 hL' hm ow.1 (ntc (fun d => tail 0 ?_) (fun d => us_count_1 hL' ?_))⟩
    · rw [if_neg]
      intro z
      unfold lateC at z
      exact d (of_decide_eq_true z).1
    · rw [p1]
      refine br_c (fun e => tail 0 ?_) (fun e => tail 1 ?_)
      · rw [if_neg]
        intro z
        unfold lateC at z
        exact (of_decide_eq_true z).2 e
      · rw [if_pos]
        unfold lateC
        exact decide_eq_true ⟨d, e⟩
theorem act_extend (hV : VJ v N r x σ n m) (hx : x ≤ 100 * r + 50) (hr : r ≤ 400) {i : Nat} (hi : i < n) (h : ∀ (v' : V3) (σ' : Nat → Int32) (n' : Nat), VI v' N (r + 1) σ' n' m → Q 1 v') : w_L_booking (nI i) 9 v (fun r80 v79 => w_L_draw 9 v79 (fun r82 v81 => w_L_extend (nI i) (1 + r82) v81 (fun r84 v83 => ((bf σ i 7 = 1 → w_L_acts_489 Q (nI i) r80 (1 + r82) r84 v83) ∧ (¬ bf σ i 7 = 1 → ((bf σ i 7 = 2 → w_L_acts_489 Q (nI i) r80 (1 + r82) r84 v83) ∧ (¬ bf σ i 7 = 2 → ((¬ r84 = 1 → w_L_acts_488 Q 0 v83) ∧ (r84 = 1 → w_L_acts_488 Q 1 v83)))))))) ) := by
  have hW := hV.2.1.1
  have hm := hW.m8
  have hn := hW.n40
  refine us_booking_9 hV.1 hn hi (us_drawJ (K := 9) hV (by omega) (by omega) (fun y hy v1 V1 => ?_))
  rw [show (1 + nI y : Int32) = nI (1 + y) from nI_add 1 y]
  have hy1 : (nI (1 + y)).toInt = ((1 + y : Nat) : Int) := ti_nI (by omega)
  have lv : ∀ {P : Prop} {A B : Prop}, (lvB σ i = true → A) → (lvB σ i = false → B) → ((bf σ i 7 = 1 → A) ∧ (¬ bf σ i 7 = 1 → ((bf σ i 7 = 2 → A) ∧ (¬ bf σ i 7 = 2 → B)))) := fun a b => ⟨fun c => a (by unfold lvB; exact decide_eq_true (.inl c)), fun c => ⟨fun d => a (by unfold lvB; exact decide_eq_true (.inr d)), fun d => b (by unfold lvB; exact decide_eq_false (fun z => z.elim c d))⟩⟩
  refine us_extend V1.1 V1.2.1 (by omega) hi (by omega) (fun c => ?_) (fun c => ?_) (fun c W1 v' hL' hF' => ?_)
  · exact lv (P := True) (fun q => by rw [c] at q; exact absurd q (by decide)) (fun _ => ⟨fun q => absurd rfl q, fun _ => ⟨.inr rfl, h _ _ _ (VI_g V1 (by omega) hr)⟩⟩)
  · refine lv (P := True) (fun _ => ⟨fun q => absurd q (by decide), fun _ => ⟨fun q => absurd rfl q, fun _ => us_booking_9 V1.1 hn hi (ntc (fun _ => ⟨fun q => absurd rfl q, fun _ => ⟨.inr rfl, h _ _ _ (VI_g V1 (by omega) hr)⟩⟩) (fun q => absurd q (by decide)))⟩⟩) (fun q => by rw [c] at q; exact absurd q (by decide))
  · have e9 : bf (pl (extS σ i (nI (1 + y))) n) i 9 = bf σ i 9 + nI (1 + y) := by
      have e7 : bf (extS σ i (nI (1 + y))) i 7 = bf σ i 7 := by unfold extS; rw [bf_put (by omega) (by omega), if_neg (by omega)]
      rw [show bf (pl (extS σ i (nI (1 + y))) n) i 9 = bf (extS σ i (nI (1 + y))) i 9 from plc_st (by omega) W1 0 hi (by
        rw [e7]
        intro q
        rw [lv_0 q] at c
        exact absurd c (by decide)) (by omega)]
      unfold extS
      rw [bf_put (by omega) (by omega), if_pos ⟨rfl, rfl⟩]
    have fin := h v' _ n (VI_p V1 (by omega) hr (d := 0) (by omega) hL' (hF' 7 (by omega)) (hF' 3 (by omega)) W1 (sc_put (by omega)) (ext_Ev hW c))
    exact lv (P := True) (fun _ => ⟨fun _ => us_booking_9 hL' hn hi (ntc (fun q => absurd rfl q) (fun _ => ⟨fun q => absurd e9 q, fun _ => ⟨.inr rfl, fin⟩⟩)), fun q => absurd rfl q⟩) (fun q => by rw [c] at q; exact absurd q (by decide))
theorem act_evict (hV : VJ v N r x σ n m) (hx : x ≤ 100 * r + 50) (hr : r ≤ 400) {i : Nat} (hi : i < n) (h : ∀ (v' : V3) (σ' : Nat → Int32) (n' : Nat), VI v' N (r + 1) σ' n' m → Q 1 v') : w_L_owner (bf σ i 0) 4 v (fun r98 v97 => w_L_evict (nI i) v97 (fun r100 v99 => ((¬ bf σ i 7 = 1 → w_L_acts_569 Q (bf σ i 0) r98 r100 r100 1 v99) ∧ (bf σ i 7 = 1 → w_L_acts_569 Q (bf σ i 0) r98 r100 r100 0 v99)))) := by
  have hW := hV.2.1.1
  have hm := hW.m8
  have ow := own_of hW.ow hm hi
  rw [ow.2]
  refine us_owner_4 hV.1 hm ow.1 (us_evict hV.1 hV.2.1 (by omega) hi (fun c => ?_) (fun c v' hL' hF' => ?_))
  · exact ntc (fun _ => ⟨fun q => absurd rfl q, fun _ => us_owner_4 hV.1 hm ow.1 ⟨fun q => absurd (Int32.add_sub_cancel _ _).symm q, fun _ => ntc (fun _ => ⟨.inr rfl, h _ _ _ (VI_g hV (by omega) hr)⟩) (fun q => absurd q (by decide))⟩⟩) (fun q => absurd q c)
  · have W1 := Wf_B (evc_wf hW hi) (B' := 10300 + 99 * r + 99) (by omega)
    have ok := pl_ok W1 (by omega)
    have ac := aw_ch (σ := σ) (i := i) (n := n)
    have oe : ownI (awaitS σ i) i = ownI σ i := own_e (ac.2 i hi 0 (by omega) (.inr (by omega)))
    have og0 : og (awaitS σ i) (ownI σ i) 4 = og σ (ownI σ i) 4 := by
      unfold awaitS
      rw [og_put (by omega) (by omega), og_put (by omega) (by omega), og_put (by omega) (by omega)]
    have g4 : og (pl (evcS σ i) n) (ownI σ i) 4 = og σ (ownI σ i) 4 + 1 - 0 := by
      rw [show og (pl (evcS σ i) n) (ownI σ i) 4 = og (evcS σ i) (ownI σ i) 4 from plc_og (by omega) W1 0 (by omega) (by omega), Int32.sub_zero]
      have := addO_g (τ := awaitS σ i) (i := i) (f := 4) (y := 1) (by omega)
      rw [oe, og0] at this
      exact this
    have fin := h v' _ n (VI_p hV (by omega) hr (d := 0) (by omega) hL' (hF' 7 (by omega)) (hF' 3 (by omega)) W1 ((addO_k (by omega)).trans (ac.1 7 (by omega))) (evc_Ev hW hi))
    exact ntc (fun q => absurd c q) (fun _ => ⟨fun q => absurd rfl q, fun _ => us_owner_4 hL' hm ow.1 ⟨fun q => absurd g4 q, fun _ => ntc (fun q => absurd rfl q) (fun _ => us_nobody hL' ok.1 ok.2.1 (zt1 ⟨.inr rfl, fin⟩))⟩⟩)
end LAC
