/-! CALLS 10: swap, buy, bargain -/
theorem addO_7 {σ : Nat → Int32} {i f : Nat} {x : Int32} : addO σ i f x 7 = σ 7 := sc_putO (by omega)
theorem swpF_7 {σ : Nat → Int32} {n m i j : Nat} (hO : Ow σ n m) (hm : m ≤ 8) (hi : i < n) (hj : j < n) : swpF σ i j 7 = σ 7 := by
  unfold swpF barS swpS
  rw [pk_un (by decide), addO_7, addO_7, sc_put (by omega), sc_put (by omega), sc_put (by omega), sc_put (by omega)]
theorem buyF_7 {σ : Nat → Int32} {n m i j : Nat} (hO : Ow σ n m) (hm : m ≤ 8) (hi : i < n) (hj : j < n) : buyF σ i j 7 = σ 7 := by
  unfold buyF buyC barS settleS awaitS
  rw [pk_un (by decide), addO_7, addO_7, addO_7, addO_7, sc_put (by omega), sc_put (by omega), sc_put (by omega), sc_put (by omega), sc_put (by omega), sc_put (by omega)]
theorem bk_ne {σ : Nat → Int32} {n m S j : Nat} {B : Int} (h : Wf σ n m S B) (hj : j < n) (hb : bf σ j 7 = 1) : ¬ bf σ j 8 = -1 := fun q => by
  have t := h.tm.1 j hj (by unfold lvB; exact decide_eq_true (.inl hb))
  rw [q, neg1_I] at t
  omega
section AE
variable {v : V3} {g : Nat} {B : Int}
theorem ca_swap (h : IV v g B) (hB : B + 99 ≤ 900000) (a1 a2 : Int32) : w_X3_swap a1 a2 v (exI g (B + 99) (w_X4_swap a1 a2) [(eIO, 1), (eIA, 2)]) (okI g (B + 99) (w_X4_swap a1 a2)) := by
  obtain ⟨⟨n, m, S, hL, hO, hD⟩, hR⟩ := id h
  have hn := hO.1.n40
  have hm := hO.1.m8
  have hC := hO.1.cn
  have hB0 := hR.2.2.2.2.2
  refine uN_booking hL (fun i hi e1 => ?_) hn (fun h0 => ⟨1, mm1, fun v1 e9 => mst (Fc_r v) e9 (fun w h8 M hj => no_bk hC h0 h8 (zt0 (nm_e (finX h hB e9 M h8))))⟩)
  subst e1
  refine uN_booking hL (fun j hj e2 => ?_) hn (fun h0 => ⟨1, mm1, fun v1 e9 => mst (Fc_r v) e9 (fun w h8 M hj => is_bk hC hi h8 (zt1 (no_bk hC h0 h8 (nt0 (nm_e (finX h hB e9 M h8))))))⟩)
  subst e2
  have hi4 : i < 40 := by omega
  have hj4 : j < 40 := by omega
  refine ntc (fun c => ?_) (fun c => ⟨2, mm2, fun v1 e9 => mst (Fc_r v) e9 (fun w h8 M hjj => is_bk hC hi h8 (zt1 (is_bk hC hj h8 (nt1 (ntc (fun q => absurd c q) (fun _ => nm_e (finX h hB e9 M h8)))))))⟩)
  have ne : ¬ i = j := fun z => c (by rw [z])
  -- refused: nothing changes
  have rf : ∀ x : Int32, (¬ (bf (v 8) i 7 = 1 ∧ bf (v 8) j 7 = 1) → x = 1) → (bf (v 8) i 7 = 1 → bf (v 8) j 7 = 1 → candS (v 8) n i j = 0 ∧ x = 4) → okI g (B + 99) (w_X4_swap (nI i) (nI j)) x v := by
    intro x x1 x4 v1 e9
    refine mst (Fc_r v) e9 (fun w h8 M hjj => is_bk hC hi h8 (zt1 (is_bk hC hj h8 (nt1 (ntc (fun _ => ?_) (fun q => absurd q c))))))
    have f := fin0 h hB (Fc_r v) same e9 M h8
    rw [uM_of7 hi4, h8]
    refine ntc (fun d => ⟨f.1, (x1 (fun z => d z.1)).symm, f.2⟩) (fun d => ?_)
    rw [uM_of7 hj4, h8]
    refine br_c (fun d2 => ?_) (fun d2 => ⟨f.1, (x1 (fun z => d2 z.2)).symm, f.2⟩)
    have x4' := x4 d d2
    unfold candS at x4'
    refine uM_swapGain (n := n) (m := m) (S := S) (B := B) (by rw [h8]; exact hO.1) hi hj (fun k => ?_) (fun k => ?_)
    · rw [h8] at k ⊢
      rw [if_pos k] at x4'
      exact ⟨fun q => absurd x4'.1 q, fun _ => ⟨f.1, x4'.2.symm, f.2⟩⟩
    · exact nt0 ⟨f.1, x4'.2.symm, f.2⟩
  refine uC_isIn hL hn hi ?_
  by_cases d1 : bf (v 8) i 7 = 1
  · rw [if_pos d1]
    refine zt1 (uC_isIn hL hn hj ?_)
    by_cases d2 : bf (v 8) j 7 = 1
    · rw [if_pos d2]
      have four : candS (v 8) n i j = 0 → okI g (B + 99) (w_X4_swap (nI i) (nI j)) 4 v := fun z => rf 4 (fun q => absurd ⟨d1, d2⟩ q) (fun _ _ => ⟨z, rfl⟩)
      have go : swpOk (v 8) n i j → ¬ swgV (v 8) i j = 0 → w_X0_makeSwap (nI i) (nI j) v (fun v13 => w_X1_placeWaiting 21 v13 (fun v14 => okI g (B + 99) (w_X4_swap (nI i) (nI j)) 0 v14)) := by
        intro ok nz
        refine uC_makeSwap hL hn hm hO.1.ow hi hj ne (fun v13 hL1 hF1 => ?_)
        have W1 := swpF_wf hO.1 hi hj ne d1 d2 ok
        refine act_C hL1 W1 (by omega) (fun v' hL' hF' => ?_)
        have F : Fc v v' := Fc_L (Fr_t hF1 hF')
        intro v1 e9
        refine mst F e9 (fun w h8 M hjj => is_bk hC hi h8 (zt1 (is_bk hC hj h8 (nt1 (ntc (fun _ => ?_) (fun q => absurd q c))))))
        rw [uM_of7 hi4, h8]
        refine ntc (fun q => absurd d1 q) (fun _ => ?_)
        rw [uM_of7 hj4, h8]
        refine br_t d2 (uM_swapGain (n := n) (m := m) (S := S) (B := B) (by rw [h8]; exact hO.1) hi hj (fun _ => ntc (fun _ => ?_) (fun q => absurd q (by rw [h8]; exact nz))) (fun k => absurd (by rw [h8]; exact ok) k))
        refine uM_makeSwap (n := n) (m := m) (by rw [h8]; exact hO.1.ow) hm hn hi hj ne (fun w2 q1 q2 => ?_)
        rw [h8] at q1
        refine act_M q1 W1 (by omega) (Md_8 M q2) (fun w3 r1 r2 => ?_)
        have f := act_fin hR hB hD F hL' e9 r2 r1 (Wf_B W1 (by omega)) (swpF_7 hO.1.ow hm hi hj) hO.2.2
        exact ⟨f.1, rfl, f.2⟩
      refine nt1 (uC_swapGain hL hn hi hj (fun k => ntc (fun nz => go k nz) (fun z => four (by unfold candS; rw [if_pos k]; exact z))) (fun k => nt0 (four (by unfold candS; rw [if_neg k]))))
    · rw [if_neg d2]
      exact nt0 (rf 1 (fun _ => rfl) (fun _ q => absurd q d2))
  · rw [if_neg d1]
    exact zt0 (rf 1 (fun _ => rfl) (fun q => absurd q d1))
theorem ca_buy (h : IV v g B) (hB : B + 99 ≤ 900000) (a1 a2 : Int32) : w_X3_buy a1 a2 v (exI g (B + 99) (w_X4_buy a1 a2) [(eIO, 1)]) (okI g (B + 99) (w_X4_buy a1 a2)) := by
  obtain ⟨⟨n, m, S, hL, hO, hD⟩, hR⟩ := id h
  have hn := hO.1.n40
  have hm := hO.1.m8
  have hC := hO.1.cn
  have hB0 := hR.2.2.2.2.2
  refine uN_booking hL (fun i hi e1 => ?_) hn (fun h0 => ⟨1, mm1, fun v1 e9 => mst (Fc_r v) e9 (fun w h8 M hj => no_bk hC h0 h8 (zt0 (nm_e (finX h hB e9 M h8))))⟩)
  subst e1
  refine uN_booking hL (fun j hj e2 => ?_) hn (fun h0 => ⟨1, mm1, fun v1 e9 => mst (Fc_r v) e9 (fun w h8 M hj => is_bk hC hi h8 (zt1 (no_bk hC h0 h8 (nt0 (nm_e (finX h hB e9 M h8))))))⟩)
  subst e2
  have hi4 : i < 40 := by omega
  have hj4 : j < 40 := by omega
  have rf : ∀ x : Int32, (¬ (bf (v 8) i 7 = 0 ∧ bf (v 8) j 7 = 1) → x = 1) → (bf (v 8) i 7 = 0 → bf (v 8) j 7 = 1 → candB (v 8) n i j = 0 ∧ x = 4) → okI g (B + 99) (w_X4_buy (nI i) (nI j)) x v := by
    intro x x1 x4 v1 e9
    refine mst (Fc_r v) e9 (fun w h8 M hjj => is_bk hC hi h8 (zt1 (is_bk hC hj h8 (nt1 ?_))))
    have f := fin0 h hB (Fc_r v) same e9 M h8
    rw [uM_of7 hi4, h8]
    refine ntc (fun d => ⟨f.1, (x1 (fun z => d z.1)).symm, f.2⟩) (fun d => ?_)
    rw [uM_of7 hj4, h8]
    refine br_c (fun d2 => ?_) (fun d2 => ⟨f.1, (x1 (fun z => d2 z.2)).symm, f.2⟩)
    have x4' := x4 d d2
    unfold candB at x4'
    refine uM_buyGain (n := n) (m := m) (S := S) (B := B) (by rw [h8]; exact hO.1) hi hj (by rw [h8]; exact d2) (fun k => ?_) (fun k => ?_)
    · rw [h8] at k ⊢
      rw [if_pos k] at x4'
      exact ⟨fun q => absurd x4'.1 q, fun _ => ⟨f.1, x4'.2.symm, f.2⟩⟩
    · exact nt0 ⟨f.1, x4'.2.symm, f.2⟩
  refine uC_isIn hL hn hi ?_
  by_cases d1 : bf (v 8) i 7 = 0
  · rw [if_pos d1]
    refine zt1 (uC_isIn hL hn hj ?_)
    by_cases d2 : bf (v 8) j 7 = 1
    · rw [if_pos d2]
      have ne : ¬ i = j := fun z => by
        rw [z] at d1
        exact absurd (d1.symm.trans d2) (by decide)
      have four : candB (v 8) n i j = 0 → okI g (B + 99) (w_X4_buy (nI i) (nI j)) 4 v := fun z => rf 4 (fun q => absurd ⟨d1, d2⟩ q) (fun _ _ => ⟨z, rfl⟩)
      have go : buyOk (v 8) n i j → ¬ buyV (v 8) i j = 0 → w_X0_makeBuyout (nI i) (nI j) v (fun v13 => w_X1_placeWaiting 21 v13 (fun v14 => okI g (B + 99) (w_X4_buy (nI i) (nI j)) 0 v14)) := by
        intro ok nz
        refine uC_makeBuy hL hn hm hO.1.ow hi hj ne (bk_ne hO.1 hj d2) (fun v13 hL1 hF1 => ?_)
        have W1 := buyF_wf hO.1 (by omega) hi hj ne d1 d2 ok
        refine act_C hL1 W1 (by omega) (fun v' hL' hF' => ?_)
        have F : Fc v v' := Fc_L (Fr_t hF1 hF')
        intro v1 e9
        refine mst F e9 (fun w h8 M hjj => is_bk hC hi h8 (zt1 (is_bk hC hj h8 (nt1 ?_))))
        rw [uM_of7 hi4, h8]
        refine ntc (fun q => absurd d1 q) (fun _ => ?_)
        rw [uM_of7 hj4, h8]
        refine br_t d2 (uM_buyGain (n := n) (m := m) (S := S) (B := B) (by rw [h8]; exact hO.1) hi hj (by rw [h8]; exact d2) (fun _ => ntc (fun _ => ?_) (fun q => absurd q (by rw [h8]; exact nz))) (fun k => absurd (by rw [h8]; exact ok) k))
        refine uM_makeBuy (n := n) (m := m) (by rw [h8]; exact hO.1.ow) hm hn hi hj ne (by rw [h8]; exact d2) (fun w2 q1 q2 => ?_)
        rw [h8] at q1
        refine act_M q1 W1 (by omega) (Md_8 M q2) (fun w3 r1 r2 => ?_)
        have f := act_fin hR hB hD F hL' e9 r2 r1 (Wf_B W1 (by omega)) (buyF_7 hO.1.ow hm hi hj) hO.2.2
        exact ⟨f.1, rfl, f.2⟩
      refine nt1 (uC_buyGain hL hn hm hO.1.ow hi hj (fun k => ntc (fun nz => go k nz) (fun z => four (by unfold candB; rw [if_pos k]; exact z))) (fun k => nt0 (four (by unfold candB; rw [if_neg k]))))
    · rw [if_neg d2]
      exact nt0 (rf 1 (fun _ => rfl) (fun _ q => absurd q d2))
  · rw [if_neg d1]
    exact zt0 (rf 1 (fun _ => rfl) (fun q => absurd q d1))
theorem ca_bargain (h : IV v g B) (hB : B + 99 ≤ 900000) : w_X3_bargain v (okI g (B + 99) w_X4_bargain) := by
  obtain ⟨⟨n, m, S, hL, hO, hD⟩, hR⟩ := id h
  have hn := hO.1.n40
  have hm := hO.1.m8
  have hC := hO.1.cn
  have hB0 := hR.2.2.2.2.2
  refine uC_findBest hL hn hm hO.1.ow (fun v' c' f' => ?_)
  have F1 : Fc v v' := Fc_5 f'
  have hL1 := LA_5 hL hn hm f'
  have b := BI_bestB (v 8) n
  have beg : ∀ (v1 : V3) (Q : Int32 → V3 → Prop), v1 8 = v 8 → (∀ w, w 8 = v 8 → Md (up2 v1 7 11 0) w → MF w (bestB (v 8) n) → ((¬ (w 7 28) = 0 → (((w 7 29) = 0 → w_X4_makeSwap (w 7 30) (w 7 31) w (fun v5 => w_X4_bargain_52 Q v5)) ∧ (¬ (w 7 29) = 0 → w_X4_makeBuyout (w 7 30) (w 7 31) w (fun v8 => w_X4_bargain_52 Q v8)))) ∧ ((w 7 28) = 0 → Q 5 w))) → w_X4_bargain v1 Q := by
    intro v1 Q e8 k
    refine nm_e ?_
    have h8 : (up2 v1 7 11 0) 8 = v 8 := by rw [up2_off _ _ _ (by decide), e8]
    refine uM_layBest (n := n) (m := m) (S := S) (B := B) (by rw [h8]; exact hO.1) (fun w2 q1 q2 q3 => ?_)
    rw [h8] at q1
    exact k w2 ((q2 8 (by decide)).trans h8) (Md_g (Md_r _) (fun c c7 _ _ _ => q2 c c7) (fun j z => q3 j (by unfold kf at z; omega))) q1
  by_cases z : (bestB (v 8) n).1 = 0
  · rw [if_pos z]
    refine nt0 (fun v1 e9 => beg v1 _ (by rw [e9 8 (by decide) (by decide), F1 8 (by omega)]) (fun w h8 M mf => ?_))
    have f := fin0 h hB F1 (fun n m hL hn hm => LA_5 hL hn hm f') e9 M h8
    exact ⟨fun q => absurd (mf.1.trans z) q, fun _ => ⟨f.1, rfl, f.2⟩⟩
  · rw [if_neg z]
    refine nt1 ?_
    obtain ⟨c1, c2, c3, c4⟩ := c'.2 z
    obtain ⟨⟨i1, i2, i3, i4⟩, i5⟩ := b.2 z
    generalize ei : (bestB (v 8) n).2.2.1 = i at *
    generalize ej : (bestB (v 8) n).2.2.2 = j at *
    unfold w_X0_makeFound
    rw [c1, c2, c3]
    rcases i5 with ⟨k0, d1, ok⟩ | ⟨k1, d1, ok⟩
    · rw [k0]
      refine ntc (fun q => absurd rfl q) (fun _ => ?_)
      refine uC_makeSwap hL1 hn hm hO.1.ow i1 i2 i3 (fun v13 hL2 hF2 => ?_)
      have W1 := swpF_wf hO.1 i1 i2 i3 d1 i4 ok
      refine act_C hL2 W1 (by omega) (fun v3 hL3 hF3 => ?_)
      have F : Fc v v3 := Fc_t F1 (Fc_L (Fr_t hF2 hF3))
      intro v1 e9
      refine beg v1 _ (by rw [e9 8 (by decide) (by decide), F 8 (by omega)]) (fun w h8 M mf => ?_)
      obtain ⟨m1, m2, m3⟩ := mf.2 z
      rw [ei] at m2
      rw [ej] at m3
      rw [mf.1, m1, k0, m2, m3]
      refine ⟨fun _ => ⟨fun _ => ?_, fun q => absurd rfl q⟩, fun q => absurd q z⟩
      refine uM_makeSwap (n := n) (m := m) (by rw [h8]; exact hO.1.ow) hm hn i1 i2 i3 (fun w2 q1 q2 => ?_)
      rw [h8] at q1
      refine act_M q1 W1 (by omega) (Md_8 M q2) (fun w3 r1 r2 => ?_)
      have f := act_fin hR hB hD F hL3 e9 r2 r1 (Wf_B W1 (by omega)) (swpF_7 hO.1.ow hm i1 i2) hO.2.2
      exact ⟨f.1, rfl, f.2⟩
    · rw [k1]
      refine ntc (fun _ => ?_) (fun q => absurd q (by decide))
      refine uC_makeBuy hL1 hn hm hO.1.ow i1 i2 i3 (bk_ne hO.1 i2 i4) (fun v13 hL2 hF2 => ?_)
      have W1 := buyF_wf hO.1 (by omega) i1 i2 i3 d1 i4 ok
      refine act_C hL2 W1 (by omega) (fun v3 hL3 hF3 => ?_)
      have F : Fc v v3 := Fc_t F1 (Fc_L (Fr_t hF2 hF3))
      intro v1 e9
      refine beg v1 _ (by rw [e9 8 (by decide) (by decide), F 8 (by omega)]) (fun w h8 M mf => ?_)
      obtain ⟨m1, m2, m3⟩ := mf.2 z
      rw [ei] at m2
      rw [ej] at m3
      rw [mf.1, m1, k1, m2, m3]
      refine ⟨fun _ => ⟨fun q => absurd q (by decide), fun _ => ?_⟩, fun q => absurd q z⟩
      refine uM_makeBuy (n := n) (m := m) (by rw [h8]; exact hO.1.ow) hm hn i1 i2 i3 (by rw [h8]; exact i4) (fun w2 q1 q2 => ?_)
      rw [h8] at q1
      refine act_M q1 W1 (by omega) (Md_8 M q2) (fun w3 r1 r2 => ?_)
      have f := act_fin hR hB hD F hL3 e9 r2 r1 (Wf_B W1 (by omega)) (buyF_7 hO.1.ow hm i1 i2) hO.2.2
      exact ⟨f.1, rfl, f.2⟩
end AE
