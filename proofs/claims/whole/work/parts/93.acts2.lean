/-! CALLS 9: extend, cancel, evict -/
section AD
variable {v : V3} {g : Nat} {B : Int}
theorem ca_extend (h : IV v g B) (hB : B + 99 ≤ 900000) (a1 a2 : Int32) : w_X3_extend a1 a2 v (exI g (B + 99) (w_X4_extend a1 a2) [(eIO, 1), (eIA, 2)]) (okI g (B + 99) (w_X4_extend a1 a2)) := by
  obtain ⟨⟨n, m, S, hL, hO, hD⟩, hR⟩ := id h
  have hn := hO.1.n40
  have hm := hO.1.m8
  have hC := hO.1.cn
  have hB0 := hR.2.2.2.2.2
  refine uN_booking hL (fun i hi e1 => ?_) hn (fun h0 => ⟨1, mm1, fun v1 e9 => mst (Fc_r v) e9 (fun w h8 M hj => no_bk hC h0 h8 (nt0 (nm_e (finX h hB e9 M h8))))⟩)
  subst e1
  have hi4 : i < 40 := by omega
  refine uN_within (fun h1 h2 => ⟨nx_in hi hn, ?_⟩) (fun h0 => ⟨2, mm2, fun v1 e9 => mst (Fc_r v) e9 (fun w h8 M hj => is_bk hC hi h8 (nt1 (uM_btw (lo := 1) (hi := 99) rfl rfl (fun p1 p2 => absurd h0 (fun z => z.elim p1 p2)) (fun _ => nt0 (nm_e (finX h hB e9 M h8))))))⟩)
  have hx : 1 ≤ a2.toInt ∧ a2.toInt ≤ 99 := by
    rw [ti_lt, one_I] at h1
    rw [ti_lt, show (99 : Int32).toInt = 99 from rfl] at h2
    omega
  rw [nx_ix hi hn, hL.bk hi 7 (by omega)]
  have enter : ∀ {v1 w : V3} {Q : Int32 → V3 → Prop}, w 8 = v 8 → (lvB (v 8) i = true → w_X4_isTaken (bf (v 8) i 1) (bf (v 8) i 2) (bf (v 8) i 8) (bf (v 8) i 9 + a2) (nI i) (-1) w (fun r20 v19 => ((r20 = 0 → w_X4_put (nI i) 9 (bf (v 8) i 9 + a2) v19 (fun v22 => w_X4_done v22 (fun r24 v23 => Q r24 v23))) ∧ (¬ r20 = 0 → Q 3 v19)))) → (¬ lvB (v 8) i = true → Q 1 w) → w_X4_isBooking (nI i) w (fun r3 v2 => ((¬ r3 = 0 → w_X4_isBetween ((a2).toInt64) 1 99 v2 (fun r6 v5 => ((¬ r6 = 0 → w_X4_isLive (nI i) v5 (fun r9 v8 => ((¬ r9 = 0 → w_X4_of (nI i) 9 v8 (fun r12 v11 => w_X4_of (nI i) 1 v11 (fun r14 v13 => w_X4_of (nI i) 2 v13 (fun r16 v15 => w_X4_of (nI i) 8 v15 (fun r18 v17 => w_X4_isTaken r14 r16 r18 (r12 + a2) (nI i) (-1) v17 (fun r20 v19 => ((r20 = 0 → w_X4_put (nI i) 9 (r12 + a2) v19 (fun v22 => w_X4_done v22 (fun r24 v23 => Q r24 v23))) ∧ (¬ r20 = 0 → Q 3 v19)))))))) ∧ (r9 = 0 → Q 1 v8)))) ∧ (r6 = 0 → w_X4_fail 2 v5 (fun r26 v25 => Q r26 v25))))) ∧ (r3 = 0 → w_X4_fail 1 v2 (fun r28 v27 => Q r28 v27)))) := by
    intro v1 w Q h8 k1 k0
    refine is_bk hC hi h8 (nt1 (uM_btw (lo := 1) (hi := 99) rfl rfl (fun _ _ => nt1 ?_) (fun p => absurd p (fun z => z.elim h1 h2))))
    refine uM_live hi4 ?_
    rw [h8]
    by_cases c : lvB (v 8) i = true
    · rw [if_pos c]
      refine nt1 ?_
      rw [uM_of9 hi4, uM_of1 hi4, uM_of2 hi4, uM_of8 hi4, h8]
      exact k1 c
    · rw [if_neg c]
      exact nt0 (k0 c)
  have live : lvB (v 8) i = true → w_X3_extend_40 (okI g (B + 99) (w_X4_extend (nI i) a2)) (exI g (B + 99) (w_X4_extend (nI i) a2) [(eIO, 1), (eIA, 2)]) (nI i) a2 i v := by
    intro hl
    unfold w_X3_extend_40
    rw [hL.bk hi 8 (by omega), hL.bk hi 9 (by omega)]
    refine uC_would hL hn hi ?_
    rw [clS_ii hn]
    by_cases c : clS (v 8) n (bf (v 8) i 1) (bf (v 8) i 2) (bf (v 8) i 8) (bf (v 8) i 9 + a2) (nI i) (-1) = -1
    · rw [if_pos c]
      refine zt0 (nm_e ?_)
      rw [hL.bk hi 9 (by omega)]
      have hL1 := LA_b hL hn hm hi (f := 9) (x := bf (v 8) i 9 + a2) (by omega)
      have W1 := ext_ok hO.1 (by omega) hi hl hx c
      refine act_C hL1 W1 (by omega) (fun v' hL' hF' => ?_)
      have F : Fc v v' := Fc_L (Fr_t (Fr_u (Fr_r 21 v) (by omega) (by omega)) hF')
      intro v1 e9
      refine mst F e9 (fun w h8 M hj => enter (v1 := v1) h8 (fun _ => ?_) (fun q => absurd hl q))
      refine uM_taken (n := n) (m := m) (B := B) (by rw [h8]; exact hC) (by rw [h8]; exact hO.1.tm) ?_
      rw [h8, if_pos c]
      refine zt0 ?_
      rw [uM_put9 hi4]
      have s8 : (up2 w 8 (74 + 10 * i + 9) (bf (v 8) i 9 + a2)) 8 = putB (v 8) i 9 (bf (v 8) i 9 + a2) := by rw [up2_8, h8]; rfl
      refine act_M s8 W1 (by omega) (Md_8 M (fun c hc => up2_off _ _ _ hc)) (fun w3 r1 r2 => ?_)
      have f := act_fin hR hB hD F hL' e9 r2 r1 W1 (sc_put (by omega)) hO.2.2
      exact ⟨f.1, rfl, f.2⟩
    · rw [if_neg c]
      refine zt1 (fun v1 e9 => mst (Fc_r v) e9 (fun w h8 M hj => enter (v1 := v1) h8 (fun _ => ?_) (fun q => absurd hl q)))
      refine uM_taken (n := n) (m := m) (B := B) (by rw [h8]; exact hC) (by rw [h8]; exact hO.1.tm) ?_
      rw [h8, if_neg c]
      have f := fin0 h hB (Fc_r v) same e9 M h8
      exact zt1 ⟨f.1, rfl, f.2⟩
  refine br_c (fun c => live (by unfold lvB; exact decide_eq_true (.inl c))) (fun c => br_c (fun d => live (by unfold lvB; exact decide_eq_true (.inr d))) (fun d v1 e9 => mst (Fc_r v) e9 (fun w h8 M hj => enter (v1 := v1) h8 (fun q => ?_) (fun _ => ?_))))
  · unfold lvB at q
    exact absurd (of_decide_eq_true q) (fun z => z.elim c d)
  · have f := fin0 h hB (Fc_r v) same e9 M h8
    exact ⟨f.1, rfl, f.2⟩
theorem ca_evict (h : IV v g B) (hB : B + 99 ≤ 900000) (a : Int32) : w_X3_evict a v (exI g (B + 99) (w_X4_evict a) [(eIO, 1)]) (okI g (B + 99) (w_X4_evict a)) := by
  obtain ⟨⟨n, m, S, hL, hO, hD⟩, hR⟩ := id h
  have hn := hO.1.n40
  have hm := hO.1.m8
  have hC := hO.1.cn
  have hB0 := hR.2.2.2.2.2
  refine uN_booking hL (fun i hi e1 => ?_) hn (fun h0 => ⟨1, mm1, fun v1 e9 => mst (Fc_r v) e9 (fun w h8 M hj => no_bk hC h0 h8 (nt0 (nm_e (finX h hB e9 M h8))))⟩)
  subst e1
  have hi4 : i < 40 := by omega
  refine ⟨nx_in hi hn, ?_⟩
  rw [nx_ix hi hn, hL.bk hi 7 (by omega)]
  refine br_c (fun c => ?_) (fun c v1 e9 => mst (Fc_r v) e9 (fun w h8 M hj => is_bk hC hi h8 (nt1 ?_)))
  · refine uC_letWait hL hn hm hi (fun v5 hL5 f5 => ?_)
    have W1 := await_ok hO.1 hi
    obtain ⟨⟨e0, o0⟩, hL6⟩ := LA_add hL5 hm W1.ow hi (f := 4) (x := 1) (by omega)
    rw [e0, show ix (nI (ownI (awaitS (v 8) i) i)) = ownI (awaitS (v 8) i) i from nI_clamp (by omega)]
    refine ⟨vp_in_nI (by omega) (by decide), nm_e ?_⟩
    have W2 := wf_A (f := 4) (x := 1) W1 hi (by omega)
    refine act_C hL6 W2 (by omega) (fun v' hL' hF' => ?_)
    have F5 : Fr 21 v v5 := fun c hc => f5 c (by omega)
    have F : Fc v v' := Fc_L (Fr_t (Fr_u F5 (by omega) (by omega)) hF')
    intro v1 e9
    refine mst F e9 (fun w h8 M hj => is_bk hC hi h8 (nt1 ?_))
    rw [uM_of7 hi4, h8]
    refine br_t c (uM_await hi4 (fun w1 p1 p2 => ?_))
    rw [h8] at p1
    refine uM_add (f := 4) (x := 1) (by rw [p1]; exact W1.ow) hm hn hi (by omega) (fun w2 q1 q2 => ?_)
    rw [p1] at q1
    refine act_M q1 W2 (by omega) (Md_8 (Md_8 M p2) q2) (fun w3 r1 r2 => ?_)
    have f := act_fin hR hB hD F hL' e9 r2 r1 (Wf_B W2 (by omega)) (by
      show putO _ _ _ _ 7 = _
      rw [sc_putO (by omega)]
      exact (aw_ch (σ := v 8) (i := i) (n := n)).1 7 (by omega)) hO.2.2
    exact ⟨f.1, rfl, f.2⟩
  · have f := fin0 h hB (Fc_r v) same e9 M h8
    rw [uM_of7 hi4, h8]
    exact br_f c ⟨f.1, rfl, f.2⟩
theorem ca_cancel (h : IV v g B) (hB : B + 99 ≤ 900000) (a : Int32) : w_X3_cancel a v (exI g (B + 99) (w_X4_cancel a) [(eIO, 1)]) (okI g (B + 99) (w_X4_cancel a)) := by
  obtain ⟨⟨n, m, S, hL, hO, hD⟩, hR⟩ := id h
  have hn := hO.1.n40
  have hm := hO.1.m8
  have hC := hO.1.cn
  have hB0 := hR.2.2.2.2.2
  refine uN_booking hL (fun i hi e1 => ?_) hn (fun h0 => ⟨1, mm1, fun v1 e9 => mst (Fc_r v) e9 (fun w h8 M hj => no_bk hC h0 h8 (nt0 (nm_e (finX h hB e9 M h8))))⟩)
  subst e1
  have hi4 : i < 40 := by omega
  refine ⟨nx_in hi hn, ?_⟩
  rw [nx_ix hi hn, hL.bk hi 7 (by omega)]
  have fin : ∀ (σ' : Nat → Int32) (v' : V3), LA v' 21 σ' n m → Fr 21 v v' → Wf σ' n m S B → σ' 7 = v 8 7 → (∀ (v2 : V3) (Q : Int32 → V3 → Prop), v2 8 = v 8 → (∀ w1, w1 8 = σ' → Md (up2 v2 7 11 0) w1 → w_X4_cancel_79 Q (nI i) w1) → w_X4_cancel (nI i) v2 Q) → w_X3_cancel_81 (okI g (B + 99) (w_X4_cancel (nI i))) (exI g (B + 99) (w_X4_cancel (nI i)) [(eIO, 1)]) i v' := by
    intro σ' v' hL' hF' hW' h7 ref
    refine nm_e ?_
    have W1 := gone_ok hW' hi (s := 4) (by omega)
    have hL1 := LA_b hL' hn hm hi (f := 7) (x := 4) (by omega)
    refine act_C hL1 W1 (by omega) (fun v2 hL2 hF2 => ?_)
    have F : Fc v v2 := Fc_L (Fr_t (Fr_u hF' (by omega) (by omega)) hF2)
    intro v1 e9
    refine ref v1 _ (by rw [e9 8 (by decide) (by decide), F 8 (by omega)]) (fun w1 s1 M1 => ?_)
    unfold w_X4_cancel_79
    rw [uM_put7 hi4]
    have s8 : (up2 w1 8 (74 + 10 * i + 7) 4) 8 = putB σ' i 7 4 := by rw [up2_8, s1]; rfl
    refine act_M s8 W1 (by omega) (Md_8 M1 (fun c hc => up2_off _ _ _ hc)) (fun w3 r1 r2 => ?_)
    have f := act_fin hR hB hD F hL2 e9 r2 r1 (Wf_B W1 (by omega)) ((sc_put (by omega)).trans h7) hO.2.2
    exact ⟨f.1, rfl, f.2⟩
  have beg : ∀ (v2 : V3) (Q : Int32 → V3 → Prop), v2 8 = v 8 → ((bf (v 8) i 7 = 0 → w_X4_cancel_38 Q (nI i) (bf (v 8) i 7) (up2 v2 7 11 0)) ∧ (¬ bf (v 8) i 7 = 0 → ((bf (v 8) i 7 = 1 → w_X4_cancel_38 Q (nI i) (bf (v 8) i 7) (up2 v2 7 11 0)) ∧ (¬ bf (v 8) i 7 = 1 → Q 1 (up2 v2 7 11 0))))) → w_X4_cancel (nI i) v2 Q := by
    intro v2 Q e8 k
    refine nm_e ?_
    have h8 : (up2 v2 7 11 0) 8 = v 8 := by rw [up2_off _ _ _ (by decide), e8]
    refine is_bk hC hi h8 (nt1 ?_)
    rw [uM_of7 hi4, h8]
    exact k
  have t32 : (bf (v 8) i 7 = 0 ∨ bf (v 8) i 7 = 1) → w_X3_cancel_32 (okI g (B + 99) (w_X4_cancel (nI i))) (exI g (B + 99) (w_X4_cancel (nI i)) [(eIO, 1)]) i v := by
    intro h01
    have go : ∀ (v2 : V3) (Q : Int32 → V3 → Prop), v2 8 = v 8 → w_X4_cancel_38 Q (nI i) (bf (v 8) i 7) (up2 v2 7 11 0) → w_X4_cancel (nI i) v2 Q := fun v2 Q e8 k => beg v2 Q e8 ⟨fun _ => k, fun q => ⟨fun _ => k, fun q1 => absurd h01 (fun z => z.elim q q1)⟩⟩
    unfold w_X3_cancel_32
    rw [hL.bk hi 7 (by omega), hL.bk hi 8 (by omega), hL.bk hi 0 (by omega), hL.tm, hL.st (by omega)]
    refine ntc (fun c => fin (v 8) v hL (Fr_r 21 v) hO.1 rfl (fun v2 Q e8 k => go v2 Q e8 (ntc (fun _ => k _ (by rw [up2_off _ _ _ (by decide), e8]) (Md_r _)) (fun q => absurd q c)))) (fun c => br_c (fun d => fin (v 8) v hL (Fr_r 21 v) hO.1 rfl (fun v2 Q e8 k => go v2 Q e8 (ntc (fun q => absurd c q) (fun _ => ?_)))) (fun d => ?_))
    · have h8 : (up2 v2 7 11 0) 8 = v 8 := by rw [up2_off _ _ _ (by decide), e8]
      rw [uM_of8 hi4, h8]
      exact br_t d (k _ h8 (Md_r _))
    · have o := own_of hO.1.ow hm hi
      obtain ⟨⟨e0, o0⟩, hL2⟩ := LA_add hL hm hO.1.ow hi (f := 3) (x := 1) (by omega)
      rw [o.2, show ix (nI (ownI (v 8) i)) = ownI (v 8) i from nI_clamp (by omega)]
      refine ⟨vp_in_nI (by omega) (by decide), nm_e (fin (addO (v 8) i 3 1) _ hL2 (Fr_u (Fr_r 21 v) (by omega) (by omega)) (wf_A hO.1 hi (by omega)) (sc_putO (by omega)) (fun v2 Q e8 k => go v2 Q e8 (ntc (fun q => absurd c q) (fun _ => ?_))))⟩
      have h8 : (up2 v2 7 11 0) 8 = v 8 := by rw [up2_off _ _ _ (by decide), e8]
      rw [uM_of8 hi4, h8]
      refine br_f d (uM_add (f := 3) (x := 1) (by rw [h8]; exact hO.1.ow) hm hn hi (by omega) (fun w2 q1 q2 => ?_))
      rw [h8] at q1
      exact k w2 q1 (Md_8 (Md_r _) q2)
  refine br_c (fun c => t32 (.inl c)) (fun c => br_c (fun d => t32 (.inr d)) (fun d v1 e9 => beg v1 _ (e9 8 (by decide) (by decide)) ⟨fun q => absurd q c, fun _ => ⟨fun q => absurd q d, fun _ => ?_⟩⟩))
  have f := fin0 h hB (Fc_r v) same e9 (Md_r (up2 v1 7 11 0)) (by rw [up2_off _ _ _ (by decide), e9 8 (by decide) (by decide)])
  exact ⟨f.1, rfl, f.2⟩
end AD
