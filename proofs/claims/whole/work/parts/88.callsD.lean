/-! CALLS 4: waiter, holder, shown, booking, gain, best -/
section CD
variable {v : V3} {g : Nat} {B : Int}
theorem ca_waiter (h : IV v g B) (hB : B + 99 ≤ 900000) (a : Int32) : w_X3_waiter a v (exI g (B + 99) (w_X4_waiter a) [(eIO, 1)]) (okI g (B + 99) (w_X4_waiter a)) := by
  obtain ⟨⟨n, m, S, hL, hO, hD⟩, hR⟩ := id h
  have hn := hO.1.n40
  have hm := hO.1.m8
  have hC := hO.1.cn
  have hOw := hO.1.ow
  refine br_c (fun c => ?_) (fun c => ⟨1, mm1, fun v1 e9 => mst (Fc_r v) e9 (fun w h8 M hj => br_f c (nm_e (finX h hB e9 M h8)))⟩)
  have a0 := Int32.not_lt.mpr c
  refine uC_waiter hL hn hm hOw a0 (fun v' f' v1 e9 => ?_)
  have F : Fc v v' := Fc_1 f' (by omega) (by omega)
  refine mst F e9 (fun w h8 M hj => br_t c ?_)
  refine uM_order (n := n) (m := m) (by rw [h8]; exact hC) (by rw [h8]; exact hOw) (fun w2 q1 q2 q3 q4 => ?_)
  have M2 : Md (up2 v1 7 11 0) w2 := Md_g M (fun c c7 _ _ c17 => q3 c c7 c17) (fun j k => q4 j (by unfold kf at k; omega))
  have h82 : w2 8 = v 8 := (q3 8 (by decide) (by decide)).trans h8
  have f := fin0 h hB F (fun n m hL hn hm => LA_c hL hn hm (fun c _ _ _ c5 => f' c (by omega))) e9 M2 h82
  rw [q2, h8]
  have g0 := QI_ord (v 8) n
  have g1 : (ordS (v 8) n).2 ≤ 40 := Nat.le_trans g0.1 hn
  refine br_c (fun d => ⟨f.1, ?_, f.2⟩) (fun d => ?_)
  · unfold wtrS; rw [if_pos d]
  · obtain ⟨k, hk, rfl⟩ := nI_of a0
    have kl : k < (ordS (v 8) n).2 := by
      rcases Nat.lt_or_ge k (ordS (v 8) n).2 with q | q
      · exact q
      · exact absurd (nI_le q hk) d
    refine ⟨vp_in_nI (by omega) (by decide), f.1, ?_, f.2⟩
    unfold wtrS
    rw [if_neg d, show ix (nI k) = k from nI_clamp hk, show (nI k).toNatClampNeg = k from nI_clamp hk, q1 k (by rw [h8]; exact kl), h8]
theorem ca_holder (h : IV v g B) (hB : B + 99 ≤ 900000) (a t : Int32) : w_X3_holder a t v (exI g (B + 99) (w_X4_holder a t) [(eIO, 1), (eIA, 2)]) (okI g (B + 99) (w_X4_holder a t)) := by
  obtain ⟨⟨n, m, S, hL, hO, hD⟩, hR⟩ := id h
  have hn := hO.1.n40
  have hS := hO.1.sp.2
  have h4 := hO.1.s4
  have by1 : ∀ {w : V3} {Q : Int32 → V3 → Prop} {k : Nat}, k < S → w 8 = v 8 → Q 1 w → w_X4_isByte (nI k) w Q := fun hk h8 hq => uM_below (n := S) (by omega) (by rw [h8]; exact h4) (fun _ _ _ => ⟨.inr rfl, hq⟩) (fun p => absurd p (fun z => z.elim (nI_pos (by omega)) (nI_ge hk (by omega))))
  refine uN_byte hL h4 hS.2 (fun k hk e => ?_) (fun h0 => ⟨1, mm1, fun v1 e9 => mst (Fc_r v) e9 (fun w h8 M hj => ?_)⟩)
  · subst e
    refine uN_within (fun h1 h2 => ?_) (fun h0 => ⟨2, mm2, fun v1 e9 => mst (Fc_r v) e9 (fun w h8 M hj => by1 hk h8 (nt1 ?_))⟩)
    · refine uC_holder hL hn (fun v1 e9 => mst (Fc_r v) e9 (fun w h8 M hj => by1 hk h8 (nt1 ?_)))
      refine uM_btw (lo := 0) (hi := 20100) rfl rfl (fun _ _ => zt1 ?_) (fun p => absurd p (fun z => z.elim h1 h2))
      have t0 : 0 ≤ t.toInt ∧ t.toInt ≤ 20100 := by
        have x1 := ti_nonneg h1
        rw [ti_lt, show (20100 : Int32).toInt = 20100 from rfl] at h2
        omega
      refine uM_holder (n := n) (m := m) (S := S) (B := B) (by rw [h8]; exact hO.1.cn) (by rw [h8]; exact hO.1.tm) (by rw [h8]; exact hO.1.sp) (by rw [ti_nI (by omega)]; omega) (by omega) ?_
      have f := fin0 h hB (Fc_r v) same e9 M h8
      exact ⟨f.1, by rw [h8], f.2⟩
    · exact uM_btw (lo := 0) (hi := 20100) rfl rfl (fun p1 p2 => absurd h0 (fun z => z.elim p1 p2)) (fun _ => zt0 (nm_e (finX h hB e9 M h8)))
  · refine uM_below (n := S) (by omega) (by rw [h8]; exact h4) (fun k hk e => ?_) (fun _ => ⟨.inl rfl, nt0 (nm_e (finX h hB e9 M h8))⟩)
    subst e
    exact absurd h0 (fun z => z.elim (nI_pos (by omega)) (nI_ge hk (by omega)))
theorem ca_shown (h : IV v g B) (hB : B + 99 ≤ 900000) (a : Int32) : w_X3_shown a v (okI g (B + 99) (w_X4_shown a)) := by
  obtain ⟨K, k1, k2, k3, k4⟩ := h.2.2.2.1
  have no : (a < 0 ∨ nI K ≤ a) → okI g (B + 99) (w_X4_shown a) (-1) v := fun h0 v1 e9 => mst (Fc_r v) e9 (fun w h8 M hj => by
    have f := fin0 h hB (Fc_r v) same e9 M h8
    refine uM_below (n := K) (by omega) ((hj 33 (by decide)).trans k3) (fun k hk e => ?_) (fun _ => zt0 ⟨f.1, rfl, f.2⟩)
    subst e
    exact absurd h0 (fun z => z.elim (nI_pos (by omega)) (nI_ge hk (by omega))))
  refine br_c (fun c => no (.inl c)) (fun c => ?_)
  rw [k2]
  refine br_c (fun d => no (.inr d)) (fun d => ?_)
  obtain ⟨k, hk, rfl⟩ := nI_of c
  have kl : k < K := by
    rcases Nat.lt_or_ge k K with q | q
    · exact q
    · exact absurd (nI_le q hk) d
  refine ⟨vp_in_nI (by omega) (by decide), fun v1 e9 => mst (Fc_r v) e9 (fun w h8 M hj => ?_)⟩
  have f := fin0 h hB (Fc_r v) same e9 M h8
  refine uM_below (n := K) (by omega) ((hj 33 (by decide)).trans k3) (fun _ _ _ => zt1 ⟨vp_in_nI (by omega) (by decide), f.1, ?_, f.2⟩) (fun p => absurd p (fun z => z.elim c (nI_ge kl (by omega))))
  have e18 := (Kp_t (Kp_9 e9) (Kp_m M)).1 18 (by unfold kc; omega)
  rw [show ix (nI k) = k from nI_clamp hk, e18, k4 k kl]
theorem ca_booking (h : IV v g B) (hB : B + 99 ≤ 900000) (a1 a2 : Int32) : w_X3_booking a1 a2 v (exI g (B + 99) (w_X4_booking a1 a2) [(eIO, 1), (eIA, 2)]) (okI g (B + 99) (w_X4_booking a1 a2)) := by
  obtain ⟨⟨n, m, S, hL, hO, hD⟩, hR⟩ := id h
  have hn := hO.1.n40
  have hm := hO.1.m8
  have hC := hO.1.cn
  have t0 := hO.1.t0
  have is1 : ∀ {w : V3} {Q : Int32 → V3 → Prop} {i : Nat}, i < n → w 8 = v 8 → Q 1 w → w_X4_isBooking (nI i) w Q := fun hi h8 hq => uM_isBooking (n := n) (m := m) (by rw [h8]; exact hC) (fun _ _ _ => hq) (fun p => absurd p (fun z => z.elim (nI_pos (by omega)) (nI_ge hi (by omega))))
  refine uN_booking hL (fun i hi e1 => ?_) hn (fun h0 => ⟨1, mm1, fun v1 e9 => mst (Fc_r v) e9 (fun w h8 M hj => ?_)⟩)
  · subst e1
    refine uN_within (fun h1 h2 => ?_) (fun h0 => ⟨2, mm2, fun v1 e9 => mst (Fc_r v) e9 (fun w h8 M hj => is1 hi h8 (nt1 ?_))⟩)
    · refine ⟨fun e => ?_, fun e => ?_, fun e => ?_⟩
      · subst e
        refine uC_joyOf hL hn hi (fun v1 e9 => mst (Fc_r v) e9 (fun w h8 M hj => is1 hi h8 (nt1 ⟨fun _ => ?_, fun q => absurd q (by decide), fun q => absurd rfl q.1⟩)))
        refine uM_joyNow (by omega) ?_
        have f := fin0 h hB (Fc_r v) same e9 M h8
        exact ⟨f.1, by rw [h8], f.2⟩
      · subst e
        have rf : ∀ x : Int32, (¬ bf (v 8) i 7 = 0 → x = -1) → (bf (v 8) i 7 = 0 → x = bstS (v 8) n i) → okI g (B + 99) (w_X4_booking (nI i) 11) x v := fun x x0 x1 v1 e9 => mst (Fc_r v) e9 (fun w h8 M hj => is1 hi h8 (nt1 ⟨fun q => absurd q (by decide), fun _ => by
          have f := fin0 h hB (Fc_r v) same e9 M h8
          rw [uM_of7 (by omega), h8]
          refine ntc (fun c => ⟨f.1, (x0 c).symm, f.2⟩) (fun c => ?_)
          refine uM_best (n := n) (m := m) (B := B) (by rw [h8]; exact hC) (by rw [h8]; exact hO.1.tm) hi (by rw [h8]; exact hO.1.rg hi) ?_
          exact ⟨f.1, by rw [h8]; exact (x1 c).symm, f.2⟩, fun q => absurd rfl q.2⟩))
        refine uC_isIn hL hn hi ?_
        by_cases c : bf (v 8) i 7 = 0
        · rw [if_pos c]
          exact zt1 (uC_best hL hn hO.1.tm (by omega) hi (hO.1.rg hi) (lv_0 c) (rf _ (fun q => absurd c q) (fun _ => rfl)))
        · rw [if_neg c]
          exact zt0 (rf _ (fun _ => rfl) (fun q => absurd q c))
      · obtain ⟨k, hk, rfl⟩ := le_of_nlt (N := 11) (by omega) h1 h2
        have k8 : k < 10 := by
          obtain ⟨a10, a11⟩ := e
          have x10 : k ≠ 10 := fun q => a10 (by rw [q]; rfl)
          have x11 : k ≠ 11 := fun q => a11 (by rw [q]; rfl)
          omega
        refine ⟨nx_in hi hn, vp_in_nI k8 (by decide), ?_⟩
        rw [nx_ix hi hn, show ix (nI k) = k from nI_clamp (by omega), hL.bk hi k k8]
        refine fun v1 e9 => mst (Fc_r v) e9 (fun w h8 M hj => is1 hi h8 (nt1 ⟨fun q => absurd q e.1, fun q => absurd q e.2, fun _ => ?_⟩))
        refine uM_btw (lo := 0) (hi := nI 9) rfl rfl (fun _ _ => zt1 ?_) (fun p => absurd p (fun z => z.elim (nI_pos (by omega)) (nI_nlt (by omega) (by omega))))
        rw [uM_of (by omega) k8]
        have f := fin0 h hB (Fc_r v) same e9 M h8
        exact ⟨f.1, by rw [h8], f.2⟩
    · have ne : ∀ j : Nat, j ≤ 11 → ¬ a2 = nI j := fun j hj q => by
        subst q
        exact h0.elim (nI_pos (by omega)) (nI_nlt (a := 11) (by omega) (by omega))
      refine ⟨fun q => absurd q (ne 10 (by omega)), fun q => absurd q (ne 11 (by omega)), fun _ => ?_⟩
      refine uM_btw (lo := 0) (hi := nI 9) rfl rfl (fun p1 p2 => ?_) (fun _ => zt0 (nm_e (finX h hB e9 M h8)))
      obtain ⟨k, hk, e⟩ := le_of_nlt (N := 9) (by omega) p1 p2
      exact absurd e (ne k (by omega))
  · refine uM_isBooking (n := n) (m := m) (by rw [h8]; exact hC) (fun k hk e => ?_) (fun _ => nt0 (nm_e (finX h hB e9 M h8)))
    subst e
    exact absurd h0 (fun z => z.elim (nI_pos (by omega)) (nI_ge hk (by omega)))
end CD
