/-! CALLS 2: counts, owners told, trust, forgive, draft -/
section CB
variable {v : V3} {g : Nat} {B : Int}
theorem nI_ne {a b : Nat} (ha : a < 2 ^ 31) (hb : b < 2 ^ 31) (h : a ≠ b) : ¬ nI a = nI b := fun q => h ((nI_eq ha hb).mp q)
theorem uM_count_lo {k : Nat} (hk : k < 8) {w : V3} {Q : Int32 → V3 → Prop} (hQ : Q (w 8 k) w) : ((nI k = 8 → w_X4_inState (nI k - 8) w (fun r4 v3 => Q r4 v3)) ∧ (nI k = 9 → w_X4_inState (nI k - 8) w (fun r7 v6 => Q r7 v6)) ∧ (nI k = 10 → w_X4_inState (nI k - 8) w (fun r10 v9 => Q r10 v9)) ∧ (nI k = 11 → vp_in ((8 + nI k) - 11) 474 ∧ Q (w 8 (ix ((8 + nI k) - 11))) w) ∧ (nI k = 12 → vp_in ((8 + nI k) - 11) 474 ∧ Q (w 8 (ix ((8 + nI k) - 11))) w) ∧ (nI k = 13 → w_X4_bytesAt (w 8 7) w (fun r17 v16 => Q r17 v16)) ∧ (¬ nI k = 8 ∧ ¬ nI k = 9 ∧ ¬ nI k = 10 ∧ ¬ nI k = 11 ∧ ¬ nI k = 12 ∧ ¬ nI k = 13 → w_X4_isBetween ((nI k).toInt64) 0 7 w (fun r19 v18 => ((r19 = 0 → w_X4_fail 1 v18 (fun r22 v21 => w_X4_count_104 Q r22 v21)) ∧ (¬ r19 = 0 → vp_in (nI k) 474 ∧ w_X4_count_104 Q (v18 8 (ix (nI k))) v18))))) := by
  have ne : ∀ j : Nat, 8 ≤ j → j < 100 → ¬ nI k = nI j := fun j h1 h2 => nI_ne (by omega) (by omega) (by omega)
  refine ⟨fun q => absurd q (ne 8 (by omega) (by omega)), fun q => absurd q (ne 9 (by omega) (by omega)), fun q => absurd q (ne 10 (by omega) (by omega)), fun q => absurd q (ne 11 (by omega) (by omega)), fun q => absurd q (ne 12 (by omega) (by omega)), fun q => absurd q (ne 13 (by omega) (by omega)), fun _ => ?_⟩
  refine uM_btw (lo := 0) (hi := nI 7) rfl rfl (fun _ _ => zt1 ⟨vp_in_nI (by omega) (by decide), ?_⟩) (fun p => ?_)
  · rw [show ix (nI k) = k from nI_clamp (by omega)]; exact hQ
  · exact absurd p (fun z => z.elim (nI_pos (by omega)) (nI_nlt (by omega) (by omega)))
theorem ca_count (h : IV v g B) (hB : B + 99 ≤ 900000) (a : Int32) : w_X3_count a v (exI g (B + 99) (w_X4_count a) [(eIA, 1)]) (okI g (B + 99) (w_X4_count a)) := by
  obtain ⟨⟨n, m, S, hL, hO, hD⟩, hR⟩ := id h
  have hn := hO.1.n40
  have hm := hO.1.m8
  have hC := hO.1.cn
  have lo : ∀ k : Nat, k < 8 → okI g (B + 99) (w_X4_count (nI k)) (v 8 k) v := fun k hk v1 e9 => mst (Fc_r v) e9 (fun w h8 M hj => uM_count_lo hk (by
    have f := fin0 h hB (Fc_r v) same e9 M h8
    exact ⟨f.1, by rw [h8], f.2⟩))
  have st : ∀ (s : Nat), s < 3 → ∀ v1, Eq9 v v1 → ∀ w, w 8 = v 8 → Md (up2 v1 7 11 0) w → w_X4_inState (nI s) w (fun r4 v3 => v3 7 11 = 0 ∧ r4 = cntS (v 8) n (nI s) ∧ IVo v1 v3 g (B + 99)) := fun s hs v1 e9 w h8 M => uM_inState (n := n) (m := m) (by rw [h8]; exact hC) (by
    have f := fin0 h hB (Fc_r v) same e9 M h8
    rw [h8]
    exact ⟨f.1, rfl, f.2⟩)
  refine uN_within (fun h1 h2 => ?_) (fun h0 => ⟨1, mm1, fun v1 e9 => mst (Fc_r v) e9 (fun w h8 M hj => ?_)⟩)
  · refine ⟨fun e => ?_, fun e => ?_, fun e => ?_, fun e => ?_, fun e => ?_, fun e => ?_, fun e => ?_, fun e => ?_, fun e => ?_, fun e => ?_, fun e => ?_⟩
    · subst e; rw [hL.sz]; exact lo 4 (by omega)
    · subst e; rw [hL.m7, ← hC.1]; exact lo 5 (by omega)
    · subst e; rw [hL.n8, ← hC.2.2.1]; exact lo 6 (by omega)
    · subst e; rw [hL.tm]; exact lo 7 (by omega)
    · subst e
      refine uC_cnt hL hn (fun v1 e9 => mst (Fc_r v) e9 (fun w h8 M hj => ⟨fun _ => st 0 (by omega) v1 e9 w h8 M, fun q => absurd q (by decide), fun q => absurd q (by decide), fun q => absurd q (by decide), fun q => absurd q (by decide), fun q => absurd q (by decide), fun q => absurd rfl q.1⟩))
    · subst e
      refine uC_cnt hL hn (fun v1 e9 => mst (Fc_r v) e9 (fun w h8 M hj => ⟨fun q => absurd q (by decide), fun _ => st 1 (by omega) v1 e9 w h8 M, fun q => absurd q (by decide), fun q => absurd q (by decide), fun q => absurd q (by decide), fun q => absurd q (by decide), fun q => absurd rfl q.2.1⟩))
    · subst e
      refine uC_cnt hL hn (fun v1 e9 => mst (Fc_r v) e9 (fun w h8 M hj => ⟨fun q => absurd q (by decide), fun q => absurd q (by decide), fun _ => st 2 (by omega) v1 e9 w h8 M, fun q => absurd q (by decide), fun q => absurd q (by decide), fun q => absurd q (by decide), fun q => absurd rfl q.2.2.1⟩))
    · subst e
      rw [hL.1.2.2.2.2.2.1]
      refine fun v1 e9 => mst (Fc_r v) e9 (fun w h8 M hj => ⟨fun q => absurd q (by decide), fun q => absurd q (by decide), fun q => absurd q (by decide), fun _ => ⟨by unfold vp_in; decide, ?_⟩, fun q => absurd q (by decide), fun q => absurd q (by decide), fun q => absurd rfl q.2.2.2.1⟩)
      have f := fin0 h hB (Fc_r v) same e9 M h8
      exact ⟨f.1, by rw [h8]; rfl, f.2⟩
    · subst e
      rw [hL.1.2.2.2.2.2.2]
      refine fun v1 e9 => mst (Fc_r v) e9 (fun w h8 M hj => ⟨fun q => absurd q (by decide), fun q => absurd q (by decide), fun q => absurd q (by decide), fun q => absurd q (by decide), fun _ => ⟨by unfold vp_in; decide, ?_⟩, fun q => absurd q (by decide), fun q => absurd rfl q.2.2.2.2.1⟩)
      have f := fin0 h hB (Fc_r v) same e9 M h8
      exact ⟨f.1, by rw [h8]; rfl, f.2⟩
    · subst e
      refine uC_used hL hn (fun v1 e9 => mst (Fc_r v) e9 (fun w h8 M hj => ⟨fun q => absurd q (by decide), fun q => absurd q (by decide), fun q => absurd q (by decide), fun q => absurd q (by decide), fun q => absurd q (by decide), fun _ => ?_, fun q => absurd rfl q.2.2.2.2.2⟩))
      have t0 := hO.1.t0
      refine uM_bytes (n := n) (m := m) (S := S) (B := B) (by rw [h8]; exact hC) (by rw [h8]; exact hO.1.tm) (by rw [h8]; exact hO.1.sp) (by rw [h8]; exact hO.1.s4) (by rw [h8]; omega) ?_
      have f := fin0 h hB (Fc_r v) same e9 M h8
      exact ⟨f.1, by rw [h8]; exact (use_1 hn hO.1.tm hO.1.sp hO.1.nc (by omega)).symm, f.2⟩
    · obtain ⟨k, hk, rfl⟩ := le_of_nlt (N := 13) (by omega) h1 h2
      have k4 : k < 4 := by
        obtain ⟨a4, a5, a6, a7, a8, a9, a10, a11, a12, a13⟩ := e
        have x4 : k ≠ 4 := fun q => a4 (by rw [q]; rfl)
        have x5 : k ≠ 5 := fun q => a5 (by rw [q]; rfl)
        have x6 : k ≠ 6 := fun q => a6 (by rw [q]; rfl)
        have x7 : k ≠ 7 := fun q => a7 (by rw [q]; rfl)
        have x8 : k ≠ 8 := fun q => a8 (by rw [q]; rfl)
        have x9 : k ≠ 9 := fun q => a9 (by rw [q]; rfl)
        have x10 : k ≠ 10 := fun q => a10 (by rw [q]; rfl)
        have x11 : k ≠ 11 := fun q => a11 (by rw [q]; rfl)
        have x12 : k ≠ 12 := fun q => a12 (by rw [q]; rfl)
        have x13 : k ≠ 13 := fun q => a13 (by rw [q]; rfl)
        omega
      refine ⟨vp_in_nI k4 (by decide), ?_⟩
      rw [show ix (nI k) = k from nI_clamp (by omega), hL.st k4]
      exact lo k (by omega)
  · have ne : ∀ j : Nat, j ≤ 13 → ¬ a = nI j := fun j hj q => by
      subst q
      exact h0.elim (nI_pos (by omega)) (nI_nlt (a := 13) (by omega) (by omega))
    refine ⟨fun q => absurd q (ne 8 (by omega)), fun q => absurd q (ne 9 (by omega)), fun q => absurd q (ne 10 (by omega)), fun q => absurd q (ne 11 (by omega)), fun q => absurd q (ne 12 (by omega)), fun q => absurd q (ne 13 (by omega)), fun _ => ?_⟩
    refine uM_btw (lo := 0) (hi := nI 7) rfl rfl (fun p1 p2 => ?_) (fun _ => zt0 (nm_e (finX h hB e9 M h8)))
    obtain ⟨k, hk, e⟩ := le_of_nlt (N := 7) (by omega) p1 p2
    exact absurd e (ne k (by omega))
/-- an owner on both sides -/
theorem ca_owner (h : IV v g B) (hB : B + 99 ≤ 900000) (a1 a2 : Int32) : w_X3_owner a1 a2 v (exI g (B + 99) (w_X4_owner a1 a2) [(eIO, 1), (eIA, 2)]) (okI g (B + 99) (w_X4_owner a1 a2)) := by
  obtain ⟨⟨n, m, S, hL, hO, hD⟩, hR⟩ := id h
  have hn := hO.1.n40
  have hm := hO.1.m8
  have hC := hO.1.cn
  refine uN_owner hL (fun o ho e1 => ?_) hm (fun h0 => ⟨1, mm1, fun v1 e9 => mst (Fc_r v) e9 (fun w h8 M hj => ?_)⟩)
  · subst e1
    have ow : ∀ {v1 w : V3} {Q : Int32 → V3 → Prop}, w 8 = v 8 → Q 1 w → w_X4_isOwner (nI o) w Q := fun h8 hq => uM_isOwner (n := n) (m := m) (by rw [h8]; exact hC) (fun _ _ _ => hq) (fun p => absurd p (fun z => z.elim (nI_pos (by omega)) (nI_ge ho (by omega))))
    refine uN_within (fun h1 h2 => ?_) (fun h0 => ⟨2, mm2, fun v1 e9 => mst (Fc_r v) e9 (fun w h8 M hj => ow (v1 := v1) h8 (nt1 ?_))⟩)
    · refine ⟨fun e => ?_, fun e => ?_, fun e => ?_, fun e => ?_⟩
      · subst e
        refine uC_opn hL hn (fun v1 e9 => mst (Fc_r v) e9 (fun w h8 M hj => ow (v1 := v1) h8 (nt1 ⟨fun _ => ?_, fun q => absurd q (by decide), fun q => absurd q (by decide), fun q => absurd rfl q.1⟩)))
        refine uM_open (n := n) (m := m) (by rw [h8]; exact hC) (by rw [h8]; exact hO.1.st) ?_
        have f := fin0 h hB (Fc_r v) same e9 M h8
        exact ⟨f.1, by rw [h8], f.2⟩
      · subst e
        have rf : ∀ x : Int32, x = (if brk (v 8) o < v 8 3 then 0 else 1) → okI g (B + 99) (w_X4_owner (nI o) 9) x v := fun x hx v1 e9 => mst (Fc_r v) e9 (fun w h8 M hj => ow (v1 := v1) h8 (nt1 ⟨fun q => absurd q (by decide), fun _ => ?_, fun q => absurd q (by decide), fun q => absurd rfl q.2.1⟩))
        · refine uC_barred hL hm ho ?_
          by_cases c : brk (v 8) o < v 8 3
          · rw [if_pos c]; exact zt0 (rf 0 (by rw [if_pos c]))
          · rw [if_neg c]; exact zt1 (rf 1 (by rw [if_neg c]))
        · refine uM_broken (by omega) ?_
          have f := fin0 h hB (Fc_r v) same e9 M h8
          refine br_c (fun c => ⟨f.1, ?_, f.2⟩) (fun c => ⟨f.1, ?_, f.2⟩)
          · rw [h8] at c; rw [hx, if_pos c]
          · rw [h8] at c; rw [hx, if_neg c]
      · subst e
        refine uC_joyO hL hn (fun v1 e9 => mst (Fc_r v) e9 (fun w h8 M hj => ow (v1 := v1) h8 (nt1 ⟨fun q => absurd q (by decide), fun q => absurd q (by decide), fun _ => ?_, fun q => absurd rfl q.2.2⟩)))
        refine uM_joys (n := n) (m := m) (by rw [h8]; exact hC) ?_
        have f := fin0 h hB (Fc_r v) same e9 M h8
        exact ⟨f.1, by rw [h8], f.2⟩
      · obtain ⟨k, hk, rfl⟩ := le_of_nlt (N := 10) (by omega) h1 h2
        have k8 : k < 8 := by
          obtain ⟨a8, a9, a10⟩ := e
          have x8 : k ≠ 8 := fun q => a8 (by rw [q]; rfl)
          have x9 : k ≠ 9 := fun q => a9 (by rw [q]; rfl)
          have x10 : k ≠ 10 := fun q => a10 (by rw [q]; rfl)
          omega
        refine ⟨vp_in_nI (by omega) (by decide), vp_in_nI k8 (by decide), ?_⟩
        rw [show ix (nI o) = o from nI_clamp (by omega), show ix (nI k) = k from nI_clamp (by omega), hL.ow ho k k8]
        refine fun v1 e9 => mst (Fc_r v) e9 (fun w h8 M hj => ow (v1 := v1) h8 (nt1 ⟨fun q => absurd q e.1, fun q => absurd q e.2.1, fun q => absurd q e.2.2, fun _ => ?_⟩))
        refine uM_btw (lo := 0) (hi := nI 7) rfl rfl (fun _ _ => zt1 ?_) (fun p => absurd p (fun z => z.elim (nI_pos (by omega)) (nI_nlt (by omega) (by omega))))
        rw [uM_ofO (by omega) k8]
        have f := fin0 h hB (Fc_r v) same e9 M h8
        exact ⟨f.1, by rw [h8], f.2⟩
    · have ne : ∀ j : Nat, j ≤ 10 → ¬ a2 = nI j := fun j hj q => by
        subst q
        exact h0.elim (nI_pos (by omega)) (nI_nlt (a := 10) (by omega) (by omega))
      refine ⟨fun q => absurd q (ne 8 (by omega)), fun q => absurd q (ne 9 (by omega)), fun q => absurd q (ne 10 (by omega)), fun _ => ?_⟩
      refine uM_btw (lo := 0) (hi := nI 7) rfl rfl (fun p1 p2 => ?_) (fun _ => zt0 (nm_e (finX h hB e9 M h8)))
      obtain ⟨k, hk, e⟩ := le_of_nlt (N := 7) (by omega) p1 p2
      exact absurd e (ne k (by omega))
  · refine uM_isOwner (n := n) (m := m) (by rw [h8]; exact hC) (fun k hk e => ?_) (fun _ => nt0 (nm_e (finX h hB e9 M h8)))
    subst e
    exact absurd h0 (fun z => z.elim (nI_pos (by omega)) (nI_ge hk (by omega)))
end CB
