/-! CALLS 11: addOwner, show -/
def zr (σ : Nat → Int32) (m i : Nat) : Nat → Int32 := fun k => if 10 + 8 * m ≤ k ∧ k < 10 + 8 * m + i then 0 else σ k
def addOS (σ : Nat → Int32) (m : Nat) (a : Int32) : Nat → Int32 := upd (upd (zr σ m 8) (10 + 8 * m + 0) a) 5 (nI (m + 1))
theorem zr_s (σ : Nat → Int32) (m i : Nat) : upd (zr σ m i) (10 + 8 * m + i) 0 = zr σ m (i + 1) := by
  funext k
  by_cases e : k = 10 + 8 * m + i
  · subst e
    rw [pk_us]
    unfold zr
    rw [if_pos (by omega)]
  · rw [pk_un e]
    unfold zr
    by_cases c : 10 + 8 * m ≤ k ∧ k < 10 + 8 * m + i
    · rw [if_pos c, if_pos (by omega)]
    · rw [if_neg c, if_neg (by omega)]
theorem zr_0 (σ : Nat → Int32) (m : Nat) : zr σ m 0 = σ := by
  funext k
  unfold zr
  rw [if_neg (by omega)]
section AO
variable {v : V3} {b n m S : Nat} {B : Int} {σ : Nat → Int32} {a : Int32}
theorem addOS_s {k : Nat} (hk : k < 10) (h5 : k ≠ 5) : addOS σ m a k = σ k := by
  unfold addOS zr
  rw [pk_un h5, pk_un (by omega), if_neg (by omega)]
theorem addOS_5 : addOS σ m a 5 = nI (m + 1) := pk_us
theorem addOS_b (hm : m < 8) {j f : Nat} : bf (addOS σ m a) j f = bf σ j f := by
  unfold addOS zr bf
  rw [pk_un (by omega), pk_un (by omega), if_neg (by omega)]
theorem addOS_o {o f : Nat} (hf : f < 8) : og (addOS σ m a) o f = if o = m then (if f = 0 then a else 0) else og σ o f := by
  unfold addOS zr og
  rw [pk_un (by omega)]
  by_cases e : o = m
  · subst e
    rw [if_pos rfl]
    by_cases z : f = 0
    · subst z; rw [pk_us, if_pos rfl]
    · rw [pk_un (by omega), if_pos (by omega), if_neg z]
  · rw [if_neg e, pk_un (by omega), if_neg (by omega)]
theorem addOS_wf (h : Wf σ n m S B) (hm : m < 8) : Wf (addOS σ m a) n (m + 1) S B :=
  Wf_re h id ⟨addOS_5, by omega, (addOS_s (by omega) (by omega)).trans h.cn.2.2.1, h.n40⟩ (by omega) (addOS_s (by omega) (by omega)) (addOS_s (by omega) (by omega)) (by
    unfold Sg
    rw [addOS_s (by omega) (by omega), addOS_s (by omega) (by omega), addOS_s (by omega) (by omega), addOS_s (by omega) (by omega)]
    exact h.sg) (fun j hj => hj) (fun _ _ _ _ e => e) (fun j _ f _ => addOS_b hm)
theorem addOS_nf (h : NF σ n) (hm : m < 8) : NF (addOS σ m a) n := NF_e h (by rw [addOS_s (by omega) (by omega)]; exact Int.le_refl _) (fun j _ f _ => addOS_b hm)
theorem uC_enterO (hL : LA v b σ n m) (hm : m < 8) {Q : Int32 → V3 → Prop} (hQ : ∀ v', LA v' b (addOS σ m a) n (m + 1) → Fr b v v' → Q (nI m) v') : w_X1_enterOwner b a v Q := by
  unfold w_X1_enterOwner
  rw [hL.m7]
  refine ⟨vp_in_nI hm (by decide), ?_⟩
  rw [show ix (nI m) = m from nI_clamp (by omega)]
  refine loop_0 (W := fun r i w => w_X1_enterOwner_12 b Q r a m (nI i) w) (I := fun i w => (∀ c, c ≠ b + 6 + m → w c = v c) ∧ ∀ k, k < i → w (b + 6 + m) k = 0) 8 v ⟨fun _ _ => rfl, fun k hk => absurd hk (Nat.not_lt_zero k)⟩ ?_ ?_
  · intro r w h
    rw [w_X1_enterOwner_12]
    refine br_t (by decide) (nm_e (nm_e ?_))
    have e7 : (up2 w (b + 6 + m) 0 a) b 7 = nI m := by rw [up2_off _ _ _ (by omega), h.1 b (by omega)]; exact hL.m7
    rw [e7, nI_1]
    have e8 : up2 (up2 w (b + 6 + m) 0 a) b 7 (nI (m + 1)) b 7 - 1 = nI m := by rw [up2_row, pk_us, nI_pred]
    rw [e8]
    have oc : ∀ c, c ≠ b → c ≠ b + 6 + m → up2 (up2 w (b + 6 + m) 0 a) b 7 (nI (m + 1)) c = v c := fun c c1 c2 => by rw [up2_off _ _ _ c1, up2_off _ _ _ c2, h.1 c c2]
    have ob : ∀ j, j ≠ 7 → up2 (up2 w (b + 6 + m) 0 a) b 7 (nI (m + 1)) b j = v b j := fun j hj => by rw [up2_row, pk_un hj, up2_off _ _ _ (by omega), h.1 b (by omega)]
    obtain ⟨⟨a1, a2, a3, a4, a5, a6, a7⟩, ho, hb⟩ := hL
    refine hQ _ ⟨⟨fun j hj => ?_, ?_, ?_, ?_, ?_, ?_, ?_⟩, fun p hp f hf => ?_, fun j hj f hf => ?_⟩ (fun c hc => oc c (by omega) (by omega))
    · rw [oc _ (by omega) (by omega), addOS_s (by omega) (by omega)]; exact a1 j hj
    · rw [ob _ (by decide), addOS_s (by omega) (by omega)]; exact a2
    · rw [ob _ (by decide), addOS_s (by omega) (by omega)]; exact a3
    · rw [up2_row, pk_us]
    · rw [ob _ (by decide)]; exact a5
    · rw [ob _ (by decide), addOS_s (by omega) (by omega)]; exact a6
    · rw [ob _ (by decide), addOS_s (by omega) (by omega)]; exact a7
    · rw [addOS_o hf]
      by_cases e : p = m
      · subst e
        rw [if_pos rfl, up2_off _ _ _ (by omega), up2_row]
        by_cases z : f = 0
        · subst z; rw [pk_us, if_pos rfl]
        · rw [pk_un z, if_neg z]; exact h.2 f hf
      · rw [if_neg e, oc _ (by omega) (by omega)]; exact ho p (by omega) f hf
    · rw [addOS_b hm, oc _ (by omega) (by omega)]; exact hb j hj f hf
  · intro r i w hi h ih
    rw [w_X1_enterOwner_12]
    refine br_f (nI_ge (b := 8) hi (by omega)) ⟨vp_in_nI hi (by decide), nm_e ?_⟩
    rw [show ix (nI i) = i from nI_clamp (by omega)]
    rw [nI_succ] at ih
    refine ih _ ⟨fun c hc => by rw [up2_off _ _ _ hc]; exact h.1 c hc, fun k hk => ?_⟩
    rw [up2_row]
    by_cases e : k = i
    · subst e; exact pk_us
    · rw [pk_un e]; exact h.2 k (by omega)
theorem uM_appO (h5 : v 8 5 = nI m) (hm : m < 8) {Q : Int32 → V3 → Prop} (hQ : ∀ v', v' 8 = addOS (v 8) m a → (∀ c, c ≠ 8 → v' c = v c) → Q (nI m) v') : w_X4_appendOwner a v Q := by
  unfold w_X4_appendOwner
  rw [h5]
  refine loop_0 (W := fun r i w => w_X4_appendOwner_9 Q r a (nI m) (nI i) w) (I := fun i w => w 8 = zr (v 8) m i ∧ ∀ c, c ≠ 8 → w c = v c) 8 v ⟨(zr_0 _ _).symm, fun _ _ => rfl⟩ ?_ ?_
  · intro r w h
    rw [w_X4_appendOwner_9, show ((10 : Int32) + (8 * nI m)) + 0 = nI (10 + 8 * m + 0) from uM_iy (o := m) (f := 0)]
    refine br_t (by decide) ⟨vp_in_nI (by omega) (by decide), nm_e (nm_e ?_)⟩
    rw [show ix (nI (10 + 8 * m + 0)) = 10 + 8 * m + 0 from nI_clamp (by omega)]
    refine hQ _ ?_ (fun c hc => by rw [up2_off _ _ _ hc, up2_off _ _ _ hc, h.2 c hc])
    have e5 : (up2 w 8 (10 + 8 * m + 0) a) 8 5 = nI m := by
      rw [up2_8, pk_un (by omega), h.1]
      unfold zr
      rw [if_neg (by omega)]
      exact h5
    rw [e5, nI_1, up2_8, up2_8, h.1]
    rfl
  · intro r i w hi h ih
    rw [w_X4_appendOwner_9, uM_iy]
    refine br_f (nI_ge (b := 8) hi (by omega)) ⟨vp_in_nI (by omega) (by decide), nm_e ?_⟩
    rw [show ix (nI (10 + 8 * m + i)) = 10 + 8 * m + i from nI_clamp (by omega)]
    rw [nI_succ] at ih
    exact ih _ ⟨by rw [up2_8, h.1, zr_s], fun c hc => by rw [up2_off _ _ _ hc]; exact h.2 c hc⟩
end AO
section AP
variable {v : V3} {g : Nat} {B : Int}
theorem ca_addOwner (h : IV v g B) (hB : B + 99 ≤ 900000) (a : Int32) : w_X3_addOwner a v (exI g (B + 99) (w_X4_addOwner a) [(eIA, 1), (eIS, 2)]) (okI g (B + 99) (w_X4_addOwner a)) := by
  obtain ⟨⟨n, m, S, hL, hO, hD⟩, hR⟩ := id h
  have hn := hO.1.n40
  have hm := hO.1.m8
  have hC := hO.1.cn
  have hB0 := hR.2.2.2.2.2
  refine uN_within (fun h1 h2 => ?_) (fun h0 => ⟨1, mm1, fun v1 e9 => mst (Fc_r v) e9 (fun w h8 M hj => uM_btw (lo := 0) (hi := 999) rfl rfl (fun p1 p2 => absurd h0 (fun z => z.elim p1 p2)) (fun _ => nt0 (nm_e (finX h hB e9 M h8))))⟩)
  rw [hL.m7]
  have l8 : nI m < 8 ↔ m < 8 := nI_ltI (b := 8) (by omega) (by omega)
  have e8 : nI m = 8 ↔ m = 8 := nI_eq (b := 8) (by omega) (by omega)
  refine br_c (fun c => ?_) (fun c => ⟨2, mm2, fun v1 e9 => mst (Fc_r v) e9 (fun w h8 M hj => uM_btw (lo := 0) (hi := 999) rfl rfl (fun _ _ => nt1 ?_) (fun p => absurd p (fun z => z.elim h1 h2)))⟩)
  · have hm8 := l8.mp c
    refine uC_enterO hL hm8 (fun v' hL' hF' => ?_)
    intro v1 e9
    refine mst (Fc_L hF') e9 (fun w h8 M hj => uM_btw (lo := 0) (hi := 999) rfl rfl (fun _ _ => nt1 ?_) (fun p => absurd p (fun z => z.elim h1 h2)))
    rw [h8, hC.1]
    refine ntc (fun _ => ?_) (fun q => absurd (e8.mp q) (by omega))
    refine uM_appO (by rw [h8]; exact hC.1) hm8 (fun w2 q1 q2 => ?_)
    rw [h8] at q1
    have f := fin2 hR hB hD (Fc_L hF') hL' e9 (Md_8 M q2) q1 (OK_B (n := n) (m := m + 1) (S := S) (B := B) ⟨addOS_wf hO.1 hm8, addOS_nf hO.2.1 hm8, by rw [addOS_s (by omega) (by omega)]; exact hO.2.2⟩ (by omega))
    exact ⟨f.1, rfl, f.2⟩
  · rw [h8, hC.1]
    refine ntc (fun q => absurd (e8.mpr (by have hge : ¬ m < 8 := fun z => c (l8.mpr z); omega)) q) (fun _ => nm_e (finX h hB e9 M h8))
/-- the line on both sides -/
def lnS (σ : Nat → Int32) (n : Nat) (t : Int32) (k : Nat) : Int32 := if hldS σ n (nI k) t = -1 then 46 else 48 + bf σ (ix (hldS σ n (nI k) t)) 0
theorem ln_nar : ∀ o, o < 8 → vp_nar .byte ((48 + nI o).toInt8.toInt32) = 48 + nI o := by decide
theorem ca_show (h : IV v g B) (hB : B + 99 ≤ 900000) (t : Int32) : w_X3_show t v (exI g (B + 99) (w_X4_show t) [(eIA, 1)]) (okI g (B + 99) (w_X4_show t)) := by
  obtain ⟨⟨n, m, S, hL, hO, hD⟩, hR⟩ := id h
  have hn := hO.1.n40
  have hm := hO.1.m8
  have hC := hO.1.cn
  have h4 := hO.1.s4
  have hS := hO.1.sp.2
  have hB0 := hR.2.2.2.2.2
  refine uN_within (fun h1 h2 => ?_) (fun h0 => ⟨1, mm1, fun v1 e9 => mst (Fc_r v) e9 (fun w h8 M hj => uM_btw (lo := 0) (hi := 20100) rfl rfl (fun p1 p2 => absurd h0 (fun z => z.elim p1 p2)) (fun _ => nt0 (nm_e (finX h hB e9 M h8))))⟩)
  have t0 : 0 ≤ t.toInt ∧ t.toInt ≤ 20100 := by
    have x1 := ti_nonneg h1
    rw [ti_lt, show (20100 : Int32).toInt = 20100 from rfl] at h2
    omega
  have rowc : ∀ k, (hldS (v 8) n (nI k) t = -1 ∧ lnS (v 8) n t k = 46) ∨ (∃ j, j < n ∧ ¬ hldS (v 8) n (nI k) t = -1 ∧ hldS (v 8) n (nI k) t = nI j ∧ lnS (v 8) n t k = 48 + bf (v 8) j 0) := fun k => by
    unfold lnS
    rcases hldS_cases (σ := v 8) hn (nI k) t with e | ⟨e0, j, hj, e⟩
    · exact .inl ⟨e, if_pos e⟩
    · exact .inr ⟨j, hj, e0, e, by rw [if_neg e0, e, nx_ix hj hn]⟩
  refine loop_0 (W := fun r i w => w_X3_show_10 _ _ r t (nI i) w) (I := fun i w => (∀ c, c ≠ 2 → w c = v c) ∧ ∀ k, k < i → w 2 k = lnS (v 8) n t k) S v ⟨fun _ _ => rfl, fun k hk => absurd hk (Nat.not_lt_zero k)⟩ ?_ ?_
  · intro r v' hv
    have hL' : LA v' 21 (v 8) n m := LA_c hL hn hm (fun c _ _ _ _ => hv.1 c (by omega))
    rw [w_X3_show_10, hL'.sz, h4]
    refine br_t Int32.le_rfl (nm_e ?_)
    rw [up2_row, pk_us]
    intro v1 e9
    refine nm_e ?_
    have c1 : ∀ c, c ≠ 0 → c ≠ 2 → c ≠ 7 → c ≠ 19 → c ≠ 20 → (up2 v1 7 11 0) c = v c := fun c c0 c2 c7 c19 c20 => by rw [up2_off _ _ _ c7, e9 c c19 c20, up2_off _ _ _ c0, hv.1 c c2]
    have c0 : ∀ j, j ≠ 13 → (up2 v1 7 11 0) 0 j = v 0 j := fun j hj => by rw [up2_off _ _ _ (by decide), e9 0 (by decide) (by decide), up2_row, pk_un hj, hv.1 0 (by decide)]
    have c013 : (up2 v1 7 11 0) 0 13 = nI S := by rw [up2_off _ _ _ (by decide), e9 0 (by decide) (by decide), up2_row, pk_us]
    have c2 : (up2 v1 7 11 0) 2 = v' 2 := by rw [up2_off _ _ _ (by decide), e9 2 (by decide) (by decide), up2_off _ _ _ (by decide)]
    have c7 : ∀ j, j ≠ 11 → (up2 v1 7 11 0) 7 j = v 7 j := fun j hj => by rw [up2_row, pk_un hj, e9 7 (by decide) (by decide), up2_off _ _ _ (by decide), hv.1 7 (by decide)]
    have c711 : (up2 v1 7 11 0) 7 11 = 0 := by rw [up2_row, pk_us]
    have c19 : (up2 v1 7 11 0) 19 = v1 19 := up2_off _ _ _ (by decide)
    have c20 : (up2 v1 7 11 0) 20 = v1 20 := up2_off _ _ _ (by decide)
    generalize up2 v1 7 11 0 = w at *
    have h8 : w 8 = v 8 := c1 8 (by decide) (by decide) (by decide) (by decide) (by decide)
    refine uM_btw (lo := 0) (hi := 20100) rfl rfl (fun _ _ => nt1 ?_) (fun p => absurd p (fun z => z.elim h1 h2))
    refine loop_0 (W := fun r i w => w_X4_show_25 _ r t (nI i) w) (I := fun i w' => (∀ c, c ≠ 18 → w' c = w c) ∧ ∀ k, k < i → w' 18 k = lnS (v 8) n t k) S w ⟨fun _ _ => rfl, fun k hk => absurd hk (Nat.not_lt_zero k)⟩ ?_ ?_
    · intro r w' hw
      have e8 : w' 8 = v 8 := (hw.1 8 (by decide)).trans h8
      rw [w_X4_show_25, e8, h4]
      refine br_t Int32.le_rfl (nm_e ?_)
      rw [up2_row, pk_us]
      have d7 : ∀ j, j ≠ 33 → (up2 w' 7 33 (nI S)) 7 j = w 7 j := fun j hj => by rw [up2_row, pk_un hj, hw.1 7 (by decide)]
      have dc : ∀ c, c ≠ 7 → c ≠ 18 → (up2 w' 7 33 (nI S)) c = w c := fun c x7 x18 => by rw [up2_off _ _ _ x7, hw.1 c x18]
      refine ⟨(d7 11 (by decide)).trans c711, rfl, ?_, (dc 19 (by decide) (by decide)).trans c19, (dc 20 (by decide) (by decide)).trans c20⟩
      obtain ⟨⟨T, hT⟩, hE, -, -, -, -⟩ := hR
      have g8 : (up2 w' 7 33 (nI S)) 8 = v 8 := (dc 8 (by decide) (by decide)).trans h8
      have g0 : ∀ j, j ≠ 13 → (up2 w' 7 33 (nI S)) 0 j = v 0 j := fun j hj => by rw [dc 0 (by decide) (by decide)]; exact c0 j hj
      have g7 : ∀ j, j ≠ 11 → j ≠ 33 → (up2 w' 7 33 (nI S)) 7 j = v 7 j := fun j p q => (d7 j q).trans (c7 j p)
      have gc : ∀ c, c ≠ 0 → c ≠ 2 → c ≠ 7 → c ≠ 18 → c ≠ 19 → c ≠ 20 → (up2 w' 7 33 (nI S)) c = v c := fun c p0 p2 p7 p18 p19 p20 => (dc c p7 p18).trans (c1 c p0 p2 p7 p19 p20)
      refine ⟨⟨n, m, S, ?_, by rw [g8]; exact OK_B hO (by omega), ?_⟩, RS_B (RS_gen h.2 ⟨T, ?_⟩ ?_ ⟨S, hS.2, ?_, ?_, fun k hk => ?_⟩ (fun c q => gc c (by omega) (by omega) (by omega) (by omega) (by omega) (by omega))) (by omega)⟩
      · rw [g8]; exact LA_c hL hn hm (fun c _ _ _ _ => gc c (by omega) (by omega) (by omega) (by omega) (by omega) (by omega))
      · unfold DR DE
        rw [g0 9 (by decide), g0 10 (by decide), g0 11 (by decide), g7 8 (by decide) (by decide), g7 9 (by decide) (by decide), g7 10 (by decide) (by decide)]
        exact hD
      · unfold TX
        rw [g0 1 (by decide), g7 13 (by decide) (by decide), gc 1 (by decide) (by decide) (by decide) (by decide) (by decide) (by decide), gc 16 (by decide) (by decide) (by decide) (by decide) (by decide) (by decide)]
        exact hT
      · rw [g0 2 (by decide), g0 3 (by decide), g7 19 (by decide) (by decide), g7 20 (by decide) (by decide)]; exact hE
      · rw [dc 0 (by decide) (by decide)]; exact c013
      · rw [up2_row, pk_us]
      · rw [dc 2 (by decide) (by decide), c2, hv.2 k hk, up2_off _ _ _ (by decide), hw.2 k hk]
    · intro r i w' hi hw ih
      have e8 : w' 8 = v 8 := (hw.1 8 (by decide)).trans h8
      rw [w_X4_show_25, e8, h4]
      refine br_f (nI_ge hi (by omega)) ?_
      refine uM_holder (n := n) (m := m) (S := S) (B := B) (by rw [e8]; exact hC) (by rw [e8]; exact hO.1.tm) (by rw [e8]; exact hO.1.sp) (by rw [ti_nI (by omega)]; omega) (by omega) ?_
      rw [e8]
      rw [nI_succ] at ih
      have step : w_X4_show_66 (fun b v2 => v2 7 11 = 0 ∧ b = nI S ∧ IVo v1 v2 g (B + 99)) (w_X4_show_25 (fun b v2 => v2 7 11 = 0 ∧ b = nI S ∧ IVo v1 v2 g (B + 99)) r) t (nI i) (nI i) (lnS (v 8) n t i) w' := by
        refine ⟨vp_in_nI (by omega) (by decide), nm_e ?_⟩
        rw [show ix (nI i) = i from nI_clamp (by omega)]
        refine ih _ ⟨fun c hc => by rw [up2_off _ _ _ hc]; exact hw.1 c hc, fun k hk => ?_⟩
        rw [up2_row]
        by_cases e : k = i
        · subst e; exact pk_us
        · rw [pk_un e]; exact hw.2 k (by omega)
      rcases rowc i with ⟨c1', c2'⟩ | ⟨j, q1, q2, q3, q4⟩
      · rw [c2'] at step
        exact ⟨fun q => absurd c1' q, fun _ => step⟩
      · rw [q4] at step
        refine ⟨fun _ => ?_, fun q => absurd q q2⟩
        rw [q3, uM_of0 (by omega), e8]
        exact step
  · intro r i v' hi hv ih
    have hL' : LA v' 21 (v 8) n m := LA_c hL hn hm (fun c _ _ _ _ => hv.1 c (by omega))
    rw [w_X3_show_10, hL'.sz, h4]
    refine br_f (nI_ge hi (by omega)) (uC_holder hL' hn ?_)
    rw [nI_succ] at ih
    have step : ∀ s2 : Int32, vp_nar .byte ((s2).toInt8.toInt32) = lnS (v 8) n t i → w_X3_show_60 (okI g (B + 99) (w_X4_show t)) (exI g (B + 99) (w_X4_show t) [(eIA, 1)]) (w_X3_show_10 _ _ r) t (nI i) (nI i) s2 v' := fun s2 hs => by
      refine ⟨vp_in_nI (by omega) (by decide), nm_e ?_⟩
      rw [show ix (nI i) = i from nI_clamp (by omega), hs]
      refine ih _ ⟨fun c hc => by rw [up2_off _ _ _ hc]; exact hv.1 c hc, fun k hk => ?_⟩
      rw [up2_row]
      by_cases e : k = i
      · subst e; exact pk_us
      · rw [pk_un e]; exact hv.2 k (by omega)
    rcases rowc i with ⟨c1', c2'⟩ | ⟨j, q1, q2, q3, q4⟩
    · exact ⟨fun q => absurd c1' q, fun _ => step 46 (by rw [c2']; decide)⟩
    · refine ⟨fun _ => ?_, fun q => absurd q q2⟩
      rw [q3, nx_ix q1 hn, hL'.bk q1 0 (by omega)]
      refine ⟨nx_in q1 hn, step _ ?_⟩
      rw [q4]
      obtain ⟨o, ho, eo⟩ := hO.1.ow j q1
      rw [eo]
      exact ln_nar o (by omega)
end AP
