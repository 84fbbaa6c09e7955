/-! CALLS 7: pass, ahead, waitsFor, show -/
/-- both are through, the states agree -/
theorem fin2A {v v1 v2 w : V3} {g n m S : Nat} {B : Int} {σ : Nat → Int32} (hR : RS v g B) (hB : B + 99 ≤ 900000) (hD : DR v S) (F : Fc v v1) (hL : LA v1 21 σ n m) (e9 : Eq9 v1 v2) (hM : Md (up2 v2 7 11 0) w) (h8 : Ag σ (w 8)) (hO : OK σ n m S (B + 99)) : w 7 11 = 0 ∧ IVo v2 w g (B + 99) := by
  have hn := hO.1.n40
  have hm := hO.1.m8
  refine ⟨md11 hM, fin_k hR hB (Kp_t (Kp_t (Kp_c F) (Kp_9 e9)) (Kp_m hM)) (n := n) (m := m) ?_ ?_ hD, Md_o hM⟩
  · exact LA_e (LA_m hL hn hm e9 hM) (fun k hk _ _ => h8 k (by omega)) (fun o ho f hf => h8.og (by omega) hf) (fun i hi f hf => h8.bf (by omega) hf)
  · exact ⟨Wf_e hO.1 (fun k hk => h8 k (by omega)) (fun j hj f hf => h8.bf (by omega) hf), NF_e hO.2.1 (by rw [h8 7 (by omega)]; exact Int.le_refl _) (fun j hj f hf => h8.bf (by omega) hf), by rw [h8 7 (by omega)]; exact hO.2.2⟩
section CG
variable {v : V3} {g : Nat} {B : Int}
theorem ca_pass (h : IV v g B) (hB : B + 99 ≤ 900000) (a : Int32) : w_X3_pass a v (exI g (B + 99) (w_X4_pass a) [(eIA, 1), (eIS, 2)]) (okI g (B + 99) (w_X4_pass a)) := by
  obtain ⟨⟨n, m, S, hL, hO, hD⟩, hR⟩ := id h
  have hn := hO.1.n40
  have hm := hO.1.m8
  have t0 := hO.1.t0
  have t1 := hO.2.2
  have hB0 := hR.2.2.2.2.2
  refine uN_within (fun h1 h2 => ?_) (fun h0 => ⟨1, mm1, fun v1 e9 => mst (Fc_r v) e9 (fun w h8 M hj => uM_btw (lo := 1) (hi := 200) rfl rfl (fun p1 p2 => absurd h0 (fun z => z.elim p1 p2)) (fun _ => nt0 (nm_e (finX h hB e9 M h8))))⟩)
  obtain ⟨K, hK, rfl⟩ := nI_of (x := a) (fun c => h1 (by rw [ti_lt, zero_I] at c; rw [ti_lt, one_I]; omega))
  have b1 := h1
  have b2 := h2
  rw [ti_lt, ti_nI hK, one_I] at b1
  rw [ti_lt, ti_nI hK, show (200 : Int32).toInt = 200 from rfl] at b2
  rw [hL.tm]
  have c1 : v 8 7 ≤ 20000 - nI K ↔ (v 8 7).toInt + K ≤ 20000 := by
    have e : (20000 - nI K : Int32).toInt = 20000 - (K : Int) := by
      rw [ti_sub (by rw [ti_nI hK, show (20000 : Int32).toInt = 20000 from rfl]; omega) (by rw [ti_nI hK, show (20000 : Int32).toInt = 20000 from rfl]; omega), ti_nI hK]; rfl
    rw [ti_le, e]; omega
  have c2 : v 8 7 + nI K ≤ 20000 ↔ (v 8 7).toInt + K ≤ 20000 := by
    rw [ti_le, ti_add (by rw [ti_nI hK]; omega) (by rw [ti_nI hK]; omega), ti_nI hK, show (20000 : Int32).toInt = 20000 from rfl]
  refine br_c (fun c => ?_) (fun c => ⟨2, mm2, fun v1 e9 => mst (Fc_r v) e9 (fun w h8 M hj => uM_btw (lo := 1) (hi := 200) rfl rfl (fun _ _ => nt1 ?_) (fun p => absurd p (fun z => z.elim h1 h2)))⟩)
  · have ht := c1.mp c
    have inv := tkN_inv (n := n) (m := m) (S := S) (B := B) (k := K) (t := (v 8 7).toInt) (a := (v 8, fun _ => 0)) (by omega) (by omega) ⟨hO.1, hO.2.1, rfl⟩
    refine uC_ticks (x := 0) hL hO.1 hO.2.1 (by omega) (by omega) (by omega) (by omega) (fun v' hL' hF' => ?_)
    intro v1 e9
    refine mst (Fc_L hF') e9 (fun w h8 M hj => uM_btw (lo := 1) (hi := 200) rfl rfl (fun _ _ => nt1 ?_) (fun p => absurd p (fun z => z.elim h1 h2)))
    rw [h8]
    refine br_t (c2.mpr ht) ?_
    refine uM_ticks (n := n) (m := m) (S := S) (B := B) (by rw [h8]; exact hO.1) (by rw [h8]; exact hO.2.1) (by omega) (by rw [h8]; omega) (by omega) (fun w2 q1 q2 q3 => ?_)
    rw [h8] at q1 q2
    have f := fin2 hR hB hD (Fc_L hF') hL' e9 (Md_F M q3) q1 (OK_B (n := n) (m := m) (S := S) (B := B) ⟨inv.1, inv.2.1, by rw [inv.2.2]; omega⟩ (by omega))
    exact ⟨f.1, q2.1, f.2⟩
  · rw [h8]
    exact br_f (fun q => c (c1.mpr (c2.mp q))) (nm_e (finX h hB e9 M h8))
theorem ca_ahead (h : IV v g B) (hB : B + 99 ≤ 900000) (a1 a2 : Int32) : w_X3_ahead a1 a2 v (exI g (B + 99) (w_X4_ahead a1 a2) [(eIA, 1)]) (okI g (B + 99) (w_X4_ahead a1 a2)) := by
  obtain ⟨⟨n, m, S, hL, hO, hD⟩, hR⟩ := id h
  have hn := hO.1.n40
  have hm := hO.1.m8
  have t0 := hO.1.t0
  have t1 := hO.2.2
  have hB0 := hR.2.2.2.2.2
  refine uN_within (fun h1 h2 => ?_) (fun h0 => ⟨1, mm1, fun v1 e9 => mst (Fc_r v) e9 (fun w h8 M hj => uM_btw (lo := 1) (hi := 200) rfl rfl (fun p1 p2 => absurd h0 (fun z => z.elim p1 p2)) (fun _ => zt0 (nm_e (finX h hB e9 M h8))))⟩)
  refine uN_within (fun h3 h4 => ?_) (fun h0 => ⟨1, mm1, fun v1 e9 => mst (Fc_r v) e9 (fun w h8 M hj => uM_btw (lo := 1) (hi := 200) rfl rfl (fun _ _ => zt1 (uM_btw (lo := 0) (hi := 3) rfl rfl (fun p1 p2 => absurd h0 (fun z => z.elim p1 p2)) (fun _ => nt0 (nm_e (finX h hB e9 M h8))))) (fun p => absurd p (fun z => z.elim h1 h2)))⟩)
  obtain ⟨K, hK, rfl⟩ := nI_of (x := a1) (fun c => h1 (by rw [ti_lt, zero_I] at c; rw [ti_lt, one_I]; omega))
  obtain ⟨x, hx, rfl⟩ := le_of_nlt (N := 3) (by omega) h3 h4
  have b1 := h1
  have b2 := h2
  rw [ti_lt, ti_nI hK, one_I] at b1
  rw [ti_lt, ti_nI hK, show (200 : Int32).toInt = 200 from rfl] at b2
  refine uC_copy (b := 75) hL hn hm (by omega) (fun v3 hL3 hF3 => ?_)
  refine uC_ticks (x := x) hL3 hO.1 hO.2.1 (by omega) (by omega) (by omega) (by omega) (fun v4 hL4 hF4 => ?_)
  have hF := Fr_t hF3 hF4
  have hL21 := LA_fr hL hn hm hF (by omega)
  intro v1 e9
  refine mst (Fc_L2 hF) e9 (fun w h8 M hj => uM_btw (lo := 1) (hi := 200) rfl rfl (fun _ _ => zt1 (uM_btw (lo := 0) (hi := nI 3) rfl rfl (fun _ _ => nt1 ?_) (fun p => absurd p (fun z => z.elim h3 h4)))) (fun p => absurd p (fun z => z.elim h1 h2)))
  refine uM_copy (d1 := 0) (d2 := 0) (by decide) (by omega) (by omega) (by omega) (fun w1 q1 q2 q3 => ?_)
  have h81 : w1 8 = v 8 := (q3 8 (by decide)).trans h8
  refine uM_ticks (n := n) (m := m) (S := S) (B := B) (by rw [h81]; exact hO.1) (by rw [h81]; exact hO.2.1) (by omega) (by rw [h81]; omega) (by omega) (fun w2 r1 r2 r3 => ?_)
  rw [h81] at r2
  refine uM_copy (d1 := 0) (d2 := 0) (by decide) (by omega) (by omega) (by omega) (fun w3 s1 s2 s3 => ?_)
  have M1 : Md (up2 v1 7 11 0) w1 := Md_g M (fun c _ _ c10 _ => q3 c c10) (fun j _ => by rw [q3 7 (by decide)])
  have M3 : Md (up2 v1 7 11 0) w3 := Md_8 (Md_F M1 r3) s3
  have ag : Ag (v 8) (w3 8) := fun k hk => by
    have z := s1 k hk
    rw [Nat.zero_add] at z
    rw [z, r3.1 10 (by decide) (by decide) (by decide)]
    have y := q1 k hk
    rw [Nat.zero_add] at y
    rw [y, h8]
  have f := fin2A hR hB hD (Fc_L2 hF) hL21 e9 M3 ag (OK_B hO (by omega))
  have e7 : w3 7 = w2 7 := s3 7 (by decide)
  refine ⟨fun c0 => ⟨fun c1 => ⟨fun c2 => ⟨f.1, ?_, f.2⟩, fun c2 => ⟨f.1, ?_, f.2⟩⟩, fun c1 => ⟨f.1, ?_, f.2⟩⟩, fun c0 => ⟨f.1, ?_, f.2⟩⟩
  · have y0 : x ≠ 0 := fun q => c0 (by rw [q]; rfl)
    have y1 : x ≠ 1 := fun q => c1 (by rw [q]; rfl)
    have y2 : x ≠ 2 := fun q => c2 (by rw [q]; rfl)
    obtain rfl : x = 3 := by omega
    rw [e7]; exact r2.2.2.2
  · have : x = 2 := (nI_eq (b := 2) (by omega) (by omega)).mp c2
    subst this
    rw [e7]; exact r2.2.2.1
  · have : x = 1 := (nI_eq (b := 1) (by omega) (by omega)).mp c1
    subst this
    rw [e7]; exact r2.2.1
  · have : x = 0 := (nI_eq (b := 0) (by omega) (by omega)).mp c0
    subst this
    rw [e7]; exact r2.1
/-- a tick of the state alone -/
def stp (n : Nat) (σ : Nat → Int32) : Nat → Int32 := (tickS n (σ, fun _ => 0)).1
theorem stp_t (n : Nat) (σ τ : Nat → Int32) : (tickS n (σ, τ)).1 = stp n σ := by
  unfold stp
  rw [tick_1, tick_1, plc_1, plc_1]
def stN (n : Nat) (σ : Nat → Int32) : Nat → (Nat → Int32)
  | 0 => σ
  | k + 1 => stp n (stN n σ k)
theorem stN_ok {n m S : Nat} {B : Int} {σ : Nat → Int32} (hB : 10300 ≤ B) (h : Wf σ n m S B) (hN : NF σ n) : ∀ k : Nat, (σ 7).toInt + k ≤ 20200 → Wf (stN n σ k) n m S B ∧ NF (stN n σ k) n ∧ (stN n σ k 7).toInt = (σ 7).toInt + k
  | 0, _ => ⟨h, hN, by show (σ 7).toInt = _; omega⟩
  | k + 1, hk => by
    have ih := stN_ok hB h hN k (by omega)
    have p := tk_step (a := (stN n σ k, fun _ => 0)) (t := (σ 7).toInt + k) hB (by omega) ih
    exact ⟨p.1, p.2.1, by have := p.2.2; show ((tickS n (stN n σ k, fun _ => 0)).1 7).toInt = _; omega⟩
theorem ca_waitsFor (h : IV v g B) (hB : B + 99 ≤ 900000) (a1 a2 : Int32) : w_X3_waitsFor a1 a2 v (exI g (B + 99) (w_X4_waitsFor a1 a2) [(eIO, 1), (eIA, 2)]) (okI g (B + 99) (w_X4_waitsFor a1 a2)) := by
  obtain ⟨⟨n, m, S, hL, hO, hD⟩, hR⟩ := id h
  have hn := hO.1.n40
  have hm := hO.1.m8
  have hC := hO.1.cn
  have t0 := hO.1.t0
  have t1 := hO.2.2
  have hB0 := hR.2.2.2.2.2
  have is1 : ∀ {w : V3} {Q : Int32 → V3 → Prop} {i : Nat}, i < n → w 8 = v 8 → Q 1 w → w_X4_isBooking (nI i) w Q := fun hi h8 hq => uM_isBooking (n := n) (m := m) (by rw [h8]; exact hC) (fun _ _ _ => hq) (fun p => absurd p (fun z => z.elim (nI_pos (by omega)) (nI_ge hi (by omega))))
  refine uN_booking hL (fun i hi e1 => ?_) hn (fun h0 => ⟨1, mm1, fun v1 e9 => mst (Fc_r v) e9 (fun w h8 M hj => uM_isBooking (n := n) (m := m) (by rw [h8]; exact hC) (fun k hk e => by
    subst e
    exact absurd h0 (fun z => z.elim (nI_pos (by omega)) (nI_ge hk (by omega)))) (fun _ => nt0 (nm_e (finX h hB e9 M h8))))⟩)
  subst e1
  refine uN_within (fun h1 h2 => ?_) (fun h0 => ⟨2, mm2, fun v1 e9 => mst (Fc_r v) e9 (fun w h8 M hj => is1 hi h8 (nt1 (uM_btw (lo := 1) (hi := 200) rfl rfl (fun p1 p2 => absurd h0 (fun z => z.elim p1 p2)) (fun _ => nt0 (nm_e (finX h hB e9 M h8))))))⟩)
  obtain ⟨K, hK, rfl⟩ := nI_of (x := a2) (fun c => h1 (by rw [ti_lt, zero_I] at c; rw [ti_lt, one_I]; omega))
  have b1 := h1
  have b2 := h2
  rw [ti_lt, ti_nI hK, one_I] at b1
  rw [ti_lt, ti_nI hK, show (200 : Int32).toInt = 200 from rfl] at b2
  have hi4 : i < 40 := by omega
  have SN := stN_ok (B := B) (by omega) hO.1 hO.2.1
  -- the reference
  have rf : ∀ (x : Int32) (v' : V3), Fc v v' → LA v' 21 (v 8) n m → (∀ t, t ≤ K → ¬ bf (stN n (v 8) t) i 7 = 0 → (∀ s, s < t → bf (stN n (v 8) s) i 7 = 0) → x = nI t) → ((∀ t, t ≤ K → bf (stN n (v 8) t) i 7 = 0) → x = -1) → okI g (B + 99) (w_X4_waitsFor (nI i) (nI K)) x v' := by
    intro x v' F hL' x1 x0 v1 e9
    refine mst F e9 (fun w h8 M hj => is1 hi h8 (nt1 (uM_btw (lo := 1) (hi := 200) rfl rfl (fun _ _ => nt1 ?_) (fun p => absurd p (fun z => z.elim h1 h2)))))
    refine uM_copy (d1 := 0) (d2 := 0) (by decide) (by omega) (by omega) (by omega) (fun w1 q1 q2 q3 => ?_)
    have h81 : w1 8 = v 8 := (q3 8 (by decide)).trans h8
    have M1 : Md (up2 v1 7 11 0) w1 := Md_g M (fun c _ _ c10 _ => q3 c c10) (fun j _ => by rw [q3 7 (by decide)])
    have back : ∀ (t : Nat) (w2 : V3), FMt w1 w2 → t ≤ K → w2 8 = stN n (v 8) t → (∀ s, s < t → bf (stN n (v 8) s) i 7 = 0) → (t = K ∨ ¬ bf (stN n (v 8) t) i 7 = 0) → w_X4_waitsFor_77 (fun b v2 => v2 7 11 = 0 ∧ b = x ∧ IVo v1 v2 g (B + 99)) (nI i) (nI t) w2 := by
      intro t w2 hF ht e8 hs he
      have fin2' : ∀ s0 : Int32, ((s0 = 0 → x = -1) ∧ (¬ s0 = 0 → x = nI t)) → w_X4_waitsFor_92 (fun b v2 => v2 7 11 = 0 ∧ b = x ∧ IVo v1 v2 g (B + 99)) (nI t) s0 w2 := by
        intro s0 hx
        refine uM_copy (d1 := 0) (d2 := 0) (by decide) (by omega) (by omega) (by omega) (fun w3 s1 s2 s3 => ?_)
        have M3 : Md (up2 v1 7 11 0) w3 := Md_8 (Md_F M1 hF) s3
        have ag : Ag (v 8) (w3 8) := fun k hk => by
          have z := s1 k hk
          rw [Nat.zero_add] at z
          rw [z, hF.1 10 (by decide) (by decide) (by decide)]
          have y := q1 k hk
          rw [Nat.zero_add] at y
          rw [y, h8]
        have f := fin2A hR hB hD F hL' e9 M3 ag (OK_B hO (by omega))
        exact ⟨fun c => ⟨f.1, (hx.1 c).symm, f.2⟩, fun c => ⟨f.1, (hx.2 c).symm, f.2⟩⟩
      unfold w_X4_waitsFor_77
      rw [uM_of7 hi4, e8]
      refine br_c (fun c => fin2' 0 ⟨fun _ => x0 (fun s hs' => ?_), fun q => absurd rfl q⟩) (fun c => fin2' 1 ⟨fun q => absurd q (by decide), fun _ => x1 t ht c hs⟩)
      rcases he with he | he
      · by_cases z : s < t
        · exact hs s z
        · obtain rfl : s = t := by omega
          exact c
      · exact absurd c he
    refine loop_m (W := fun r (p : Nat × V3) => w_X4_waitsFor_52 (fun b v2 => v2 7 11 = 0 ∧ b = x ∧ IVo v1 v2 g (B + 99)) r (nI i) (nI K) (nI p.1) p.2) (I := fun p => p.1 ≤ K ∧ FMt w1 p.2 ∧ p.2 8 = stN n (v 8) p.1 ∧ ∀ s, s < p.1 → bf (stN n (v 8) s) i 7 = 0) (μ := fun p => K - p.1) ?_ (0, w1) ⟨Nat.zero_le _, FMt_r w1, h81, fun s hs => absurd hs (Nat.not_lt_zero s)⟩
    intro r p hp ih
    obtain ⟨t, w2⟩ := p
    obtain ⟨ht, hF, e8, hs⟩ := hp
    simp only at ht hF e8 hs ih ⊢
    rw [w_X4_waitsFor_52]
    by_cases hKt : t = K
    · subst hKt
      exact br_t Int32.le_rfl (back t w2 hF ht e8 hs (.inl rfl))
    · refine br_f (nI_ge (by omega) (by omega)) ?_
      rw [uM_of7 hi4, e8]
      refine ntc (fun c => back t w2 hF ht e8 hs (.inr c)) (fun c => ?_)
      have sn := SN t (by omega)
      refine uM_tick (τ := fun k => if k = 0 then w2 7 25 else if k = 1 then w2 7 26 else if k = 2 then w2 7 24 else w2 7 27) (n := n) (m := m) (S := S) (B := B) ⟨rfl, rfl, rfl, rfl⟩ (by rw [e8]; exact sn.1) (by omega) (by rw [e8, sn.2.2]; omega) (fun w3 q1' q2' q3' => ?_)
      rw [e8, stp_t] at q1'
      rw [← nI_succ]
      exact ih (t + 1, w3) ⟨by show t + 1 ≤ K; omega, FMt_t hF q3', q1', fun s hs' => by
        by_cases z : s < t
        · exact hs s z
        · obtain rfl : s = t := by have : s < t + 1 := hs'; omega
          exact c⟩ (by show K - (t + 1) < K - t; omega)
  refine uC_isIn hL hn hi ?_
  by_cases w0 : bf (v 8) i 7 = 0
  · rw [if_pos w0]
    refine nt1 (uC_copy (b := 75) hL hn hm (by omega) (fun v3 hL3 hF3 => ?_))
    have z0 : ∀ s, s ≤ 0 → bf (stN n (v 8) s) i 7 = 0 := fun s hs => by
      obtain rfl : s = 0 := by omega
      exact w0
    refine loop_m (W := fun r (p : Nat × V3) => w_X3_waitsFor_40 _ _ r (nI i) (nI K) (nI (p.1 + 1)) p.2) (I := fun p => p.1 ≤ K ∧ Fr 75 v p.2 ∧ LA p.2 75 (stN n (v 8) p.1) n m ∧ ∀ s, s ≤ p.1 → bf (stN n (v 8) s) i 7 = 0) (μ := fun p => K - p.1) ?_ (0, v3) ⟨Nat.zero_le _, hF3, hL3, z0⟩
    intro r p hp ih
    obtain ⟨t, w2⟩ := p
    obtain ⟨ht, hF, hL2, hs⟩ := hp
    simp only at ht hF hL2 hs ih ⊢
    rw [w_X3_waitsFor_40]
    have l21 : ∀ w : V3, Fr 75 v w → LA w 21 (v 8) n m := fun w hw => LA_fr hL hn hm hw (by omega)
    by_cases hKt : t = K
    · subst hKt
      exact br_t (nI_lt (by omega) (by omega)) (rf (-1) w2 (Fc_L2 hF) (l21 w2 hF) (fun u hu c _ => absurd (hs u hu) c) (fun _ => rfl))
    · refine br_f (nI_nlt (by omega) (by omega)) ?_
      have sn := SN t (by omega)
      refine uC_tick (τ := fun k => w2 (75 + 4) k) hL2 (fun k _ => rfl) sn.1 sn.2.1 (by omega) (by rw [sn.2.2]; omega) (fun w3 hL4 _ hF4 => ?_)
      rw [stp_t] at hL4
      have hF5 := Fr_t hF hF4
      refine uC_isIn hL4 hn hi ?_
      by_cases c : bf (stp n (stN n (v 8) t)) i 7 = 0
      · rw [if_pos c]
        rw [← nI_succ]
        refine nt1 (ih (t + 1, w3) ⟨by show t + 1 ≤ K; omega, hF5, hL4, fun s hs' => ?_⟩ (by show K - (t + 1) < K - t; omega))
        by_cases z : s ≤ t
        · exact hs s z
        · obtain rfl : s = t + 1 := by have : s ≤ t + 1 := hs'; omega
          exact c
      · rw [if_neg c]
        refine nt0 (rf (nI (t + 1)) w3 (Fc_L2 hF5) (l21 w3 hF5) (fun u hu c' hs' => ?_) (fun hall => absurd (hall (t + 1) (by omega)) c))
        have : u = t + 1 := by
          rcases Nat.lt_trichotomy u (t + 1) with z | z | z
          · exact absurd (hs u (by omega)) c'
          · exact z
          · exact absurd (hs' (t + 1) z) c
        rw [this]
  · rw [if_neg w0]
    exact nt0 (rf 0 v (Fc_r v) hL (fun t ht c hs => by
      rcases Nat.eq_zero_or_pos t with z | z
      · rw [z]; rfl
      · exact absurd (hs 0 z) w0) (fun hall => absurd (hall 0 (Nat.zero_le _)) w0))
end CG
