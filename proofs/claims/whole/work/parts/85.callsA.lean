/-! CALLS 1: errors, the text, owners added, settings, counts, owners told -/
theorem mm1 {α : Type} {a : α} {l : List α} : a ∈ a :: l := List.mem_cons_self
theorem mm2 {α : Type} {a b : α} {l : List α} : b ∈ a :: b :: l := List.mem_cons_of_mem _ List.mem_cons_self
theorem mm3 {α : Type} {a b c : α} {l : List α} : c ∈ a :: b :: c :: l := List.mem_cons_of_mem _ (List.mem_cons_of_mem _ List.mem_cons_self)
theorem nt1 {A B : Prop} (a : A) : (¬ (1 : Int32) = 0 → A) ∧ ((1 : Int32) = 0 → B) := ⟨fun _ => a, fun q => absurd q (by decide)⟩
theorem nt0 {A B : Prop} (b : B) : (¬ (0 : Int32) = 0 → A) ∧ ((0 : Int32) = 0 → B) := ⟨fun q => absurd rfl q, fun _ => b⟩
theorem zt1 {A B : Prop} (b : B) : ((1 : Int32) = 0 → A) ∧ (¬ (1 : Int32) = 0 → B) := ⟨fun q => absurd q (by decide), fun _ => b⟩
theorem zt0 {A B : Prop} (a : A) : ((0 : Int32) = 0 → A) ∧ (¬ (0 : Int32) = 0 → B) := ⟨fun _ => a, fun q => absurd rfl q⟩
theorem ntc {c A B : Prop} (a : ¬ c → A) (b : c → B) : (¬ c → A) ∧ (c → B) := ⟨a, b⟩
theorem RS_gen {v w : V3} {g : Nat} {B : Int} (h : RS v g B) (hT : ∃ T, TX w T) (hE : w 7 19 = w 0 2 ∧ w 7 20 = w 0 3) (hl : LN w) (k : ∀ c, (c = 3 ∨ (10 < c ∧ c < 16) ∨ 129 ≤ c) → w c = v c) : RS w g B := by
  obtain ⟨-, -, -, ⟨s0, s1, sg⟩, hM, hB⟩ := h
  have sk : ∀ c, (c = 3 ∨ c = 11 ∨ c = 12 ∨ 129 ≤ c) → w c = v c := fun c hc => k c (by omega)
  refine ⟨hT, hE, hl, ⟨SV1_k sk s0, SV1_k sk s1, ?_⟩, ?_, hB⟩
  · unfold SVg; rw [k 3 (by omega)]; exact sg
  · unfold MK; rw [k 13 (by omega), k 14 (by omega), k 15 (by omega)]; exact hM
/-- a call that changes no state -/
theorem fin0 {v v1 v2 w : V3} {g : Nat} {B : Int} (hI : IV v g B) (hB : B + 99 ≤ 900000) (F : Fc v v1) (hL : ∀ n m, LA v 21 (v 8) n m → n ≤ 40 → m ≤ 8 → LA v1 21 (v 8) n m) (e9 : Eq9 v1 v2) (hM : Md (up2 v2 7 11 0) w) (h8 : w 8 = v 8) : w 7 11 = 0 ∧ IVo v2 w g (B + 99) := by
  obtain ⟨⟨n, m, S, h, hO, hD⟩, hR⟩ := hI
  exact fin2 hR hB hD F (hL n m h hO.1.n40 hO.1.m8) e9 hM h8 (OK_B hO (by omega))
theorem same {v : V3} : ∀ n m, LA v 21 (v 8) n m → n ≤ 40 → m ≤ 8 → LA v 21 (v 8) n m := fun _ _ h _ _ => h
section CA
variable {v : V3} {g : Nat} {B : Int}
theorem ca_errorCode (h : IV v g B) (hB : B + 99 ≤ 900000) : w_X3_errorCode v (okI g (B + 99) w_X4_errorCode) := by
  intro v1 e9
  refine mst (Fc_r v) e9 (fun w h8 M hj => ?_)
  have f := fin0 h hB (Fc_r v) same e9 M h8
  exact ⟨f.1, (hj 19 (by decide)).trans h.2.2.1.1, f.2⟩
theorem ca_errorPosition (h : IV v g B) (hB : B + 99 ≤ 900000) : w_X3_errorPosition v (okI g (B + 99) w_X4_errorPosition) := by
  intro v1 e9
  refine mst (Fc_r v) e9 (fun w h8 M hj => ?_)
  have f := fin0 h hB (Fc_r v) same e9 M h8
  exact ⟨f.1, (hj 20 (by decide)).trans h.2.2.1.2, f.2⟩
theorem ti_nonneg {x : Int32} (h : ¬ x < 0) : 0 ≤ x.toInt := by
  have := Int32.not_lt.mp h
  rw [ti_le] at this
  exact this
/-- the text changes -/
theorem IV_tx {w : V3} {T : Nat} (h : IV v g B) (hB : B + 99 ≤ 900000) (hc : ∀ c, c ≠ 0 → c ≠ 1 → c ≠ 7 → c ≠ 16 → c ≠ 19 → c ≠ 20 → w c = v c) (h0 : ∀ j, j ≠ 1 → w 0 j = v 0 j) (h7 : ∀ j, j ≠ 11 → j ≠ 13 → w 7 j = v 7 j) (hT : TX w T) : IV w g (B + 99) := by
  obtain ⟨⟨n, m, S, hL, hO, hD⟩, hR⟩ := h
  have hR2 := hR
  obtain ⟨-, hE, ⟨K, k1, k2, k3, k4⟩, -, -, hB0⟩ := hR
  have e8 := hc 8 (by decide) (by decide) (by decide) (by decide) (by decide) (by decide)
  refine ⟨⟨n, m, S, ?_, by rw [e8]; exact OK_B hO (by omega), ?_⟩, RS_B (RS_gen hR2 ⟨T, hT⟩ ?_ ⟨K, k1, ?_, ?_, ?_⟩ (fun c q => hc c (by omega) (by omega) (by omega) (by omega) (by omega) (by omega))) (by omega)⟩
  · rw [e8]; exact LA_c hL hO.1.n40 hO.1.m8 (fun c _ _ _ _ => hc c (by omega) (by omega) (by omega) (by omega) (by omega) (by omega))
  · unfold DR DE
    rw [h0 9 (by decide), h0 10 (by decide), h0 11 (by decide), h7 8 (by decide) (by decide), h7 9 (by decide) (by decide), h7 10 (by decide) (by decide)]
    exact hD
  · rw [h0 2 (by decide), h0 3 (by decide), h7 19 (by decide) (by decide), h7 20 (by decide) (by decide)]; exact hE
  · rw [h0 13 (by decide)]; exact k2
  · rw [h7 33 (by decide) (by decide)]; exact k3
  · rw [hc 2 (by decide) (by decide) (by decide) (by decide) (by decide) (by decide), hc 18 (by decide) (by decide) (by decide) (by decide) (by decide) (by decide)]; exact k4
theorem ca_truncateText (h : IV v g B) (hB : B + 99 ≤ 900000) (a : Int32) : w_X3_truncateText a v (exI g (B + 99) (w_X4_truncateText a) [(eIA, 1)]) (okI g (B + 99) (w_X4_truncateText a)) := by
  obtain ⟨T, ⟨t1, t2, t3⟩, t4⟩ := h.2.1
  refine uN_within (fun h1 h2 => nm_e ?_) (fun h0 => ⟨1, mm1, fun v1 e9 => mst (Fc_r v) e9 (fun w h8 M hj => ?_)⟩)
  · rw [t1] at h2
    obtain ⟨k, hk, rfl⟩ := nI_of h1
    have hkT : k ≤ T := by
      rcases Nat.lt_or_ge T k with q | q
      · exact absurd (nI_lt q hk) h2
      · exact q
    intro v1 e9
    refine nm_e ?_
    have e13 : (up2 v1 7 11 0) 7 13 = nI T := by
      rw [up2_row, pk_un (by decide), e9 7 (by decide) (by decide), up2_off _ _ _ (by decide)]; exact t2
    refine uM_btw (lo := 0) (hi := nI T) rfl (by rw [e13]) (fun p q => nt1 (nm_e ?_)) (fun p => ?_)
    · rw [up2_row, pk_us]
      have r0 : up2 v 0 1 (nI k) 0 1 = nI k := by rw [up2_row, pk_us]
      refine ⟨?_, ?_, ?_, by rw [up2_off _ _ _ (by decide), up2_off _ _ _ (by decide)], by rw [up2_off _ _ _ (by decide), up2_off _ _ _ (by decide)]⟩
      · rw [up2_row, pk_un (by decide), up2_row, pk_us]
      · exact r0.symm
      · refine IV_tx h hB (T := k) (fun c c0 c1 c7 c16 c19 c20 => ?_) (fun j hj => ?_) (fun j j1 j2 => ?_) ⟨⟨?_, ?_, by omega⟩, fun i hi => ?_⟩
        · rw [up2_off _ _ _ c7, up2_off _ _ _ c7, e9 c c19 c20, up2_off _ _ _ c0]
        · rw [up2_off _ _ _ (by decide), up2_off _ _ _ (by decide), e9 0 (by decide) (by decide), up2_row, pk_un hj]
        · rw [up2_row, pk_un j2, up2_row, pk_un j1, e9 7 (by decide) (by decide), up2_off _ _ _ (by decide)]
        · rw [up2_off _ _ _ (by decide), up2_off _ _ _ (by decide), e9 0 (by decide) (by decide)]; exact r0
        · rw [up2_row, pk_us]
        · have x1 : up2 (up2 v1 7 11 0) 7 13 (nI k) 1 = v 1 := by rw [up2_off _ _ _ (by decide), up2_off _ _ _ (by decide), e9 1 (by decide) (by decide), up2_off _ _ _ (by decide)]
          have x2 : up2 (up2 v1 7 11 0) 7 13 (nI k) 16 = v 16 := by rw [up2_off _ _ _ (by decide), up2_off _ _ _ (by decide), e9 16 (by decide) (by decide), up2_off _ _ _ (by decide)]
          rw [x1, x2]
          exact t4 i (by omega)
    · exact absurd p (fun p => p.elim h1 h2)
  · refine uM_btw (lo := 0) (hi := v 0 1) rfl (by rw [hj 13 (by decide), t1, t2]) (fun p q => ?_) (fun p => nt0 (nm_e (finX h hB e9 M h8)))
    exact absurd h0 (fun z => z.elim p q)
/-- a byte on both sides -/
theorem ap_byte (a s : Int32) (k : Nat) (hk : k ≤ 24) (h1 : (s.toUInt32 &&& Int32.toUInt32 31).toBitVec % 32 = BitVec.ofNat 32 k) (h2 : (s &&& 31).toBitVec.smod 32 = BitVec.ofNat 32 k) : (zushr a s).toInt8 = ((a >>> (s &&& 31)) &&& 255).toInt8 := by
  apply Int8.toBitVec.inj
  rw [Int32.toBitVec_toInt8, Int32.toBitVec_toInt8, BitVec.signExtend_eq_setWidth_of_le _ (by decide), BitVec.signExtend_eq_setWidth_of_le _ (by decide)]
  apply BitVec.eq_of_getLsbD_eq
  intro i hi
  rw [BitVec.getLsbD_setWidth, BitVec.getLsbD_setWidth]
  have e1 : (zushr a s).toBitVec.getLsbD i = a.toBitVec.getLsbD (k + i) := by
    show (a.toBitVec >>> ((s.toUInt32 &&& Int32.toUInt32 31).toBitVec % 32)).getLsbD i = _
    rw [h1]
    show (a.toBitVec >>> (BitVec.ofNat 32 k).toNat).getLsbD i = _
    rw [BitVec.getLsbD_ushiftRight, BitVec.toNat_ofNat, Nat.mod_eq_of_lt (by omega)]
  have e3 : (255#32).getLsbD i = true := by
    have : ∀ j, j < 8 → (255#32).getLsbD j = true := by decide
    exact this i hi
  have e2 : ((a >>> (s &&& 31)) &&& 255).toBitVec.getLsbD i = a.toBitVec.getLsbD (k + i) := by
    show ((a.toBitVec.sshiftRight ((s &&& 31).toBitVec.smod 32).toNat) &&& 255#32).getLsbD i = _
    rw [h2, BitVec.getLsbD_and, e3, BitVec.getLsbD_sshiftRight, BitVec.toNat_ofNat, Nat.mod_eq_of_lt (by omega), if_pos (by omega), decide_eq_false (by omega)]
    simp
  rw [e1, e2]
theorem ap_rng (x : Int32) : 0 ≤ (x &&& 255).toInt ∧ (x &&& 255).toInt ≤ 255 := by
  obtain ⟨j, hj, e⟩ := pk_andE x (m := 255) 8 (by decide)
  rw [e, ti_nI (by omega)]
  omega
theorem apC_step {Q : Int32 → V3 → Prop} {X : String → V3 → Prop} {r T : Nat} {a s : Int32} {v : V3} (hT : v 0 1 = nI T) (hl : T < 800) (hs : ¬ s < 0) (K : ∀ v', v' 0 1 = nI (T + 1) → v' 1 T = (zushr a s).toInt8.toInt32 → (∀ k, k ≠ T → v' 1 k = v 1 k) → (∀ j, j ≠ 1 → v' 0 j = v 0 j) → (∀ c, c ≠ 0 → c ≠ 1 → v' c = v c) → w_X3_appendText_23 Q X r a (s + (-8)) v') : w_X3_appendText_23 Q X (r + 1) a s v := by
  rw [w_X3_appendText_23, hT]
  refine br_f hs ⟨vp_in_nI hl (by decide), nm_e (nm_e ?_)⟩
  rw [show ix (nI T) = T from nI_clamp (by omega), vp_nar_byte, up2_off _ _ _ (by decide), hT, nI_1, Int8.toInt8_toInt32]
  refine K _ ?_ ?_ (fun k hk => ?_) (fun j hj => ?_) (fun c c0 c1 => ?_)
  · rw [up2_row, pk_us]
  · rw [up2_off _ _ _ (by decide), up2_row, pk_us]
  · rw [up2_off _ _ _ (by decide), up2_row, pk_un hk]
  · rw [up2_row, pk_un hj, up2_off _ _ _ (by decide)]
  · rw [up2_off _ _ _ c0, up2_off _ _ _ c1]
theorem apM_step {Q : Int32 → V3 → Prop} {r T : Nat} {a s : Int32} {v : V3} (hT : v 7 13 = nI T) (hl : T < 800) (hs : ¬ s < 0) (K : ∀ v', v' 7 13 = nI (T + 1) → v' 16 T = (a >>> (s &&& 31)) &&& 255 → (∀ k, k ≠ T → v' 16 k = v 16 k) → (∀ j, j ≠ 13 → v' 7 j = v 7 j) → (∀ c, c ≠ 7 → c ≠ 16 → v' c = v c) → w_X4_appendText_26 Q r a (s + (-8)) v') : w_X4_appendText_26 Q (r + 1) a s v := by
  rw [w_X4_appendText_26, hT]
  refine br_f hs ⟨vp_in_nI hl (by decide), nm_e (nm_e ?_)⟩
  rw [show ix (nI T) = T from nI_clamp (by omega), up2_off _ _ _ (by decide), hT, nI_1]
  refine K _ ?_ ?_ (fun k hk => ?_) (fun j hj => ?_) (fun c c0 c1 => ?_)
  · rw [up2_row, pk_us]
  · rw [up2_off _ _ _ (by decide), up2_row, pk_us]
  · rw [up2_off _ _ _ (by decide), up2_row, pk_un hk]
  · rw [up2_row, pk_un hj, up2_off _ _ _ (by decide)]
  · rw [up2_off _ _ _ c0, up2_off _ _ _ c1]
theorem ca_appendText (h : IV v g B) (hB : B + 99 ≤ 900000) (a : Int32) : w_X3_appendText a v (exI g (B + 99) (w_X4_appendText a) [(eIS, 1)]) (okI g (B + 99) (w_X4_appendText a)) := by
  obtain ⟨T, ⟨t1, t2, t3⟩, t4⟩ := h.2.1
  have hle : v 0 1 ≤ 796 ↔ T ≤ 796 := by
    rw [t1, show (796 : Int32) = nI 796 from rfl, nI_leI (by omega) (by omega)]
  have hl8 : nI T + 4 ≤ 800 ↔ T ≤ 796 := by
    rw [show (4 : Int32) = nI 4 from rfl, nI_add, show (800 : Int32) = nI 800 from rfl, nI_leI (by omega) (by omega)]
    omega
  refine br_c (fun c => ?_) (fun c => ⟨1, mm1, fun v1 e9 => mst (Fc_r v) e9 (fun w h8 M hj => ?_)⟩)
  · have hT := hle.mp c
    refine ⟨4 + 1, apC_step t1 (by omega) (by decide) (fun u1 a1 b1 c1 d1 f1 => apC_step a1 (by omega) (by decide) (fun u2 a2 b2 c2 d2 f2 => apC_step a2 (by omega) (by decide) (fun u3 a3 b3 c3 d3 f3 => apC_step a3 (by omega) (by decide) (fun u4 a4 b4 c4 d4 f4' => ?_))))⟩
    rw [w_X3_appendText_23]
    refine br_t (by decide) ?_
    intro v1 e9
    refine nm_e ?_
    have U : ∀ c, c ≠ 0 → c ≠ 1 → u4 c = v c := fun c p q => (f4' c p q).trans ((f3 c p q).trans ((f2 c p q).trans (f1 c p q)))
    have U0 : ∀ j, j ≠ 1 → u4 0 j = v 0 j := fun j p => (d4 j p).trans ((d3 j p).trans ((d2 j p).trans (d1 j p)))
    have B0 : u4 1 T = (zushr a 24).toInt8.toInt32 := (c4 T (by omega)).trans ((c3 T (by omega)).trans ((c2 T (by omega)).trans b1))
    have B1 : u4 1 (T + 1) = (zushr a (24 + (-8))).toInt8.toInt32 := (c4 (T + 1) (by omega)).trans ((c3 (T + 1) (by omega)).trans b2)
    have B2 : u4 1 (T + 1 + 1) = (zushr a (24 + (-8) + (-8))).toInt8.toInt32 := (c4 (T + 1 + 1) (by omega)).trans b3
    have BL : ∀ k, k < T → u4 1 k = v 1 k := fun k hk => (c4 k (by omega)).trans ((c3 k (by omega)).trans ((c2 k (by omega)).trans (c1 k (by omega))))
    have r7 : (up2 v1 7 11 0) 7 13 = nI T := by rw [up2_row, pk_un (by decide), e9 7 (by decide) (by decide), U 7 (by decide) (by decide)]; exact t2
    have rj : ∀ j, j ≠ 11 → (up2 v1 7 11 0) 7 j = v 7 j := fun j p => by rw [up2_row, pk_un p, e9 7 (by decide) (by decide), U 7 (by decide) (by decide)]
    have r11 : (up2 v1 7 11 0) 7 11 = 0 := by rw [up2_row, pk_us]
    have rc : ∀ c, c ≠ 7 → c ≠ 19 → c ≠ 20 → (up2 v1 7 11 0) c = u4 c := fun c p q r => by rw [up2_off _ _ _ p, e9 c q r]
    have r19 : (up2 v1 7 11 0) 19 = v1 19 := up2_off _ _ _ (by decide)
    have r20 : (up2 v1 7 11 0) 20 = v1 20 := up2_off _ _ _ (by decide)
    generalize up2 v1 7 11 0 = w at r7 rj r11 rc r19 r20 ⊢
    rw [r7]
    refine br_t (hl8.mpr hT) ⟨4 + 1, apM_step r7 (by omega) (by decide) (fun x1 a1' b1' c1' d1' f1' => apM_step a1' (by omega) (by decide) (fun x2 a2' b2' c2' d2' f2' => apM_step a2' (by omega) (by decide) (fun x3 a3' b3' c3' d3' f3' => apM_step a3' (by omega) (by decide) (fun x4 a4' b4' c4' d4' f5' => ?_))))⟩
    rw [w_X4_appendText_26]
    refine br_t (by decide) ?_
    have V : ∀ c, c ≠ 7 → c ≠ 16 → x4 c = w c := fun c p q => (f5' c p q).trans ((f3' c p q).trans ((f2' c p q).trans (f1' c p q)))
    have V7 : ∀ j, j ≠ 13 → x4 7 j = w 7 j := fun j p => (d4' j p).trans ((d3' j p).trans ((d2' j p).trans (d1' j p)))
    have C0 : x4 16 T = (a >>> ((24 : Int32) &&& 31)) &&& 255 := (c4' T (by omega)).trans ((c3' T (by omega)).trans ((c2' T (by omega)).trans b1'))
    have C1 : x4 16 (T + 1) = (a >>> ((24 + (-8) : Int32) &&& 31)) &&& 255 := (c4' (T + 1) (by omega)).trans ((c3' (T + 1) (by omega)).trans b2')
    have C2 : x4 16 (T + 1 + 1) = (a >>> ((24 + (-8) + (-8) : Int32) &&& 31)) &&& 255 := (c4' (T + 1 + 1) (by omega)).trans b3'
    have CL : ∀ k, k < T → x4 16 k = w 16 k := fun k hk => (c4' k (by omega)).trans ((c3' k (by omega)).trans ((c2' k (by omega)).trans (c1' k (by omega))))
    have X1 : x4 1 = u4 1 := (V 1 (by decide) (by decide)).trans (rc 1 (by decide) (by decide) (by decide))
    have X0 : x4 0 = u4 0 := (V 0 (by decide) (by decide)).trans (rc 0 (by decide) (by decide) (by decide))
    refine ⟨(V7 11 (by decide)).trans r11, by rw [a4', a4], IV_tx h hB (T := T + 1 + 1 + 1 + 1) (fun c c0 c1 c7 c16 c19 c20 => ?_) (fun j p => by rw [X0]; exact U0 j p) (fun j p q => (V7 j q).trans (rj j p)) ⟨⟨by rw [X0]; exact a4, a4', by omega⟩, fun k hk => ?_⟩, (V 19 (by decide) (by decide)).trans r19, (V 20 (by decide) (by decide)).trans r20⟩
    · rw [V c c7 c16, rc c c7 c19 c20, U c c0 c1]
    · rw [X1]
      by_cases k0 : k < T
      · rw [BL k k0, CL k k0, rc 16 (by decide) (by decide) (by decide), U 16 (by decide) (by decide)]; exact t4 k k0
      · by_cases k1 : k = T
        · subst k1; rw [B0, C0, ap_byte a 24 24 (by omega) (by decide) (by decide)]; exact ⟨rfl, ap_rng _⟩
        · by_cases k2 : k = T + 1
          · subst k2; rw [B1, C1, ap_byte a (24 + (-8)) 16 (by omega) (by decide) (by decide)]; exact ⟨rfl, ap_rng _⟩
          · by_cases k3 : k = T + 1 + 1
            · subst k3; rw [B2, C2, ap_byte a (24 + (-8) + (-8)) 8 (by omega) (by decide) (by decide)]; exact ⟨rfl, ap_rng _⟩
            · obtain rfl : k = T + 1 + 1 + 1 := by omega
              rw [b4, b4', ap_byte a (24 + (-8) + (-8) + (-8)) 0 (by omega) (by decide) (by decide)]; exact ⟨rfl, ap_rng _⟩
  · have e13 : w 7 13 = nI T := by rw [hj 13 (by decide)]; exact t2
    rw [e13]
    exact br_f (fun q => c (hle.mpr (hl8.mp q))) (nm_e (finX h hB e9 M h8))
/-- another choice of rows, other settings, more owners -/
theorem Wf_re {σ σ' : Nat → Int32} {n n' m m' S : Nat} {B : Int} (h : Wf σ n m S B) (q : Nat → Nat) (hC : Cn σ' n' m') (hm : m ≤ m') (h4 : σ' 4 = σ 4) (h7 : σ' 7 = σ 7) (hg : Sg σ') (hq : ∀ j, j < n' → q j < n) (hi : ∀ j k, j < n' → k < n' → q j = q k → j = k) (hb : ∀ j, j < n' → ∀ f, f < 10 → bf σ' j f = bf σ (q j) f) : Wf σ' n' m' S B := by
  obtain ⟨⟨-, s4, s7, -⟩, hSp, hSt, hRg, hOw, hTm, hNC⟩ := h
  refine ⟨⟨hC, h4.trans s4, by rw [h7]; exact s7, hg⟩, ⟨fun j hj => ?_, hSp.2⟩, fun j hj => ?_, fun j hj => ?_, fun j hj => ?_, ⟨fun j hj hlj => ?_, hTm.2⟩, fun j k hj hkn hne l1 l2 => ?_⟩
  · rw [hb j hj 1 (by omega), hb j hj 2 (by omega)]; exact hSp.1 _ (hq j hj)
  · rw [hb j hj 7 (by omega)]; exact hSt _ (hq j hj)
  · unfold Rg; rw [hb j hj 3 (by omega), hb j hj 4 (by omega), hb j hj 5 (by omega)]; exact hRg _ (hq j hj)
  · rw [hb j hj 0 (by omega)]
    obtain ⟨o, ho, e⟩ := hOw _ (hq j hj)
    exact ⟨o, by omega, e⟩
  · rw [hb j hj 8 (by omega), hb j hj 9 (by omega)]; exact hTm.1 _ (hq j hj) ((lv_of (hb j hj 7 (by omega))).symm.trans hlj)
  · rw [hb j hj 1 (by omega), hb j hj 2 (by omega), hb j hj 8 (by omega), hb j hj 9 (by omega), hb k hkn 1 (by omega), hb k hkn 2 (by omega), hb k hkn 8 (by omega), hb k hkn 9 (by omega)]
    exact hNC _ _ (hq j hj) (hq k hkn) (fun e => hne (hi j k hj hkn e)) ((lv_of (hb j hj 7 (by omega))).symm.trans l1) ((lv_of (hb k hkn 7 (by omega))).symm.trans l2)
theorem NF_re {σ σ' : Nat → Int32} {n n' : Nat} (h : NF σ n) (q : Nat → Nat) (h7 : σ' 7 = σ 7) (hq : ∀ j, j < n' → q j < n) (hb : ∀ j, j < n' → ∀ f, f < 10 → bf σ' j f = bf σ (q j) f) (hs : ∀ i, i < n → lvB σ i = true → ∃ j, j < n' ∧ q j = i) : NF σ' n' := by
  intro i hi h0 t t1 t2 t3
  rw [h7] at t1
  rw [hb i hi 4 (by omega), hb i hi 5 (by omega)] at t2 t3
  rw [hb i hi 1 (by omega), hb i hi 2 (by omega), hb i hi 3 (by omega)]
  obtain ⟨j, hj, a, s, c, d⟩ := h _ (hq i hi) ((hb i hi 7 (by omega)).symm.trans h0) t t1 t2 t3
  obtain ⟨k, hk, rfl⟩ := hs j hj a
  refine ⟨k, hk, (lv_of (hb k hk 7 (by omega))).trans a, ?_, ?_, ?_⟩
  · unfold spB; rw [hb k hk 1 (by omega), hb k hk 2 (by omega)]; exact s
  · rw [hb k hk 8 (by omega)]; exact c
  · rw [hb k hk 9 (by omega)]; exact d
theorem Sg_u {σ : Nat → Int32} {k : Nat} {x : Int32} (h : Sg σ) (hk : k < 4) (h1 : ¬ x < f4 0 0 1 1 k) (h2 : ¬ f4 50 99 9 9 k < x) : Sg (upd σ k x) := by
  rw [ti_lt] at h1 h2
  obtain ⟨a, b, c, d⟩ := h
  match k, hk with
  | 0, _ =>
    have e1 : (f4 0 0 1 1 0).toInt = 0 := rfl
    have e2 : (f4 50 99 9 9 0).toInt = 50 := rfl
    unfold Sg; rw [pk_us, pk_un (by decide), pk_un (by decide), pk_un (by decide)]; exact ⟨by omega, b, c, d⟩
  | 1, _ =>
    have e1 : (f4 0 0 1 1 1).toInt = 0 := rfl
    have e2 : (f4 50 99 9 9 1).toInt = 99 := rfl
    unfold Sg; rw [pk_us, pk_un (by decide), pk_un (by decide), pk_un (by decide)]; exact ⟨a, by omega, c, d⟩
  | 2, _ =>
    have e1 : (f4 0 0 1 1 2).toInt = 1 := rfl
    have e2 : (f4 50 99 9 9 2).toInt = 9 := rfl
    unfold Sg; rw [pk_us, pk_un (by decide), pk_un (by decide), pk_un (by decide)]; exact ⟨a, b, by omega, d⟩
  | 3, _ =>
    have e1 : (f4 0 0 1 1 3).toInt = 1 := rfl
    have e2 : (f4 50 99 9 9 3).toInt = 9 := rfl
    unfold Sg; rw [pk_us, pk_un (by decide), pk_un (by decide), pk_un (by decide)]; exact ⟨a, b, c, by omega⟩
theorem le_of_nlt {a : Int32} {N : Nat} (hN : N < 2147483648) (h1 : ¬ a < 0) (h2 : ¬ nI N < a) : ∃ k : Nat, k ≤ N ∧ a = nI k := by
  obtain ⟨k, hk, rfl⟩ := nI_of h1
  refine ⟨k, ?_, rfl⟩
  rcases Nat.lt_or_ge N k with q | q
  · exact absurd (nI_lt q hk) h2
  · exact q
theorem ca_set (h : IV v g B) (hB : B + 99 ≤ 900000) (a1 a2 : Int32) : w_X3_set a1 a2 v (exI g (B + 99) (w_X4_set a1 a2) [(eIA, 1)]) (okI g (B + 99) (w_X4_set a1 a2)) := by
  obtain ⟨⟨n, m, S, hL, hO, hD⟩, hR⟩ := id h
  have hK := hR.2.2.2.2.1
  refine uN_within (fun h1 h2 => ?_) (fun h0 => ⟨1, mm1, fun v1 e9 => mst (Fc_r v) e9 (fun w h8 M hj => ?_)⟩)
  · obtain ⟨k, hk, rfl⟩ := le_of_nlt (N := 3) (by omega) h1 h2
    have hk4 : vp_in (nI k) 4 := vp_in_nI (by omega) (by decide)
    have ek : ix (nI k) = k := nI_clamp (by omega)
    refine ⟨hk4, hk4, ?_⟩
    rw [ek]
    have mk : ∀ w : V3, w 14 = v 14 → w 15 = v 15 → w 14 k = f4 0 0 1 1 k ∧ w 15 k = f4 50 99 9 9 k := fun w p q => by rw [p, q]; exact (hK k (by omega)).2
    refine uN_within (fun p1 p2 => ⟨hk4, hk4, nm_e ?_⟩) (fun p0 => ⟨1, mm1, fun v1 e9 => mst (Fc_r v) e9 (fun w h8 M hj => ?_)⟩)
    · intro v1 e9
      have F : Fc v (up2 v (21 + 1) k a2) := Fc_1 (b := 21 + 1) (fun c hc => up2_off _ _ _ hc) (by omega) (by omega)
      refine mst F e9 (fun w h8 M hj => ?_)
      have kp := Kp_t (Kp_t (Kp_c F) (Kp_9 e9)) (Kp_m M)
      obtain ⟨q1, q2⟩ := mk w (kp.1 14 (by unfold kc; omega)) (kp.1 15 (by unfold kc; omega))
      refine uM_btw (lo := 0) (hi := nI 3) rfl rfl (fun _ _ => zt1 ⟨hk4, hk4, ?_⟩) (fun p => absurd p (fun p => p.elim h1 h2))
      rw [ek, q1, q2]
      refine uM_btw rfl rfl (fun _ _ => nt1 ⟨vp_in_nI (by omega) (by decide), vp_in_nI (by omega) (by decide), nm_e ?_⟩) (fun p => absurd p (fun p => p.elim p1 p2))
      have hL2 := LA_s hL hO.1.n40 hO.1.m8 (k := k) (x := a2) (by omega)
      have eb : ∀ j f, bf (upd (v 8) k a2) j f = bf (v 8) j f := fun j f => bf_sc (by omega)
      have W2 : Wf (upd (v 8) k a2) n m S B := Wf_re hO.1 id ⟨(pk_un (by omega)).trans hO.1.cn.1, hO.1.cn.2.1, (pk_un (by omega)).trans hO.1.cn.2.2.1, hO.1.cn.2.2.2⟩ (Nat.le_refl m) (pk_un (by omega)) (pk_un (by omega)) (Sg_u hO.1.sg (by omega) p1 p2) (fun j hj => hj) (fun j k _ _ e => e) (fun j _ f _ => eb j f)
      have N2 : NF (upd (v 8) k a2) n := NF_e hO.2.1 (by rw [pk_un (by omega)]; exact Int.le_refl _) (fun j _ f _ => eb j f)
      have f := fin2 hR hB hD F hL2 e9 (Md_8 (w' := up2 w 8 k a2) M (fun c hc => up2_off _ _ _ hc)) (by rw [up2_8, h8]) (OK_B ⟨W2, N2, by rw [pk_un (by omega)]; exact hO.2.2⟩ (by have := hR.2.2.2.2.2; omega))
      refine ⟨f.1, ?_, f.2⟩
      rw [h8]
      exact (hL.st (by omega)).symm
    · have kp := Kp_t (Kp_9 e9) (Kp_m M)
      obtain ⟨q1, q2⟩ := mk w (kp.1 14 (by unfold kc; omega)) (kp.1 15 (by unfold kc; omega))
      refine uM_btw (lo := 0) (hi := nI 3) rfl rfl (fun _ _ => zt1 ⟨hk4, hk4, ?_⟩) (fun p => absurd p (fun p => p.elim h1 h2))
      rw [ek, q1, q2]
      exact uM_btw rfl rfl (fun u1 u2 => absurd p0 (fun p => p.elim u1 u2)) (fun _ => nt0 (nm_e (finX h hB e9 M h8)))
  · exact uM_btw (lo := 0) (hi := nI 3) rfl rfl (fun u1 u2 => absurd h0 (fun p => p.elim u1 u2)) (fun _ => zt0 (nm_e (finX h hB e9 M h8)))
end CA
