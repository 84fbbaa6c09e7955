/-! restore of the class, the method of the law that catches, the law's case -/
section ZQ
variable {p : Program} {l : Launch} {e : Env} {R : Room} {s : State} {m : MethodId} {args : Array Value} {below : List Frame} {meth : Method} {c : Code} {H : Heap} {locs : List Loc} {cells slots : Nat} {Q : State → Prop}
variable {cc : ByteArray} {pc nL : Nat} {ls : Array Slot} {rest : List Value} {G : zG} {v : V3} {own : String} {ret : Option FieldType}
theorem z_qaldN (C0 : Cx G own cc nL ret p s m args meth c) (Z : Zs G s v H locs) {i : Int32} (hin : vp_in i 2) (h0 : v 3 (ix i) = 0) (hdg : decode cc pc = .ok (.aaload, 1))
    (kk : W p l e R s m args below meth c H locs cells slots Q (F0 m (pc + 1) ls (.null :: rest))) : W p l e R s m args below meth c H locs cells slots Q (F0 m pc ls (.int i :: .ref (gad G 3) :: rest)) := by
  have h3 : 3 < gn G := cx_lt C0 (by decide)
  obtain ⟨hx, hb, -, -, -, hown, hts, K, -⟩ := C0
  refine va_aldq hx hb K.1 Z.1 3 6 (WS_get h3 rfl) rfl hin hdg ?_
  rw [if_pos h0]
  exact kk
theorem z_qaldS (C0 : Cx G own cc nL ret p s m args meth c) (Z : Zs G s v H locs) {i : Int32} {b : Nat} (hin : vp_in i 2) (h0 : ¬ v 3 (ix i) = 0) (eb : 21 + 54 * ix (v 3 (ix i)) = b) (hdg : decode cc pc = .ok (.aaload, 1))
    (kk : W p l e R s m args below meth c H locs cells slots Q (F0 m (pc + 1) ls (.ref (gad G b) :: rest))) : W p l e R s m args below meth c H locs cells slots Q (F0 m pc ls (.int i :: .ref (gad G 3) :: rest)) := by
  have h3 : 3 < gn G := cx_lt C0 (by decide)
  obtain ⟨hx, hb, -, -, -, hown, hts, K, -⟩ := C0
  refine va_aldq hx hb K.1 Z.1 3 6 (WS_get h3 rfl) rfl hin hdg ?_
  rw [if_neg h0, eb]
  exact kk
end ZQ
def w_X3_restore (N : Nat) (a1 : Int32) (v : V3) (X : String → V3 → Prop) (Q : V3 → Prop) : Prop := w_X3_needWithin a1 0 1 v X (fun v1 => vp_in a1 2 ∧ ((v1 3 (ix a1) = 0 → X eIS v1) ∧ (¬ v1 3 (ix a1) = 0 → ∃ b, 21 + 54 * ix (v1 3 (ix a1)) = b ∧ (b = 129 ∨ b = 183) ∧ b + 54 ≤ N ∧ w_X1_copyFrom 21 b v1 (fun v2 => w_X3_resetDraft v2 Q))))
theorem dX3_restore_0 : decode cX3_restore 0 = .ok (.iload_n 1, 1) := by decide +kernel
theorem dX3_restore_1 : decode cX3_restore 1 = .ok (.iconst 0, 1) := by decide +kernel
theorem dX3_restore_2 : decode cX3_restore 2 = .ok (.iconst 1, 1) := by decide +kernel
theorem dX3_restore_3 : decode cX3_restore 3 = .ok (.invokestatic 77, 3) := by decide +kernel
theorem dX3_restore_6 : decode cX3_restore 6 = .ok (.aload_n 0, 1) := by decide +kernel
theorem dX3_restore_7 : decode cX3_restore 7 = .ok (.getfield 33, 3) := by decide +kernel
theorem dX3_restore_10 : decode cX3_restore 10 = .ok (.iload_n 1, 1) := by decide +kernel
theorem dX3_restore_11 : decode cX3_restore 11 = .ok (.aaload, 1) := by decide +kernel
theorem dX3_restore_12 : decode cX3_restore 12 = .ok (.astore_n 2, 1) := by decide +kernel
theorem dX3_restore_13 : decode cX3_restore 13 = .ok (.aload_n 2, 1) := by decide +kernel
theorem dX3_restore_14 : decode cX3_restore 14 = .ok (.ifnonnull 14, 3) := by decide +kernel
theorem dX3_restore_17 : decode cX3_restore 17 = .ok (.new 70, 3) := by decide +kernel
theorem dX3_restore_20 : decode cX3_restore 20 = .ok (.dup, 1) := by decide +kernel
theorem dX3_restore_21 : decode cX3_restore 21 = .ok (.ldc_w 262, 3) := by decide +kernel
theorem dX3_restore_24 : decode cX3_restore 24 = .ok (.invokespecial 74, 3) := by decide +kernel
theorem dX3_restore_27 : decode cX3_restore 27 = .ok (.athrow, 1) := by decide +kernel
theorem dX3_restore_28 : decode cX3_restore 28 = .ok (.aload_n 0, 1) := by decide +kernel
theorem dX3_restore_29 : decode cX3_restore 29 = .ok (.getfield 26, 3) := by decide +kernel
theorem dX3_restore_32 : decode cX3_restore 32 = .ok (.aload_n 2, 1) := by decide +kernel
theorem dX3_restore_33 : decode cX3_restore 33 = .ok (.invokevirtual 91, 3) := by decide +kernel
theorem dX3_restore_36 : decode cX3_restore 36 = .ok (.aload_n 0, 1) := by decide +kernel
theorem dX3_restore_37 : decode cX3_restore 37 = .ok (.invokevirtual 94, 3) := by decide +kernel
theorem dX3_restore_40 : decode cX3_restore 40 = .ok (.return_, 1) := by decide +kernel
theorem tm_1_156 : Cond.fieldLink RX3 33 RX3 (TX3 6).2.1 (TX3 6).2.2.1 ∈ tbg := tb1 156 (by decide +kernel) (by decide +kernel)
theorem tm_4_181 : Cond.methodLink RL 247 yL_restore ∈ tbg := tb4 181 (by decide +kernel) (by decide +kernel)
theorem tm_4_182 : Cond.static yL_restore ∈ tbg := tb4 182 (by decide +kernel) (by decide +kernel)
theorem tm_4_183 : Cond.codeWith yL_restore cL_restore 3 (some .int) [(0, 5, 8, 18), (0, 5, 11, 13)] ∈ tbg := tb4 183 (by decide +kernel) (by decide +kernel)
theorem tm_4_184 : Cond.methodLink RL 113 yX3_restore ∈ tbg := tb4 184 (by decide +kernel) (by decide +kernel)
theorem tm_4_185 : Cond.instanceMethod yX3_restore ∈ tbg := tb4 185 (by decide +kernel) (by decide +kernel)
theorem tm_4_186 : Cond.selects RX3 yX3_restore yX3_restore ∈ tbg := tb4 186 (by decide +kernel) (by decide +kernel)
theorem tm_4_187 : Cond.code yX3_restore cX3_restore 3 none ∈ tbg := tb4 187 (by decide +kernel) (by decide +kernel)
theorem tm_7_11 : Cond.methodLink RL 249 yX4_restore ∈ tbg := tb7 11 (by decide +kernel) (by decide +kernel)
theorem tm_7_12 : Cond.instanceMethod yX4_restore ∈ tbg := tb7 12 (by decide +kernel) (by decide +kernel)
theorem tm_7_13 : Cond.selects RX4 yX4_restore yX4_restore ∈ tbg := tb7 13 (by decide +kernel) (by decide +kernel)
theorem tm_7_14 : Cond.code yX4_restore cX4_restore 2 none ∈ tbg := tb7 14 (by decide +kernel) (by decide +kernel)
theorem gv_X3_restore {own : String} {idx : Nat} (h : Cond.methodLink own idx yX3_restore ∈ tbg) : GoodIn tbg (wsV own idx RX3 yX3_restore (.code yX3_restore cX3_restore 3 none :: tbg)) := z_goodV h tm_4_185 tm_4_186 tm_1_1 tm_4_187
theorem ds_X3_restore : dsc yX3_restore 1 := ⟨by decide +kernel, by decide +kernel, by decide +kernel⟩
theorem gv_X4_restore {own : String} {idx : Nat} (h : Cond.methodLink own idx yX4_restore ∈ tbg) : GoodIn tbg (wsV own idx RX4 yX4_restore (.code yX4_restore cX4_restore 2 none :: tbg)) := z_goodV h tm_7_12 tm_7_13 tm_1_6 tm_7_14
theorem ds_X4_restore : dsc yX4_restore 1 := ⟨by decide +kernel, by decide +kernel, by decide +kernel⟩
theorem gv_L_restore {own : String} {idx : Nat} (h : Cond.methodLink own idx yL_restore ∈ tbg) : GoodIn tbg (va_wsS own idx yL_restore (.codeWith yL_restore cL_restore 3 (some .int) [(0, 5, 8, 18), (0, 5, 11, 13)] :: tbg)) := z_goodSW h tm_4_182 tm_1_0 tm_4_183
theorem ds_L_restore : dsc yL_restore 2 := ⟨by decide +kernel, by decide +kernel, by decide +kernel⟩
set_option maxRecDepth 100000 in
set_option maxHeartbeats 4000000 in
theorem k_X3_restore (l : Launch) (hst : l.stackTraces = false) {G : zG} (hg : 129 ≤ gn G) {a1 : Int32} {v : V3} {Q : V3 → Prop} {X : String → V3 → Prop} (hw : w_X3_restore (gn G) a1 v X Q) : Mx l yX3_restore cX3_restore 3 none 7 112 2 12 G [.ref (gad G 0), .int a1] v (QvZ G Q) X := by
  rw [w_X3_restore] at hw
  refine z_xofW hg (by decide) (Nat.le_of_ble_eq_true rfl) ?_
  intro p e s m args below meth c ls C0 hT Z hl
  have hx := C0.1
  have hb := C0.2.1
  replace hl : lv_has ls 3 [(0, .ref (gad G 0)), (1, .int a1)] := hl
  generalize s.heap = H at Z ⊢
  generalize ([] : List Loc) = locs at Z ⊢
  refine lv_iload_n hx hb dX3_restore_0 rfl (lv_at hl 1 rfl) ?_
  refine lv_iconst (v := 0) hx hb dX3_restore_1 (by decide) ?_
  refine lv_iconst (v := 1) hx hb dX3_restore_2 (by decide) ?_
  refine z_xcallSv C0 hT Z hl.1 (As := [.int a1, .int 0, .int 1]) (rest := []) (k_X3_needWithin l hst (cx_g C0) hw) (gv_X3_needWithin tm_3_86) ds_X3_needWithin ⟨Nat.le_of_ble_eq_true rfl, Nat.le_of_ble_eq_true rfl⟩ rfl rfl (Nat.le_of_ble_eq_true rfl) ⟨Nat.le_of_ble_eq_true rfl, Nat.le_of_ble_eq_true rfl⟩ ⟨Nat.le_of_ble_eq_true rfl, Nat.le_of_ble_eq_true rfl⟩ dX3_restore_3 (fun v1 H locs hw Z => ?_)
  obtain ⟨h2, hw⟩ := hw
  refine lv_aload_n hx hb dX3_restore_6 rfl (lv_at hl 0 rfl) ?_
  refine z_get C0 Z in_X3 rfl 6 (by decide) rfl tm_1_156 (cx_lt C0 (by decide)) rfl rfl dX3_restore_7 ?_
  refine lv_iload_n hx hb dX3_restore_10 rfl (lv_at hl 1 rfl) ?_
  by_cases c3 : v1 3 (ix a1) = 0
  · refine z_qaldN C0 Z h2 c3 dX3_restore_11 ?_
    replace hw := hw.1 c3
    refine lv_astore_nN (lv' := [(2, .null), (0, .ref (gad G 0)), (1, .int a1)]) hx hb dX3_restore_12 rfl hl (by decide) rfl (fun ls hl => ?_)
    refine lv_aload_nN hx hb dX3_restore_13 rfl (lv_at hl 0 rfl) ?_
    refine lv_ifnonnullN hx hb dX3_restore_14 ?_
    exact z_throwSW C0 hst hT Z hl.1 eIS_fit nmE_fit tm_3_11 tm_1_10 (text := "nothing is saved there") (by decide +kernel) at_74 gd_74 dX3_restore_17 dX3_restore_20 dX3_restore_21 dX3_restore_24 dX3_restore_27 (by decide) (Nat.le_of_ble_eq_true rfl) (by decide) (by decide) hw (by decide) (by decide)
  · obtain ⟨b, eb, hb2, hbg, hw⟩ := hw.2 c3
    have hLb : isL G b := ⟨hb2.elim (fun q => .inr (.inr (.inl q))) (fun q => .inr (.inr (.inr q))), hbg⟩
    refine z_qaldS C0 Z h2 c3 eb dX3_restore_11 ?_
    refine lv_astore_n (lv' := [(2, .ref (gad G b)), (0, .ref (gad G 0)), (1, .int a1)]) hx hb dX3_restore_12 rfl hl (by decide) rfl (fun ls hl => ?_)
    refine lv_aload_n hx hb dX3_restore_13 rfl (lv_at hl 0 rfl) ?_
    refine lv_ifnonnull (tgt := 28) hx hb dX3_restore_14 (by decide) ?_
    refine lv_aload_n hx hb dX3_restore_28 rfl (lv_at hl 1 rfl) ?_
    refine z_get C0 Z in_X3 rfl 4 (by decide) rfl tm_1_154 (cx_lt C0 (by decide)) rfl rfl dX3_restore_29 ?_
    refine lv_aload_n hx hb dX3_restore_32 rfl (lv_at hl 0 rfl) ?_
    refine z_callVv C0 Z hl.1 (As := [.ref (gad G b)]) (rest := []) (k_X1_copyFrom l (cx_g C0) (isL21 (cx_g C0)) hLb hw) (gv_X1_copyFrom tm_2_137) rfl ds_X1_copyFrom ⟨Nat.le_of_ble_eq_true rfl, Nat.le_of_ble_eq_true rfl⟩ (ci := 1) rfl (isL_lt0 (isL21 (cx_g C0))) (ent_L (isL21 (cx_g C0))) rfl rfl (Nat.le_of_ble_eq_true rfl) ⟨Nat.le_of_ble_eq_true rfl, Nat.le_of_ble_eq_true rfl⟩ dX3_restore_33 (fun v7 H locs hw Z => ?_)
    refine lv_aload_n hx hb dX3_restore_36 rfl (lv_at hl 1 rfl) ?_
    refine z_callVv C0 Z hl.1 (As := []) (rest := []) (k_X3_resetDraft l (cx_g C0) hw) (gv_X3_resetDraft tm_2_141) rfl ds_X3_resetDraft ⟨Nat.le_of_ble_eq_true rfl, Nat.le_of_ble_eq_true rfl⟩ (ci := 3) rfl (cx_lt C0 (by decide)) rfl rfl rfl (Nat.le_of_ble_eq_true rfl) ⟨Nat.le_of_ble_eq_true rfl, Nat.le_of_ble_eq_true rfl⟩ dX3_restore_37 (fun v8 H locs hw Z => ?_)
    refine z_wide (mc := 2) (ms := 12) (by decide) (by decide) ?_
    exact vx_ret (z_vret C0 Z hw dX3_restore_40)
/-! restore: both sides -/
section RT
theorem OK_cg {σ σ' : Nat → Int32} {n m S : Nat} {B : Int} (h : OK σ n m S B) (e : ∀ k, k < 474 → σ' k = σ k) : OK σ' n m S B := by
  have hn := h.1.n40
  have hm := h.1.m8
  have hC := h.1.cn
  have eb : ∀ j, j < n → ∀ f, f < 10 → bf σ' j f = bf σ j f := fun j hj f hf => e _ (by omega)
  have hg := h.1.sg
  have W2 : Wf σ' n m S B := Wf_re h.1 id ⟨(e 5 (by omega)).trans hC.1, hC.2.1, (e 6 (by omega)).trans hC.2.2.1, hC.2.2.2⟩ (Nat.le_refl m) (e 4 (by omega)) (e 7 (by omega)) (by unfold Sg; rw [e 0 (by omega), e 1 (by omega), e 2 (by omega), e 3 (by omega)]; exact hg) (fun j hj => hj) (fun j k _ _ q => q) (fun j hj f hf => eb j hj f hf)
  exact ⟨W2, NF_e h.2.1 (by rw [e 7 (by omega)]; exact Int.le_refl _) eb, by rw [e 7 (by omega)]; exact h.2.2⟩
theorem LA_cg {v : V3} {b : Nat} {σ σ' : Nat → Int32} {n m : Nat} (h : LA v b σ n m) (hn : n ≤ 40) (hm : m ≤ 8) (e : ∀ k, k < 474 → σ' k = σ k) : LA v b σ' n m := by
  obtain ⟨⟨a1, a2, a3, a4, a5, a6, a7⟩, ho, hb⟩ := h
  refine ⟨⟨fun j hj => (a1 j hj).trans (e j (by omega)).symm, a2.trans (e 4 (by omega)).symm, a3.trans (e 7 (by omega)).symm, a4, a5, a6.trans (e 8 (by omega)).symm, a7.trans (e 9 (by omega)).symm⟩, fun o hom f hf => (ho o hom f hf).trans (e _ (by omega)).symm, fun i hi f hf => (hb i hi f hf).trans (e _ (by omega)).symm⟩
theorem up2_2 (v : V3) (c j : Nat) (x y : Int32) : up2 (up2 v c j x) c j y = up2 v c j y := by
  funext d i
  by_cases e : d = c
  · subst e
    rw [up2_row, up2_row, up2_row]
    by_cases q : i = j
    · subst q; rw [pk_us, pk_us]
    · rw [pk_un q, pk_un q, pk_un q]
  · rw [up2_off _ _ _ e, up2_off _ _ _ e, up2_off _ _ _ e]
variable {v : V3} {g : Nat} {B : Int}
theorem rt_err {k : Int32} (hk : ¬ k = 0) (h : IV v g B) (hB : B + 99 ≤ 900000) {y : V3} (e9 : Eq9 v y) {a : Int32} : w_X4_restore_29 (fun v2 => v2 7 11 = k ∧ IVo y v2 g (B + 99)) a k y := by
  unfold w_X4_restore_29
  refine nm_e (ntc (fun _ => ?_) (fun z => absurd z (by rw [up2_row, pk_us]; exact hk)))
  have f := finX (k := k) (w := up2 y 7 11 0) h hB e9 (Md_r _) (by rw [up2_off _ _ _ (by decide)]; exact e9 8 (by decide) (by decide))
  rw [up2_2] at f
  exact f
theorem ca_restore (h : IV v g B) (hB : B + 99 ≤ 900000) (a : Int32) : w_X3_restore g a v (exV g (B + 99) (w_X4_restore a) [(eIA, 1), (eIS, 2)]) (okV g (B + 99) (w_X4_restore a)) := by
  obtain ⟨⟨n, m, S, hL, hO, hD⟩, hR⟩ := id h
  have hR0 := hR
  obtain ⟨⟨T, hT⟩, hE7, ⟨K, k1, k2, k3, k4⟩, ⟨s0, s1, sg⟩, hM, hB0⟩ := hR
  refine uN_within (fun h1 h2 => ?_) (fun h0 => ⟨1, mm1, fun y e9 => uM_btw (lo := 0) (hi := 1) rfl rfl (fun p q => absurd h0 (fun z => z.elim p q)) (fun _ => nt0 (rt_err (by decide) h hB e9))⟩)
  obtain ⟨k, hk, rfl⟩ := nI_of h1
  have hk1 : k ≤ 1 := by
    rcases Nat.lt_or_ge 1 k with q | q
    · exact absurd (nI_lt q hk) h2
    · exact q
  have ik : ix (nI k) = k := nI_clamp hk
  have sk : SV1 v B k := by
    rcases (show k = 0 ∨ k = 1 by omega) with rfl | rfl
    · exact s0
    · exact s1
  refine ⟨vp_in_nI (by omega) (by decide), ?_⟩
  rw [ik]
  refine br_c (fun c => ⟨2, mm2, fun y e9 => uM_btw (lo := 0) (hi := 1) rfl rfl (fun _ _ => nt1 ⟨vp_in_nI (by omega) (by decide), ntc (fun z => absurd ?_ z) (fun _ => rt_err (by decide) h hB e9)⟩) (fun z => absurd z (fun z => z.elim h1 h2))⟩) (fun c => ?_)
  · rw [ik, e9 12 (by decide) (by decide)]
    rcases sk with q | ⟨_, q, hq, e, _⟩
    · exact q.2
    · rw [e] at c
      rcases hq with rfl | rfl <;> exact absurd c (by decide)
  · rcases sk with q | ⟨h12, q, hq, e, n', m', S', hLs, hOs⟩
    · exact absurd q.1 c
    have iq : ix (v 3 k) = q := by rw [e]; exact nI_clamp (by omega)
    rw [iq]
    have hn' := hOs.1.n40
    have hm' := hOs.1.m8
    have hg : 21 + 54 * q + 54 ≤ g := by
      rcases (show k = 0 ∨ k = 1 by omega) with rfl | rfl <;> rcases hq with rfl | rfl <;> rcases sg with ⟨p1, p2, p3⟩ | ⟨⟨p1, p2⟩ | ⟨p1, p2⟩, p3⟩ | ⟨⟨p1, p2⟩ | ⟨p1, p2⟩, p3⟩ <;> first | omega | (rw [p1] at e; exact absurd e (by decide)) | (rw [p2] at e; exact absurd e (by decide))
    refine ⟨21 + 54 * q, rfl, by omega, hg, uC_copy (b := 21) hLs hn' hm' (by omega) (fun z lz fz => ?_)⟩
    unfold w_X3_resetDraft
    refine nm_e (nm_e (nm_e ?_))
    have zc : ∀ c, c ≠ 0 → up2 (up2 (up2 z 0 9 0) 0 10 1) 0 11 1 c = z c := fun c a => by rw [up2_off _ _ _ a, up2_off _ _ _ a, up2_off _ _ _ a]
    have zj : ∀ j, j < 9 ∨ 11 < j → up2 (up2 (up2 z 0 9 0) 0 10 1) 0 11 1 0 j = v 0 j := fun j hj => by rw [up2_row, pk_un (by omega), up2_row, pk_un (by omega), up2_row, pk_un (by omega), fz 0 (by omega)]
    have z9 : up2 (up2 (up2 z 0 9 0) 0 10 1) 0 11 1 0 9 = 0 := by rw [up2_row, pk_un (by decide), up2_row, pk_un (by decide), up2_row, pk_us]
    have z10 : up2 (up2 (up2 z 0 9 0) 0 10 1) 0 11 1 0 10 = 1 := by rw [up2_row, pk_un (by decide), up2_row, pk_us]
    have z11 : up2 (up2 (up2 z 0 9 0) 0 10 1) 0 11 1 0 11 = 1 := by rw [up2_row, pk_us]
    generalize up2 (up2 (up2 z 0 9 0) 0 10 1) 0 11 1 = x at *
    have xv : ∀ c, c ≠ 0 → (c < 21 ∨ 75 ≤ c) → x c = v c := fun c a b => (zc c a).trans (fz c (by omega))
    have lx : LA x 21 (sv v k) n' m' := LA_c lz hn' hm' (fun c c1 c2 _ _ => zc c (by omega))
    intro y e9
    refine uM_btw (lo := 0) (hi := 1) rfl rfl (fun _ _ => nt1 ⟨vp_in_nI (by omega) (by decide), ntc (fun _ => ?_) (fun z => absurd z ?_)⟩) (fun z => absurd z (fun z => z.elim h1 h2))
    · unfold w_X4_restore_29
      refine nm_e (ntc (fun z => absurd (by rw [up2_row, pk_us]) z) (fun _ => ?_))
      rw [show (474 : Int32) = nI 474 from rfl, nI_mul]
      refine uM_copy (c1 := 11) (c2 := 8) (N1 := 948) (N2 := 474) (d1 := 474 * k) (d2 := 0) (by decide) (by omega) (by omega) (by omega) (fun u r1 r2 r3 => ?_)
      unfold w_X4_clearDraft
      refine nm_e (nm_e (nm_e ?_))
      have wc : ∀ c, c ≠ 7 → up2 (up2 (up2 u 7 8 0) 7 9 1) 7 10 1 c = u c := fun c a => by rw [up2_off _ _ _ a, up2_off _ _ _ a, up2_off _ _ _ a]
      have u7 : ∀ j, j ≠ 11 → u 7 j = v 7 j := fun j hj => by rw [r3 7 (by decide), up2_row, pk_un hj, e9 7 (by decide) (by decide), xv 7 (by decide) (by omega)]
      have wj : ∀ j, j ≠ 8 → j ≠ 9 → j ≠ 10 → j ≠ 11 → up2 (up2 (up2 u 7 8 0) 7 9 1) 7 10 1 7 j = v 7 j := fun j a b c d => by rw [up2_row, pk_un c, up2_row, pk_un b, up2_row, pk_un a]; exact u7 j d
      have w11 : up2 (up2 (up2 u 7 8 0) 7 9 1) 7 10 1 7 11 = 0 := by rw [up2_row, pk_un (by decide), up2_row, pk_un (by decide), up2_row, pk_un (by decide), r3 7 (by decide), up2_row, pk_us]
      have w8 : up2 (up2 (up2 u 7 8 0) 7 9 1) 7 10 1 7 8 = 0 := by rw [up2_row, pk_un (by decide), up2_row, pk_un (by decide), up2_row, pk_us]
      have w9 : up2 (up2 (up2 u 7 8 0) 7 9 1) 7 10 1 7 9 = 1 := by rw [up2_row, pk_un (by decide), up2_row, pk_us]
      have w10 : up2 (up2 (up2 u 7 8 0) 7 9 1) 7 10 1 7 10 = 1 := by rw [up2_row, pk_us]
      have uc : ∀ c, c ≠ 7 → c ≠ 8 → u c = y c := fun c a b => by rw [r3 c b, up2_off _ _ _ a]
      generalize up2 (up2 (up2 u 7 8 0) 7 9 1) 7 10 1 = w at *
      have wx : ∀ c, c ≠ 7 → c ≠ 8 → c ≠ 19 → c ≠ 20 → w c = x c := fun c a b d f => by rw [wc c a, uc c a b, e9 c d f]
      have e8 : ∀ j, j < 474 → w 8 j = sv v k j := fun j hj => by
        have q1 := r1 j hj
        rw [Nat.zero_add, up2_off _ _ _ (by decide), e9 11 (by decide) (by decide), xv 11 (by decide) (by omega)] at q1
        rw [wc 8 (by decide)]
        exact q1
      have w0 := wx 0 (by decide) (by decide) (by decide) (by decide)
      have wv : ∀ c, c ≠ 0 → c ≠ 7 → c ≠ 8 → c ≠ 19 → c ≠ 20 → (c < 21 ∨ 75 ≤ c) → w c = v c := fun c z a b d f q => (wx c a b d f).trans (xv c z q)
      have hS := hOs.1.2.1.2
      refine ⟨w11, ⟨⟨n', m', S', ?_, OK_B (OK_cg hOs e8) (by omega), ?_⟩, RS_B (RS_gen hR0 ⟨T, ?_⟩ ?_ ⟨K, k1, ?_, ?_, ?_⟩ (fun c q => wv c (by omega) (by omega) (by omega) (by omega) (by omega) (by omega))) (by omega)⟩, by rw [wc 19 (by decide), uc 19 (by decide) (by decide)], by rw [wc 20 (by decide), uc 20 (by decide) (by decide)]⟩
      · exact LA_cg (LA_c lx hn' hm' (fun c c1 c2 _ _ => wx c (by omega) (by omega) (by omega) (by omega))) hn' hm' e8
      · unfold DR DE
        rw [w0, w8, w9, w10, z9, z10, z11]
        have q0 : (0 : Int32).toInt = 0 := rfl
        have q1 : (1 : Int32).toInt = 1 := rfl
        rw [q0, q1]
        exact ⟨⟨rfl, rfl, rfl⟩, ⟨by omega, by omega, by omega⟩, by omega, by omega⟩
      · unfold TX
        rw [w0, zj 1 (by omega), wj 13 (by decide) (by decide) (by decide) (by decide), wv 1 (by decide) (by decide) (by decide) (by decide) (by decide) (by omega), wv 16 (by decide) (by decide) (by decide) (by decide) (by decide) (by omega)]
        exact hT
      · rw [w0, zj 2 (by omega), zj 3 (by omega), wj 19 (by decide) (by decide) (by decide) (by decide), wj 20 (by decide) (by decide) (by decide) (by decide)]
        exact hE7
      · rw [w0, zj 13 (by omega)]; exact k2
      · rw [wj 33 (by decide) (by decide) (by decide) (by decide)]; exact k3
      · rw [wv 2 (by decide) (by decide) (by decide) (by decide) (by decide) (by omega), wv 18 (by decide) (by decide) (by decide) (by decide) (by decide) (by omega)]; exact k4
    · rw [ik, e9 12 (by decide) (by decide), xv 12 (by decide) (by omega), h12]; decide
end RT
theorem dL_restore_0 : decode cL_restore 0 = .ok (.aload_n 0, 1) := by decide +kernel
theorem dL_restore_1 : decode cL_restore 1 = .ok (.iload_n 1, 1) := by decide +kernel
theorem dL_restore_2 : decode cL_restore 2 = .ok (.invokevirtual 113, 3) := by decide +kernel
theorem dL_restore_5 : decode cL_restore 5 = .ok (.goto 9, 3) := by decide +kernel
theorem dL_restore_8 : decode cL_restore 8 = .ok (.astore_n 2, 1) := by decide +kernel
theorem dL_restore_9 : decode cL_restore 9 = .ok (.iconst 1, 1) := by decide +kernel
theorem dL_restore_10 : decode cL_restore 10 = .ok (.ireturn, 1) := by decide +kernel
theorem dL_restore_11 : decode cL_restore 11 = .ok (.astore_n 2, 1) := by decide +kernel
theorem dL_restore_12 : decode cL_restore 12 = .ok (.iconst 2, 1) := by decide +kernel
theorem dL_restore_13 : decode cL_restore 13 = .ok (.ireturn, 1) := by decide +kernel
theorem dL_restore_14 : decode cL_restore 14 = .ok (.iconst 0, 1) := by decide +kernel
theorem dL_restore_15 : decode cL_restore 15 = .ok (.ireturn, 1) := by decide +kernel
set_option maxRecDepth 100000 in
set_option maxHeartbeats 4000000 in
theorem k_L_restore (l : Launch) (hst : l.stackTraces = false) {G : zG} (hg : 129 ≤ gn G) {a1 : Int32} {v : V3} {g : Nat} {B : Int} (hw : w_X3_restore (gn G) a1 v (exV g B (w_X4_restore a1) [(eIA, 1), (eIS, 2)]) (okV g B (w_X4_restore a1))) : Mh l yL_restore cL_restore 3 [(0, 5, 8, 18), (0, 5, 11, 13)] 8 134 2 12 G [.ref (gad G 0), .int a1] v (QiZ G (HPv g B (w_X4_restore a1))) := by
  refine z_hofW hg (by decide) (Nat.le_of_ble_eq_true rfl) ?_
  intro p e s m args below meth c ls C0 hT Z hl
  have hx := C0.1
  have hb := C0.2.1
  replace hl : lv_has ls 3 [(0, .ref (gad G 0)), (1, .int a1)] := hl
  generalize s.heap = H at Z ⊢
  generalize ([] : List Loc) = locs at Z ⊢
  refine lv_aload_n hx hb dL_restore_0 rfl (lv_at hl 0 rfl) ?_
  refine lv_iload_n hx hb dL_restore_1 rfl (lv_at hl 1 rfl) ?_
  refine z_hcallVv C0 Z hl.1 (As := [.int a1]) (rest := []) (k_X3_restore l hst hg hw) (gv_X3_restore tm_4_184) rfl ds_X3_restore ⟨Nat.le_of_ble_eq_true rfl, Nat.le_of_ble_eq_true rfl⟩ (ci := 3) rfl (cx_lt C0 (by decide)) rfl rfl rfl (Nat.le_of_ble_eq_true rfl) ⟨Nat.le_of_ble_eq_true rfl, Nat.le_of_ble_eq_true rfl⟩ dL_restore_2 (fun E u H locs ce q hX Z h9 hv9 hc9 => ?_) (fun u H locs hw Z => ?_)
  · obtain ⟨k, hk, hP⟩ := hX
    simp only [List.mem_cons, Prod.mk.injEq, List.not_mem_nil, or_false] at hk
    rcases hk with ⟨rfl, rfl⟩ | ⟨rfl, rfl⟩
    · refine vx_catch (E := eIA) (name := eIA) (cx_own C0) [] ⟨0, 5, 8, 18⟩ [⟨0, 5, 11, 13⟩] (by rw [hT]; rfl) (fun z hz => absurd hz List.not_mem_nil) rfl (by decide) (cx_w C0 tm_3_81) (cx_w2 C0 (.inr (by decide +kernel))) h9 hv9 hc9 ?_
      refine lv_astore_n (lv' := [(2, .ref q), (0, .ref (gad G 0)), (1, .int a1)]) hx hb dL_restore_8 rfl hl (by decide) rfl (fun ls hl => ?_)
      refine lv_iconst (v := 1) hx hb dL_restore_9 (by decide) ?_
      refine z_wide (mc := 2) (ms := 12) (by decide) (by decide) ?_
      exact z_iret C0 Z (Q := HPv g B (w_X4_restore a1)) (.inr ⟨by decide, hP u (fun _ _ _ => rfl)⟩) dL_restore_10
    · refine vx_catch (E := eIS) (name := eIS) (cx_own C0) [⟨0, 5, 8, 18⟩] ⟨0, 5, 11, 13⟩ [] (by rw [hT]; rfl) (fun z hz => by
      obtain rfl := List.mem_singleton.mp hz
      exact .inr ⟨by decide, eIA, cx_w C0 tm_3_81, (cx_K C0).2.2.2.2.2.2.2.1 (eIS, eIA) (by decide +kernel)⟩) rfl (by decide) (cx_w C0 tm_3_6) (cx_w2 C0 (.inr (by decide +kernel))) h9 hv9 hc9 ?_
      refine lv_astore_n (lv' := [(2, .ref q), (0, .ref (gad G 0)), (1, .int a1)]) hx hb dL_restore_11 rfl hl (by decide) rfl (fun ls hl => ?_)
      refine lv_iconst (v := 2) hx hb dL_restore_12 (by decide) ?_
      refine z_wide (mc := 2) (ms := 12) (by decide) (by decide) ?_
      exact z_iret C0 Z (Q := HPv g B (w_X4_restore a1)) (.inr ⟨by decide, hP u (fun _ _ _ => rfl)⟩) dL_restore_13
  · refine lv_goto (tgt := 14) hx hb dL_restore_5 (by decide) ?_
    refine lv_iconst (v := 0) hx hb dL_restore_14 (by decide) ?_
    refine z_wide (mc := 2) (ms := 12) (by decide) (by decide) ?_
    exact z_iret C0 Z (Q := HPv g B (w_X4_restore a1)) (.inl ⟨rfl, hw u (fun _ _ _ => rfl)⟩) dL_restore_15
set_option maxRecDepth 100000 in
set_option maxHeartbeats 4000000 in
theorem lc_restore {p : Program} (l : Launch) (hst : l.stackTraces = false) {e : Env} {s : State} {m : MethodId} {below : List Frame} {meth : Method} {c : Code} {G : zG} {b L : Nat} {xs : Nat → Int32} (C0 : Cx G RL cL_law 9 (some .boolean) p s m #[Value.ref b] meth c) {v : V3} {H : Heap} {locs : List Loc} (Z : Zs G s v H locs) (hX : va_X b L xs s s.heap) (hbl : b < s.heap.size) (hbA : ¬ zA G b) {i : Nat} (hiL : i + 5 ≤ L) (hL : L ≤ 2560) {B : Int} (h : IV v (gn G) B) (hB : B + 99 ≤ 900000) {kc ks : Nat} (hkc : kc + 60 ≤ 601024) (hks : ks + 700 ≤ 7293034) {Q : State → Prop} {ls : Array Slot} (hl : lv_has ls 9 [(0, .ref b), (1, .ref (gad G 0)), (2, .ref (gad G 7)), (3, .ref (gad G 19)), (4, .ref (gad G 20)), (5, .int (nI i))]) (kk : ∀ (v' : V3) (H1 : Heap) (locs1 : List Loc) (ls1 : Array Slot), IV v' (gn G) (B + 99) → Zs G s v' H1 locs1 → lv_has ls1 9 [(0, .ref b), (1, .ref (gad G 0)), (2, .ref (gad G 7)), (3, .ref (gad G 19)), (4, .ref (gad G 20)), (5, .int (nI i))] → W p l e room_1 s m #[Value.ref b] below meth c H1 locs1 (kc + 60) (ks + 700) Q (F0 m 2228 ls1 [])) : W p l e room_1 s m #[Value.ref b] below meth c H locs kc ks Q (F0 m 2192 ls []) := by
  have hx := C0.1
  have hb := C0.2.1
  have hg := cx_g C0
  refine lv_aload_n hx hb dL_law_2192 rfl (lv_at hl 1 rfl) ?_
  refine lv_aload_n hx hb dL_law_2193 rfl (lv_at hl 0 rfl) ?_
  refine lv_iload hx hb dL_law_2194 (lv_at hl 5 rfl) ?_
  refine lv_iconst (v := 1) hx hb dL_law_2196 (by decide) ?_
  refine lv_iadd hx hb dL_law_2197 ?_
  refine va_sld hx hb hX hbl hbA Z.2.2 (show vp_in (nI i + 1) L by rw [show (1 : Int32) = nI 1 from rfl, nI_add]; exact vp_in_nI (by omega) (by omega)) dL_law_2198 ?_
  refine z_callH C0 Z hl.1 (As := [.ref (gad G 0), .int (xs (nI i + 1).toNatClampNeg)]) (rest := []) (k_L_restore l hst hg (ca_restore h hB _)) (gv_L_restore tm_4_181) ds_L_restore ⟨Nat.le_of_ble_eq_true rfl, Nat.le_of_ble_eq_true rfl⟩ rfl rfl (Nat.le_of_ble_eq_true rfl) ⟨by show kc + 2 ≤ 601024; omega, by show ks + 12 ≤ 7293034; omega⟩ dL_law_2199 (fun k u H locs hw Z => ?_)
  refine lv_istore (lv' := [(6, .int k), (0, .ref b), (1, .ref (gad G 0)), (2, .ref (gad G 7)), (3, .ref (gad G 19)), (4, .ref (gad G 20)), (5, .int (nI i))]) hx hb dL_law_2202 hl (by decide) rfl (fun ls hl => ?_)
  rcases hw with ⟨hk, hw⟩ | ⟨hk, hw⟩
  · subst hk
    refine lv_aload_n hx hb dL_law_2204 rfl (lv_at hl 3 rfl) ?_
    refine lv_aload_n hx hb dL_law_2205 rfl (lv_at hl 1 rfl) ?_
    refine lv_iload hx hb dL_law_2206 (lv_at hl 6 rfl) ?_
    refine lv_iconst (v := 1) hx hb dL_law_2208 (by decide) ?_
    refine lv_iadd hx hb dL_law_2209 ?_
    refine va_sld hx hb hX hbl hbA Z.2.2 (show vp_in (nI i + 1) L by rw [show (1 : Int32) = nI 1 from rfl, nI_add]; exact vp_in_nI (by omega) (by omega)) dL_law_2210 ?_
    refine z_callVv C0 Z hl.1 (As := [.int (xs (nI i + 1).toNatClampNeg)]) (rest := []) (k_X4_restore l hg hw) (gv_X4_restore tm_7_11) rfl ds_X4_restore ⟨Nat.le_of_ble_eq_true rfl, Nat.le_of_ble_eq_true rfl⟩ (ci := 4) rfl (cx_lt C0 (by decide)) rfl rfl rfl (Nat.le_of_ble_eq_true rfl) ⟨by show kc + 2 ≤ 601024; omega, by show ks + 12 ≤ 7293034; omega⟩ dL_law_2211 (fun u2 H locs hw Z => ?_)
    obtain ⟨h11, hi, i19, i20⟩ := hw
    refine lv_aload_n hx hb dL_law_2214 rfl (lv_at hl 3 rfl) ?_
    refine z_callVi C0 Z hl.1 (As := []) (rest := []) (k_X4_thrown l hg (Q := fun t w => w = u2 ∧ t = u2 7 11) ⟨rfl, rfl⟩) (gv_X4_thrown tm_5_67) rfl ds_X4_thrown ⟨Nat.le_of_ble_eq_true rfl, Nat.le_of_ble_eq_true rfl⟩ (ci := 4) rfl (cx_lt C0 (by decide)) rfl rfl rfl (Nat.le_of_ble_eq_true rfl) ⟨by show kc + 2 ≤ 601024; omega, by show ks + 12 ≤ 7293034; omega⟩ dL_law_2215 (fun t u3 H locs hw Z => ?_)
    obtain ⟨e3, ht⟩ := hw
    rw [e3] at Z
    refine lv_iload hx hb dL_law_2218 (lv_at hl 0 rfl) ?_
    refine lv_icmp_eq (tgt := 2225) hx hb dL_law_2220 (by decide) (fun _ => ?_) (fun c => absurd (ht.trans h11) c)
    refine lv_goto (tgt := 2228) hx hb dL_law_2225 (by decide) ?_
    refine W.widen (k := kc + 60) (n := ks + 700) (by omega) (by omega) ?_
    exact kk _ _ _ _ hi Z (lv_sub hl [1, 2, 3, 4, 5, 6] rfl)
  · refine lv_aload_n hx hb dL_law_2204 rfl (lv_at hl 3 rfl) ?_
    refine lv_aload_n hx hb dL_law_2205 rfl (lv_at hl 1 rfl) ?_
    refine lv_iload hx hb dL_law_2206 (lv_at hl 6 rfl) ?_
    refine lv_iconst (v := 1) hx hb dL_law_2208 (by decide) ?_
    refine lv_iadd hx hb dL_law_2209 ?_
    refine va_sld hx hb hX hbl hbA Z.2.2 (show vp_in (nI i + 1) L by rw [show (1 : Int32) = nI 1 from rfl, nI_add]; exact vp_in_nI (by omega) (by omega)) dL_law_2210 ?_
    refine z_callVv C0 Z hl.1 (As := [.int (xs (nI i + 1).toNatClampNeg)]) (rest := []) (k_X4_restore l hg hw) (gv_X4_restore tm_7_11) rfl ds_X4_restore ⟨Nat.le_of_ble_eq_true rfl, Nat.le_of_ble_eq_true rfl⟩ (ci := 4) rfl (cx_lt C0 (by decide)) rfl rfl rfl (Nat.le_of_ble_eq_true rfl) ⟨by show kc + 2 ≤ 601024; omega, by show ks + 12 ≤ 7293034; omega⟩ dL_law_2211 (fun u2 H locs hw Z => ?_)
    obtain ⟨h11, hi, i19, i20⟩ := hw
    refine lv_aload_n hx hb dL_law_2214 rfl (lv_at hl 3 rfl) ?_
    refine z_callVi C0 Z hl.1 (As := []) (rest := []) (k_X4_thrown l hg (Q := fun t w => w = u2 ∧ t = u2 7 11) ⟨rfl, rfl⟩) (gv_X4_thrown tm_5_67) rfl ds_X4_thrown ⟨Nat.le_of_ble_eq_true rfl, Nat.le_of_ble_eq_true rfl⟩ (ci := 4) rfl (cx_lt C0 (by decide)) rfl rfl rfl (Nat.le_of_ble_eq_true rfl) ⟨by show kc + 2 ≤ 601024; omega, by show ks + 12 ≤ 7293034; omega⟩ dL_law_2215 (fun t u3 H locs hw Z => ?_)
    obtain ⟨e3, ht⟩ := hw
    rw [e3] at Z
    refine lv_iload hx hb dL_law_2218 (lv_at hl 0 rfl) ?_
    refine lv_icmp_eq (tgt := 2225) hx hb dL_law_2220 (by decide) (fun _ => ?_) (fun c => absurd (ht.trans h11) c)
    refine lv_goto (tgt := 2228) hx hb dL_law_2225 (by decide) ?_
    refine W.widen (k := kc + 60) (n := ks + 700) (by omega) (by omega) ?_
    exact kk _ _ _ _ hi Z (lv_sub hl [1, 2, 3, 4, 5, 6] rfl)
