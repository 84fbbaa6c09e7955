/-! THE LAW FROM ITS ENTRY -/
theorem tm_1_13 : Cond.classLink RL 11 RL ∈ tbg := tb1 13 (by decide +kernel) (by decide +kernel)
theorem tm_1_14 : Cond.instantiable RL 5 ∈ tbg := tb1 14 (by decide +kernel) (by decide +kernel)
theorem tm_1_15 : Cond.methodLink RL 220 yL_init ∈ tbg := tb1 15 (by decide +kernel) (by decide +kernel)
theorem tm_1_16 : Cond.instanceMethod yL_init ∈ tbg := tb1 16 (by decide +kernel) (by decide +kernel)
theorem tm_1_17 : Cond.code yL_init cL_init 1 none ∈ tbg := tb1 17 (by decide +kernel) (by decide +kernel)
theorem tm_1_196 : Cond.methodLink RL 221 yL_holds ∈ tbg := tb1 196 (by decide +kernel) (by decide +kernel)
theorem tm_1_198 : Cond.instanceMethod yL_holds ∈ tbg := tb1 198 (by decide +kernel) (by decide +kernel)
theorem tm_1_199 : Cond.code yL_holds cL_holds 4 (some .boolean) ∈ tbg := tb1 199 (by decide +kernel) (by decide +kernel)
theorem gv_L_holds {own : String} {idx : Nat} (h : Cond.methodLink own idx yL_holds ∈ tbg) : GoodIn tbg (wsV own idx RL yL_holds (.code yL_holds cL_holds 4 (some .boolean) :: tbg)) := z_goodV h tm_1_198 (tb0 (by decide +kernel) (by decide +kernel)) tm_1_0 tm_1_199
theorem ds_L_holds : dsc yL_holds 1 := ⟨by decide +kernel, by decide +kernel, by decide +kernel⟩
theorem dL_law_0 : decode cL_law 0 = .ok (.new 11, 3) := by decide +kernel
theorem dL_law_3 : decode cL_law 3 = .ok (.dup, 1) := by decide +kernel
theorem dL_law_4 : decode cL_law 4 = .ok (.invokespecial 220, 3) := by decide +kernel
theorem dL_law_7 : decode cL_law 7 = .ok (.aload_n 0, 1) := by decide +kernel
theorem dL_law_8 : decode cL_law 8 = .ok (.invokevirtual 221, 3) := by decide +kernel
theorem dL_law_11 : decode cL_law 11 = .ok (.ireturn, 1) := by decide +kernel
theorem ds_L_init : dsc yL_init 0 := ⟨by decide +kernel, by decide +kernel, by decide +kernel⟩
set_option maxRecDepth 100000 in
set_option maxHeartbeats 4000000 in
theorem whole_start {p : Program} {e : Env} {s : State} {m : MethodId} {below : List Frame} {meth : Method} {c : Code} (l : Launch) (hflags : l.flags = flags0) {b L : Nat} {xs : Nat → Int32} (hL : L ≤ 260) (C0 : lw_At p s m meth c b L xs) : W p l e room_1 s m #[Value.ref b] below meth c s.heap [] 0 0 (lw_Z below #[Value.ref b] s) (entryFrame m ([Value.ref b] : List Value).toArray 1) := by
  have hst : l.stackTraces = false := by
    unfold Launch.stackTraces
    rw [hflags]
    decide +kernel
  obtain ⟨hx, hb, hr, hml, hown, hts, hX, hbl, hlocks, hgv⟩ := id C0
  obtain ⟨G, hgb, hgn, hk3, K⟩ := kw_start hL hX hbl hts hgv
  have hg : 116 ≤ gn G := by omega
  have C1 : Cx G RL cL_law 1 (some .boolean) p s m #[Value.ref b] meth c := ⟨hx, hb, hml, hr, hlocks, hown, fun w h => hts w (List.mem_filter.mp h).1, K, hg⟩
  have Z : Zr G s [] s.heap [] := ⟨fun k q h => by simp at h, ⟨fun i j p q h => by simp at h, fun k q h => by simp at h⟩, va_S.rf⟩
  have hl := lv_entry ([.ref b]) (n := 1) (Nat.le_of_ble_eq_true rfl)
  rw [lg_entry_eq]
  generalize (lg_sl ([.ref b]) ++ List.replicate (1 - (lg_sl ([.ref b])).length) Slot.unset).toArray = ls at hl ⊢
  replace hl : lv_has ls 1 [(0, .ref b)] := hl
  generalize hH : s.heap = H at Z ⊢
  generalize ([] : List Loc) = locs at Z ⊢
  refine r_new (X := []) (Y := []) (ci := 4) (C := RL) (T := TL) (N := 5) (fs := fsL0) C1 Z in_L tyL tyL_ok tm_1_13 tm_1_14 tm_1_0 rfl df_L (Nat.le_of_ble_eq_true rfl) (Nat.le_of_ble_eq_true rfl) dL_law_0 (fun a H Z => ?_)
  refine W.widen (k := 1) (n := 5) (Nat.le_of_ble_eq_true rfl) (Nat.le_of_ble_eq_true rfl) ?_
  refine lv_dup hx hb dL_law_3 rfl ?_
  refine r_callI C1 Z hl.1 (As := []) (rest := [.ref a]) (k_L_init l hg (Y := [])) tm_1_17 tm_1_0 tm_1_15 tm_1_16 rfl ds_L_init ⟨(Nat.le_of_ble_eq_true rfl), (Nat.le_of_ble_eq_true rfl)⟩ rfl rfl (Nat.le_of_ble_eq_true rfl) ⟨(Nat.le_of_ble_eq_true rfl), (Nat.le_of_ble_eq_true rfl)⟩ dL_law_4 (fun u H locs hu Z => ?_)
  refine W.widen (k := 116) (n := 2043) (Nat.le_of_ble_eq_true rfl) (Nat.le_of_ble_eq_true rfl) ?_
  obtain ⟨o, c8, c52, c59, c67, c74, c110, ad33, ad44, rfl⟩ := hu
  rw [List.append_nil] at Z
  have Z9 := st_world (G := G) (s := s) (a := a) (o := o) (ad33 := ad33) (ad44 := ad44) Z
  have C2 : Cx (gB G (adS (o :: c8 :: c110 :: c52 :: c59 :: c67 :: c74 :: a :: []) ad33 ad44)) RL cL_law 1 (some .boolean) p s m #[Value.ref b] meth c := ⟨hx, hb, hml, hr, hlocks, hown, fun w h => hts w (List.mem_filter.mp h).1, K, Nat.le_refl _⟩
  have hM := k_L_holds l hst (G := (gB G (adS (o :: c8 :: c110 :: c52 :: c59 :: c67 :: c74 :: a :: []) ad33 ad44))) (Nat.le_refl _) (v := v0) (σ := σ0) sp_start
  rw [show gk (gB G (adS (o :: c8 :: c110 :: c52 :: c59 :: c67 :: c74 :: a :: []) ad33 ad44)) 3 = b from hk3] at hM
  refine lv_aload_n hx hb dL_law_7 rfl (lv_at hl 0 rfl) ?_
  refine s_callVi C2 Z9 hl.1 (As := [.ref b]) (rest := []) hM (gv_L_holds tm_1_196) rfl ds_L_holds ⟨(Nat.le_of_ble_eq_true rfl), (Nat.le_of_ble_eq_true rfl)⟩ (ci := 4) rfl (show 7 < 116 by decide) rfl rfl rfl (Nat.le_of_ble_eq_true rfl) ⟨(Nat.le_of_ble_eq_true rfl), (Nat.le_of_ble_eq_true rfl)⟩ dL_law_8 (fun r G2 v H locs x2 hw Z => ?_)
  subst hw
  refine va_forget (fun q hq => by have h := Z.2.2.2.2 q hq; rw [x2.zA] at h; rw [← hgb]; exact h) ?_
  refine W.widen (k := 600104) (n := 7301314) (Nat.le_of_ble_eq_true rfl) (Nat.le_of_ble_eq_true rfl) ?_
  exact lw_ret (d0 := s.drawn) (Drawn.sameBut.refl s.drawn lw_cs) hx hb hr hlocks dL_law_11
