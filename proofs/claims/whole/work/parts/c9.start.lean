/-! THE LAW FROM ITS ENTRY -/
theorem tm_1_18 : Cond.classLink RL 8 RX3 ∈ tbg := tb1 18 (by decide +kernel) (by decide +kernel)
theorem tm_1_20 : Cond.methodLink RL 116 yX3_init ∈ tbg := tb1 20 (by decide +kernel) (by decide +kernel)
theorem tm_1_21 : Cond.instanceMethod yX3_init ∈ tbg := tb1 21 (by decide +kernel) (by decide +kernel)
theorem tm_1_22 : Cond.code yX3_init cX3_init 1 none ∈ tbg := tb1 22 (by decide +kernel) (by decide +kernel)
theorem tm_4_189 : Cond.classLink RL 117 RX4 ∈ tbg := tb4 189 (by decide +kernel) (by decide +kernel)
theorem tm_4_191 : Cond.methodLink RL 119 yX4_init ∈ tbg := tb4 191 (by decide +kernel) (by decide +kernel)
theorem tm_4_192 : Cond.instanceMethod yX4_init ∈ tbg := tb4 192 (by decide +kernel) (by decide +kernel)
theorem tm_4_193 : Cond.code yX4_init cX4_init 1 none ∈ tbg := tb4 193 (by decide +kernel) (by decide +kernel)
theorem ds_X3_init : dsc yX3_init 0 := ⟨by decide +kernel, by decide +kernel, by decide +kernel⟩
theorem ds_X4_init : dsc yX4_init 0 := ⟨by decide +kernel, by decide +kernel, by decide +kernel⟩
set_option maxRecDepth 100000 in
set_option maxHeartbeats 4000000 in
theorem law_start {p : Program} (l : Launch) {e : Env} {s : State} {m : MethodId} {below : List Frame} {meth : Method} {c : Code} {b L : Nat} {xs : Nat → Int32} (C0 : lw_At p s m meth c b L xs) {Q : State → Prop} (kk : ∀ (G : zG) (v : V3) (H : Heap) (locs : List Loc) (ls : Array Slot), Cx G RL cL_law 9 (some .boolean) p s m #[Value.ref b] meth c → gb G = s.heap.size → IV v (gn G) (10300 + 99 * ((0 : Nat) : Int)) → Zs G s v H locs → lv_has ls 9 [(0, .ref b), (1, .ref (gad G 0)), (2, .ref (gad G 7)), (3, .ref (gad G 19)), (4, .ref (gad G 20)), (5, .int (nI 0))] → W p l e room_1 s m #[Value.ref b] below meth c H locs (400 + 60 * 0) (10000 + 700 * 0) Q (F0 m 28 ls [])) : W p l e room_1 s m #[Value.ref b] below meth c s.heap [] 0 0 Q (entryFrame m ([Value.ref b] : List Value).toArray 9) := by
  obtain ⟨hx, hb, hr, hml, hown, hts, hX, hbl, hlocks, hgv⟩ := id C0
  obtain ⟨G, hgb, hgn, K⟩ := kw_start hts hgv
  have hg : 129 ≤ gn G := by omega
  have C1 : Cx G RL cL_law 9 (some .boolean) p s m #[Value.ref b] meth c := ⟨hx, hb, hml, hr, hlocks, hown, fun w h => hts w (List.mem_filter.mp h).1, K, hg⟩
  have Z : Zr G s [] s.heap [] := ⟨fun k q h => by simp at h, ⟨fun i j p q h => by simp at h, fun k q h => by simp at h⟩, va_S.rf⟩
  have hl := lv_entry ([.ref b]) (n := 9) (Nat.le_of_ble_eq_true rfl)
  rw [lg_entry_eq]
  generalize (lg_sl ([.ref b]) ++ List.replicate (9 - (lg_sl ([.ref b])).length) Slot.unset).toArray = ls at hl ⊢
  replace hl : lv_has ls 9 [(0, .ref b)] := hl
  generalize hH : s.heap = H at Z ⊢
  generalize ([] : List Loc) = locs at Z ⊢
  refine r_new (X := []) (Y := []) (ci := 3) (C := RX3) (T := TX3) (N := 14) (fs := fsX30) C1 Z in_X3 tyX3 tyX3_ok tm_1_18 tm_1_19 tm_1_1 rfl df_X3 (Nat.le_of_ble_eq_true rfl) (Nat.le_of_ble_eq_true rfl) dL_law_0 (fun o H Z => ?_)
  refine W.widen (k := 1) (n := 14) (Nat.le_of_ble_eq_true rfl) (Nat.le_of_ble_eq_true rfl) ?_
  refine lv_dup hx hb dL_law_3 rfl ?_
  refine r_callI C1 Z hl.1 (As := []) (rest := [.ref o]) (k_X3_init l hg (Y := [])) tm_1_22 tm_1_1 tm_1_20 tm_1_21 rfl ds_X3_init ⟨(Nat.le_of_ble_eq_true rfl), (Nat.le_of_ble_eq_true rfl)⟩ rfl rfl (Nat.le_of_ble_eq_true rfl) ⟨(Nat.le_of_ble_eq_true rfl), (Nat.le_of_ble_eq_true rfl)⟩ dL_law_4 (fun u H locs hu Z => ?_)
  refine W.widen (k := 115) (n := 2038) (Nat.le_of_ble_eq_true rfl) (Nat.le_of_ble_eq_true rfl) ?_
  obtain ⟨c8, c52, c59, c67, c74, c110, ad33, ad44, rfl⟩ := hu
  refine lv_astore_n (lv' := [(1, .ref o), (0, .ref b)]) hx hb dL_law_7 rfl hl (by decide) rfl (fun ls hl => ?_)
  refine r_new (X := []) (Y := (eO o 3 [.ref c8, .int 0, .int 0, .int (-1), .ref (ad33 0), .ref (ad44 0), .ref c52, .ref c59, .ref c74, .int 0, .int 1, .int 1, .ref c110, .int 0] :: eA (gcA G 1) c110 64 (fun _ => 0) :: eO c74 2 [.ref c8, .ref (ad44 0), .int 0, .int 0, .int 0, .int 0, .int 0, .int 0, .int 0] :: eO c59 0 [.ref (ad33 0), .ref c67] :: eA (gcA G 0) c67 5 (fun _ => 0) :: eN (gcA G 6) c52 2 :: (LLx G ad44 ++ ((LLx G ad33 ++ (eA (gcA G 1) c8 800 (fun _ => 0) :: [])))))) (ci := 4) (C := RX4) (T := TX4) (N := 34) (fs := fsX40) C1 Z in_X4 tyX4 tyX4_ok tm_4_189 tm_4_190 tm_1_6 rfl df_X4 (Nat.le_of_ble_eq_true rfl) (Nat.le_of_ble_eq_true rfl) dL_law_8 (fun mm H Z => ?_)
  refine W.widen (k := 116) (n := 2072) (Nat.le_of_ble_eq_true rfl) (Nat.le_of_ble_eq_true rfl) ?_
  refine lv_dup hx hb dL_law_11 rfl ?_
  refine r_callI C1 Z hl.1 (As := []) (rest := [.ref mm]) (k_X4_init l hg (Y := (eO o 3 [.ref c8, .int 0, .int 0, .int (-1), .ref (ad33 0), .ref (ad44 0), .ref c52, .ref c59, .ref c74, .int 0, .int 1, .int 1, .ref c110, .int 0] :: eA (gcA G 1) c110 64 (fun _ => 0) :: eO c74 2 [.ref c8, .ref (ad44 0), .int 0, .int 0, .int 0, .int 0, .int 0, .int 0, .int 0] :: eO c59 0 [.ref (ad33 0), .ref c67] :: eA (gcA G 0) c67 5 (fun _ => 0) :: eN (gcA G 6) c52 2 :: (LLx G ad44 ++ ((LLx G ad33 ++ (eA (gcA G 1) c8 800 (fun _ => 0) :: []))))))) tm_4_193 tm_1_6 tm_4_191 tm_4_192 rfl ds_X4_init ⟨(Nat.le_of_ble_eq_true rfl), (Nat.le_of_ble_eq_true rfl)⟩ rfl rfl (Nat.le_of_ble_eq_true rfl) ⟨(Nat.le_of_ble_eq_true rfl), (Nat.le_of_ble_eq_true rfl)⟩ dL_law_12 (fun u H locs hu Z => ?_)
  refine W.widen (k := 127) (n := 5360) (Nat.le_of_ble_eq_true rfl) (Nat.le_of_ble_eq_true rfl) ?_
  obtain ⟨m8, m17, m26, m35, m42, m49, m73, m96, m125, m138, m146, rfl⟩ := hu
  refine lv_astore_n (lv' := [(2, .ref mm), (1, .ref o), (0, .ref b)]) hx hb dL_law_15 rfl hl (by decide) rfl (fun ls hl => ?_)
  refine lv_iconst (v := 1) hx hb dL_law_16 (by decide) ?_
  refine r_newa (X := []) (Y := (eO mm 4 (.ref m8 :: .ref m17 :: .ref m26 :: .ref m35 :: .ref m42 :: .ref m49 :: .ref m73 :: .ref m96 :: .int 0 :: .int 1 :: .int 1 :: .int 0 :: .ref m125 :: .int 0 :: .int 0 :: .int 0 :: .int 0 :: .int 0 :: .int 0 :: .int 0 :: .int (-1) :: .long 0 :: .ref m138 :: .int 0 :: .int 0 :: .int 0 :: .int 0 :: .int 0 :: .int 0 :: .int 0 :: .int 0 :: .int 0 :: .ref m146 :: .int 0 :: []) :: eA (gcA G 0) m8 474 (fun j => if j < 4 then (upd (upd (upd (upd (fun _ => 0) (ix 0) 5) (ix 1) 10) (ix 2) 4) (ix 3) 3) j else if j = 4 then 32 else 0) :: eA (gcA G 0) m49 4 (upd (upd (upd (upd (fun _ => 0) (ix 0) 5) (ix 1) 10) (ix 2) 4) (ix 3) 3) :: eA (gcA G 0) m146 64 (fun _ => 0) :: eA (gcA G 0) m138 40 (fun _ => 0) :: eA (gcA G 0) m125 800 (fun _ => 0) :: eA (gcA G 0) m96 4 (upd (upd (upd (upd (fun _ => 0) (ix 0) 50) (ix 1) 99) (ix 2) 9) (ix 3) 9) :: eA (gcA G 0) m73 4 (upd (upd (upd (upd (fun _ => 0) (ix 0) 0) (ix 1) 0) (ix 2) 1) (ix 3) 1) :: eA (gcA G 2) m42 2 (fun _ => 0) :: eA (gcA G 0) m35 948 (fun _ => 0) :: eA (gcA G 0) m26 474 (fun _ => 0) :: eA (gcA G 0) m17 474 (fun _ => 0) :: (eO o 3 [.ref c8, .int 0, .int 0, .int (-1), .ref (ad33 0), .ref (ad44 0), .ref c52, .ref c59, .ref c74, .int 0, .int 1, .int 1, .ref c110, .int 0] :: eA (gcA G 1) c110 64 (fun _ => 0) :: eO c74 2 [.ref c8, .ref (ad44 0), .int 0, .int 0, .int 0, .int 0, .int 0, .int 0, .int 0] :: eO c59 0 [.ref (ad33 0), .ref c67] :: eA (gcA G 0) c67 5 (fun _ => 0) :: eN (gcA G 6) c52 2 :: (LLx G ad44 ++ ((LLx G ad33 ++ (eA (gcA G 1) c8 800 (fun _ => 0) :: []))))))) (ty := .long) (t0 := 3) (atype := .long) (N' := 1) (a0 := (1, .inr (.inl (fun _ => 0)))) C1 Z rfl tm_7_15 rfl (fun _ => rfl) (by decide) (by decide) (Nat.le_of_ble_eq_true rfl) (Nat.le_of_ble_eq_true rfl) (Nat.le_of_ble_eq_true rfl) dL_law_17 (fun g H Z => ?_)
  refine W.widen (k := 128) (n := 5361) (Nat.le_of_ble_eq_true rfl) (Nat.le_of_ble_eq_true rfl) ?_
  refine lv_astore_n (lv' := [(3, .ref g), (2, .ref mm), (1, .ref o), (0, .ref b)]) hx hb dL_law_19 rfl hl (by decide) rfl (fun ls hl => ?_)
  refine lv_iconst (v := 1) hx hb dL_law_20 (by decide) ?_
  refine r_newa (X := []) (Y := e_L G g :: (eO mm 4 (.ref m8 :: .ref m17 :: .ref m26 :: .ref m35 :: .ref m42 :: .ref m49 :: .ref m73 :: .ref m96 :: .int 0 :: .int 1 :: .int 1 :: .int 0 :: .ref m125 :: .int 0 :: .int 0 :: .int 0 :: .int 0 :: .int 0 :: .int 0 :: .int 0 :: .int (-1) :: .long 0 :: .ref m138 :: .int 0 :: .int 0 :: .int 0 :: .int 0 :: .int 0 :: .int 0 :: .int 0 :: .int 0 :: .int 0 :: .ref m146 :: .int 0 :: []) :: eA (gcA G 0) m8 474 (fun j => if j < 4 then (upd (upd (upd (upd (fun _ => 0) (ix 0) 5) (ix 1) 10) (ix 2) 4) (ix 3) 3) j else if j = 4 then 32 else 0) :: eA (gcA G 0) m49 4 (upd (upd (upd (upd (fun _ => 0) (ix 0) 5) (ix 1) 10) (ix 2) 4) (ix 3) 3) :: eA (gcA G 0) m146 64 (fun _ => 0) :: eA (gcA G 0) m138 40 (fun _ => 0) :: eA (gcA G 0) m125 800 (fun _ => 0) :: eA (gcA G 0) m96 4 (upd (upd (upd (upd (fun _ => 0) (ix 0) 50) (ix 1) 99) (ix 2) 9) (ix 3) 9) :: eA (gcA G 0) m73 4 (upd (upd (upd (upd (fun _ => 0) (ix 0) 0) (ix 1) 0) (ix 2) 1) (ix 3) 1) :: eA (gcA G 2) m42 2 (fun _ => 0) :: eA (gcA G 0) m35 948 (fun _ => 0) :: eA (gcA G 0) m26 474 (fun _ => 0) :: eA (gcA G 0) m17 474 (fun _ => 0) :: (eO o 3 [.ref c8, .int 0, .int 0, .int (-1), .ref (ad33 0), .ref (ad44 0), .ref c52, .ref c59, .ref c74, .int 0, .int 1, .int 1, .ref c110, .int 0] :: eA (gcA G 1) c110 64 (fun _ => 0) :: eO c74 2 [.ref c8, .ref (ad44 0), .int 0, .int 0, .int 0, .int 0, .int 0, .int 0, .int 0] :: eO c59 0 [.ref (ad33 0), .ref c67] :: eA (gcA G 0) c67 5 (fun _ => 0) :: eN (gcA G 6) c52 2 :: (LLx G ad44 ++ ((LLx G ad33 ++ (eA (gcA G 1) c8 800 (fun _ => 0) :: []))))))) (ty := .double) (t0 := 4) (atype := .double) (N' := 1) (a0 := (1, .inr (.inr (.inr (.inl (fun _ => 0)))))) C1 Z rfl tm_7_16 rfl (fun _ => rfl) (by decide) (by decide) (Nat.le_of_ble_eq_true rfl) (Nat.le_of_ble_eq_true rfl) (Nat.le_of_ble_eq_true rfl) dL_law_21 (fun d H Z => ?_)
  refine lv_astore (lv' := [(4, .ref d), (3, .ref g), (2, .ref mm), (1, .ref o), (0, .ref b)]) hx hb dL_law_23 hl (by decide) rfl (fun ls hl => ?_)
  refine lv_iconst (v := 0) hx hb dL_law_25 (by decide) ?_
  refine lv_istore (lv' := [(5, .int 0), (4, .ref d), (3, .ref g), (2, .ref mm), (1, .ref o), (0, .ref b)]) hx hb dL_law_26 hl (by decide) rfl (fun ls hl => ?_)
  have Z9 := st_world (G := G) (s := s) (o := o) (mm := mm) (g := g) (d := d) (ad33 := ad33) (ad44 := ad44) Z
  refine W.widen (k := 400 + 60 * 0) (n := 10000 + 700 * 0) (Nat.le_of_ble_eq_true rfl) (Nat.le_of_ble_eq_true rfl) ?_
  refine kk (gB G (adS (o :: c8 :: c110 :: c52 :: c59 :: c67 :: c74 :: mm :: m8 :: m17 :: m26 :: m35 :: m42 :: m49 :: m73 :: m96 :: m125 :: m138 :: m146 :: g :: d :: []) ad33 ad44)) v0 H locs ls ?_ hgb (iv_start rfl) Z9 (lv_sub hl [5, 4, 3, 2, 1, 0] rfl)
  exact ⟨hx, hb, hml, hr, hlocks, hown, fun w h => hts w (List.mem_filter.mp h).1, K, Nat.le_refl _⟩
set_option maxRecDepth 100000 in
set_option maxHeartbeats 4000000 in
theorem whole_start {p : Program} {e : Env} {s : State} {m : MethodId} {below : List Frame} {meth : Method} {c : Code} (l : Launch) (hflags : l.flags = flags0) {b L : Nat} {xs : Nat → Int32} (hL : L ≤ 2560) (C0 : lw_At p s m meth c b L xs) : W p l e room_1 s m #[Value.ref b] below meth c s.heap [] 0 0 (lw_Z below #[Value.ref b] s) (entryFrame m ([Value.ref b] : List Value).toArray 9) := by
  have hst : l.stackTraces = false := by
    unfold Launch.stackTraces
    rw [hflags]
    decide +kernel
  obtain ⟨hx, hb, hr, hml, hown, hts, hX, hbl, hlocks, hgv⟩ := id C0
  refine law_start l C0 (fun G v H locs ls C1 hgb h Z hl => ?_)
  refine law_loop l hst hX hbl hL (fun i j hj G v H locs ls C1 hgb h Z hl => ?_) (L + 1) 0 0 (by omega) (Nat.zero_le L) rfl G v H locs ls C1 hgb h Z hl
  refine lv_iconst (v := 1) hx hb dL_law_2234 (by decide) ?_
  refine va_forget (fun q hq => by have := Z.2.2.2.2 q hq; rw [← hgb]; exact this) ?_
  refine W.widen (k := 601024) (n := 7293034) (by omega) (by omega) ?_
  exact lw_ret (d0 := s.drawn) (Drawn.sameBut.refl s.drawn lw_cs) hx hb hr hlocks dL_law_2235
