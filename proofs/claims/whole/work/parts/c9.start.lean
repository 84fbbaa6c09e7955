/-! THE LAW FROM ITS ENTRY -/
theorem law_start {p : Program} (l : Launch) {e : Env} {s : State} {m : MethodId} {below : List Frame} {meth : Method} {c : Code} {b L : Nat} {xs : Nat → Int32} (C0 : lw_At p s m meth c b L xs) {Q : State → Prop} (kk : ∀ (G : zG) (v : V3) (H : Heap) (locs : List Loc) (ls : Array Slot), Cx G RL cL_law 9 (some .boolean) p s m #[Value.ref b] meth c → gb G = s.heap.size → IV v (gn G) (10300 + 99 * ((0 : Nat) : Int)) → Zs G s v H locs → lv_has ls 9 [(0, .ref b), (1, .ref (gad G 0)), (2, .ref (gad G 7)), (3, .ref (gad G 19)), (4, .ref (gad G 20)), (5, .int (nI 0))] → W p l e room_1 s m #[Value.ref b] below meth c H locs (400 + 60 * 0) (10000 + 700 * 0) Q (F0 m 28 ls [])) : W p l e room_1 s m #[Value.ref b] below meth c s.heap [] 0 0 Q (entryFrame m ([Value.ref b] : List Value).toArray 9) := by
  sorry
set_option maxRecDepth 100000 in
set_option maxHeartbeats 4000000 in
theorem whole_start {p : Program} {e : Env} {s : State} {m : MethodId} {below : List Frame} {meth : Method} {c : Code} (l : Launch) (hflags : l.flags = flags0) {b L : Nat} {xs : Nat → Int32} (hL : L ≤ 2560) (C0 : lw_At p s m meth c b L xs) : W p l e room_1 s m #[Value.ref b] below meth c s.heap [] 0 0 (lw_Z below #[Value.ref b] s) (entryFrame m ([Value.ref b] : List Value).toArray 9) := by
  have hst : l.stackTraces = false := by
    unfold Launch.stackTraces
    rw [hflags]
    decide +kernel
  obtain ⟨hx, hb, hr, hml, hown, hts, hX, hbl, hlocks, hgv⟩ := id C0
  refine law_start l C0 (fun G v H locs ls C1 hgb h Z hl => ?_)
  refine law_loop l hst hX hbl hL (fun i j hj G v H locs ls C1 hgb h Z hl => ?_) (L + 1) 0 0 (by omega) (Nat.zero_le L) rfl G v H locs ls C1 hgb h Z hl
  refine lv_iconst (v := 1) hx hb dL_law_2234 (by decide) ?_
  refine va_forget (fun q hq => by have := Z.2.2.2.2 q hq; rw [← hgb]; exact this) ?_
  refine W.widen (k := 601024) (n := 7293034) (by omega) (by omega) ?_
  exact lw_ret (d0 := s.drawn) (Drawn.sameBut.refl s.drawn lw_cs) hx hb hr hlocks dL_law_2235
