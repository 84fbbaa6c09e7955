/-! THE FIRST WORLD, NUMBERED -/
def v0 : V3 := fun c => if c = 0 then (fun j => if j = 3 then -1 else if j = 10 then 1 else if j = 11 then 1 else 0) else if c < 8 then (fun _ => 0) else if c < 62 then vL (c - 8) else vL (c - 62)
def adS (x : List Nat) (l3 l4 : Nat → Nat) : Nat → Nat := fun c => if c < 8 then x.getD c 0 else if c < 62 then l3 (c - 8) else l4 (c - 62)
theorem adS_3 {x : List Nat} {l3 l4 : Nat → Nat} {r : Nat} (h : r < 54) : adS x l3 l4 (8 + r) = l3 r := by
  unfold adS
  rw [if_neg (by omega), if_pos (by omega), Nat.add_sub_cancel_left]
theorem adS_4 {x : List Nat} {l3 l4 : Nat → Nat} {r : Nat} : adS x l3 l4 (62 + r) = l4 r := by
  unfold adS
  rw [if_neg (by omega), if_neg (by omega), Nat.add_sub_cancel_left]
theorem v0_3 {r : Nat} (h : r < 54) : v0 (8 + r) = vL r := by
  unfold v0
  rw [if_neg (by omega), if_neg (by omega), if_pos (by omega), Nat.add_sub_cancel_left]
theorem v0_4 {r : Nat} : v0 (62 + r) = vL r := by
  unfold v0
  rw [if_neg (by omega), if_neg (by omega), if_neg (by omega), Nat.add_sub_cancel_left]
theorem range8x {α : Type} (F : Nat → α) : (List.range 8).map F = F 0 :: F 1 :: F 2 :: F 3 :: F 4 :: F 5 :: F 6 :: F 7 :: [] := rfl
theorem range116 {α : Type} (F : Nat → α) : (List.range 116).map F = F 0 :: F 1 :: F 2 :: F 3 :: F 4 :: F 5 :: F 6 :: F 7 :: ((List.range 54).map (fun r => F (8 + r)) ++ (List.range 54).map (fun r => F (62 + r))) := by
  rw [show 116 = 8 + 54 + 54 from rfl, List.range_add, List.range_add, List.map_append, List.map_append, range8x, List.map_map, List.map_map]
  rfl
theorem pm_start {α : Type} (m o li rd br fo sd t0 : α) (L4 L3 : List α) : (m :: o :: li :: rd :: br :: fo :: sd :: (L4 ++ (L3 ++ (t0 :: [])))).Perm (o :: t0 :: li :: sd :: br :: fo :: rd :: m :: (L3 ++ L4)) := by
  classical
  rw [List.perm_iff_count]
  intro a
  simp only [List.count_cons, List.count_append, List.count_nil]
  omega
def σ0 : Nat → Int32 := fun k => if k < 4 then f4 5 10 4 3 k else if k = 4 then nI 32 else 0
theorem sp_start : SP v0 116 σ0 := by
  refine ⟨⟨⟨fun j hj => ?_, by decide, by decide, by decide, by decide, by decide, by decide⟩, fun o ho => absurd ho (Nat.not_lt_zero o), fun i hi => absurd hi (Nat.not_lt_zero i)⟩, ⟨⟨by decide, by decide, by decide, by decide⟩, by decide, by decide⟩, by decide, by decide, by decide, .inl ⟨by decide, rfl⟩⟩
  rcases (show j = 0 ∨ j = 1 ∨ j = 2 ∨ j = 3 by omega) with rfl | rfl | rfl | rfl <;> decide
def gB (G : zG) (ad : Nat → Nat) : zG := (gD G, ad, gcA G, 116, gb G, gk G)
theorem st_world {G : zG} {s : State} {a o c8 c52 c59 c67 c74 c110 : Nat} {ad33 ad44 : Nat → Nat} {H : Heap} {locs : List Loc} (Z : Zr G s (eO a 4 [.ref o, .null, .int 0, .int 0, .int 0] :: (eO o 3 [.ref c8, .int 0, .int 0, .int (-1), .ref (ad33 0), .ref (ad44 0), .ref c52, .ref c59, .ref c74, .int 0, .int 1, .int 1, .ref c110, .int 0] :: eA (gcA G 1) c110 64 (fun _ => 0) :: eO c74 2 [.ref c8, .ref (ad44 0), .int 0, .int 0, .int 0, .int 0, .int 0, .int 0, .int 0] :: eO c59 0 [.ref (ad33 0), .ref c67] :: eA (gcA G 0) c67 5 (fun _ => 0) :: eN (gcA G 6) c52 2 :: (LLx G ad44 ++ ((LLx G ad33 ++ (eA (gcA G 1) c8 800 (fun _ => 0) :: [])))))) H locs) : Zs (gB G (adS (o :: c8 :: c110 :: c52 :: c59 :: c67 :: c74 :: a :: []) ad33 ad44)) s v0 H locs := by
  have Z2 := Z.perm (pm_start _ _ _ _ _ _ _ _ _ _)
  have key : Zr G s (WS (gB G (adS (o :: c8 :: c110 :: c52 :: c59 :: c67 :: c74 :: a :: []) ad33 ad44)) v0) H locs := by
    refine Z2.cv ?_
    show Cv _ ((List.range 116).map (fun c => (gad (gB G (adS (o :: c8 :: c110 :: c52 :: c59 :: c67 :: c74 :: a :: []) ad33 ad44)) c, ent (gB G (adS (o :: c8 :: c110 :: c52 :: c59 :: c67 :: c74 :: a :: []) ad33 ad44)) v0 c)))
    rw [range116]
    refine Cv.cons rfl (Eqv.of rfl) (Cv.cons rfl (Eqv.of rfl) (Cv.cons rfl (Eqv.of rfl) (Cv.cons rfl (Eqv.q (fun j hj => (if_pos rfl).symm)) (Cv.cons rfl (Eqv.of rfl) (Cv.cons rfl (Eqv.of rfl) (Cv.cons rfl (Eqv.of rfl) (Cv.cons rfl (Eqv.of rfl) (Cv.app ?_ ?_))))))))
    · exact LL_cv ⟨.inl rfl, by show 8 + 54 ≤ 116; decide⟩ rfl (fun r hr => adS_3 hr) (fun r hr => v0_3 hr)
    · exact LL_cv ⟨.inr (.inl rfl), by show 62 + 54 ≤ 116; decide⟩ rfl (fun r hr => adS_4) (fun r hr => v0_4)
  exact key
