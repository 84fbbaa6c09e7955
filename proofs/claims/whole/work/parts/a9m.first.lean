/-! THE FIRST WORLD, NUMBERED -/
theorem z64 : mk64 0 0 = 0 := by decide
abbrev e_D (G : zG) (d : Nat) : Nat × va_E := (d, .inl (gcA G 4, 1, .inr (.inr (.inr (.inl (fun _ => 0))))))
abbrev e_L (G : zG) (g : Nat) : Nat × va_E := (g, .inl (gcA G 3, 1, .inr (.inl (fun _ => 0))))
def gB (G : zG) (ad : Nat → Nat) : zG := (gD G, ad, gcA G, 129, gb G, gk G)
theorem st_world {G : zG} {s : State} {o mm g d c8 c52 c59 c67 c74 c110 m8 m17 m26 m35 m42 m49 m73 m96 m125 m138 m146 : Nat} {ad33 ad44 : Nat → Nat} {H : Heap} {locs : List Loc} (Z : Zr G s (e_D G d :: e_L G g :: eO mm 4 (.ref m8 :: .ref m17 :: .ref m26 :: .ref m35 :: .ref m42 :: .ref m49 :: .ref m73 :: .ref m96 :: .int 0 :: .int 1 :: .int 1 :: .int 0 :: .ref m125 :: .int 0 :: .int 0 :: .int 0 :: .int 0 :: .int 0 :: .int 0 :: .int 0 :: .int (-1) :: .long 0 :: .ref m138 :: .int 0 :: .int 0 :: .int 0 :: .int 0 :: .int 0 :: .int 0 :: .int 0 :: .int 0 :: .int 0 :: .ref m146 :: .int 0 :: []) :: eA (gcA G 0) m8 474 (fun j => if j < 4 then (upd (upd (upd (upd (fun _ => 0) (ix 0) 5) (ix 1) 10) (ix 2) 4) (ix 3) 3) j else if j = 4 then 32 else 0) :: eA (gcA G 0) m49 4 (upd (upd (upd (upd (fun _ => 0) (ix 0) 5) (ix 1) 10) (ix 2) 4) (ix 3) 3) :: eA (gcA G 0) m146 64 (fun _ => 0) :: eA (gcA G 0) m138 40 (fun _ => 0) :: eA (gcA G 0) m125 800 (fun _ => 0) :: eA (gcA G 0) m96 4 (upd (upd (upd (upd (fun _ => 0) (ix 0) 50) (ix 1) 99) (ix 2) 9) (ix 3) 9) :: eA (gcA G 0) m73 4 (upd (upd (upd (upd (fun _ => 0) (ix 0) 0) (ix 1) 0) (ix 2) 1) (ix 3) 1) :: eA (gcA G 2) m42 2 (fun _ => 0) :: eA (gcA G 0) m35 948 (fun _ => 0) :: eA (gcA G 0) m26 474 (fun _ => 0) :: eA (gcA G 0) m17 474 (fun _ => 0) :: (eO o 3 [.ref c8, .int 0, .int 0, .int (-1), .ref (ad33 0), .ref (ad44 0), .ref c52, .ref c59, .ref c74, .int 0, .int 1, .int 1, .ref c110, .int 0] :: eA (gcA G 1) c110 64 (fun _ => 0) :: eO c74 2 [.ref c8, .ref (ad44 0), .int 0, .int 0, .int 0, .int 0, .int 0, .int 0, .int 0] :: eO c59 0 [.ref (ad33 0), .ref c67] :: eA (gcA G 0) c67 5 (fun _ => 0) :: eN (gcA G 6) c52 2 :: (LLx G ad44 ++ ((LLx G ad33 ++ (eA (gcA G 1) c8 800 (fun _ => 0) :: [])))))) H locs) : Zs (gB G (adS (o :: c8 :: c110 :: c52 :: c59 :: c67 :: c74 :: mm :: m8 :: m17 :: m26 :: m35 :: m42 :: m49 :: m73 :: m96 :: m125 :: m138 :: m146 :: g :: d :: []) ad33 ad44)) s v0 H locs := by
  have Z2 := Z.perm (pm_start _ _ _ _ _ _ _ _ _ _ _ _ _ _ _ _ _ _ _ _ _ _ _)
  have key : Zr G s (WS (gB G (adS (o :: c8 :: c110 :: c52 :: c59 :: c67 :: c74 :: mm :: m8 :: m17 :: m26 :: m35 :: m42 :: m49 :: m73 :: m96 :: m125 :: m138 :: m146 :: g :: d :: []) ad33 ad44)) v0) H locs := by
    refine Z2.cv ?_
    show Cv _ ((List.range 129).map (fun c => (gad (gB G (adS (o :: c8 :: c110 :: c52 :: c59 :: c67 :: c74 :: mm :: m8 :: m17 :: m26 :: m35 :: m42 :: m49 :: m73 :: m96 :: m125 :: m138 :: m146 :: g :: d :: []) ad33 ad44)) c, ent (gB G (adS (o :: c8 :: c110 :: c52 :: c59 :: c67 :: c74 :: mm :: m8 :: m17 :: m26 :: m35 :: m42 :: m49 :: m73 :: m96 :: m125 :: m138 :: m146 :: g :: d :: []) ad33 ad44)) v0 c)))
    rw [range129]
    refine Cv.cons rfl (Eqv.of rfl) (Cv.cons rfl (Eqv.of rfl) (Cv.cons rfl (Eqv.of rfl) (Cv.cons rfl (Eqv.q (fun j hj => (if_pos rfl).symm)) (Cv.cons rfl (Eqv.of rfl) (Cv.cons rfl (Eqv.of rfl) (Cv.cons rfl (Eqv.of rfl) (Cv.cons rfl (Eqv.of ?_) (Cv.cons rfl (Eqv.of rfl) (Cv.cons rfl (Eqv.of rfl) (Cv.cons rfl (Eqv.of rfl) (Cv.cons rfl (Eqv.of rfl) (Cv.cons rfl (Eqv.of rfl) (Cv.cons rfl (Eqv.of rfl) (Cv.cons rfl (Eqv.of rfl) (Cv.cons rfl (Eqv.of rfl) (Cv.cons rfl (Eqv.of rfl) (Cv.cons rfl (Eqv.of rfl) (Cv.cons rfl (Eqv.of rfl) (Cv.cons rfl (Eqv.of ?_) (Cv.cons rfl (Eqv.of ?_) (Cv.app ?_ ?_)))))))))))))))))))))
    · rfl
    · show _ = Sum.inl (gcA G 3, 1, Sum.inr (Sum.inl (fun _ => mk64 0 0)))
      rw [z64]
    · show _ = Sum.inl (gcA G 4, 1, Sum.inr (Sum.inr (Sum.inr (Sum.inl (fun _ => (mk64 0 0).toUInt64)))))
      rw [z64]
      rfl
    · exact LL_cv ⟨.inl rfl, by show 21 + 54 ≤ 129; decide⟩ rfl (fun r hr => adS_3 hr) (fun r hr => v0_3 hr)
    · exact LL_cv ⟨.inr (.inl rfl), by show 75 + 54 ≤ 129; decide⟩ rfl (fun r hr => adS_4) (fun r hr => v0_4)
  exact key
