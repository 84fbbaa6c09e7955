/-! THE START: all cells numbered, what stands between two calls -/
def fvI : Nat → Int32 := upd (upd (upd (upd (fun _ => 0) (ix 0) 5) (ix 1) 10) (ix 2) 4) (ix 3) 3
def lvI : Nat → Int32 := upd (upd (upd (upd (fun _ => 0) (ix 0) 0) (ix 1) 0) (ix 2) 1) (ix 3) 1
def gvI : Nat → Int32 := upd (upd (upd (upd (fun _ => 0) (ix 0) 50) (ix 1) 99) (ix 2) 9) (ix 3) 9
def stI : Nat → Int32 := fun j => if j < 4 then fvI j else if j = 4 then 32 else 0
def v0 : V3 := fun c => if c = 0 then (fun j => if j = 3 then -1 else if j = 10 then 1 else if j = 11 then 1 else 0) else if c = 7 then (fun j => if j = 9 then 1 else if j = 10 then 1 else if j = 20 then -1 else 0) else if c = 8 then stI else if c = 13 then fvI else if c = 14 then lvI else if c = 15 then gvI else if c < 21 then (fun _ => 0) else if c < 75 then vL (c - 21) else vL (c - 75)
def adS (x : List Nat) (l3 l4 : Nat → Nat) : Nat → Nat := fun c => if c < 21 then x.getD c 0 else if c < 75 then l3 (c - 21) else l4 (c - 75)
theorem adS_3 {x : List Nat} {l3 l4 : Nat → Nat} {r : Nat} (h : r < 54) : adS x l3 l4 (21 + r) = l3 r := by
  unfold adS
  rw [if_neg (by omega), if_pos (by omega), Nat.add_sub_cancel_left]
theorem adS_4 {x : List Nat} {l3 l4 : Nat → Nat} {r : Nat} : adS x l3 l4 (75 + r) = l4 r := by
  unfold adS
  rw [if_neg (by omega), if_neg (by omega), Nat.add_sub_cancel_left]
theorem v0_3 {r : Nat} (h : r < 54) : v0 (21 + r) = vL r := by
  unfold v0
  rw [if_neg (by omega), if_neg (by omega), if_neg (by omega), if_neg (by omega), if_neg (by omega), if_neg (by omega), if_neg (by omega), if_pos (by omega), Nat.add_sub_cancel_left]
theorem v0_4 {r : Nat} : v0 (75 + r) = vL r := by
  unfold v0
  rw [if_neg (by omega), if_neg (by omega), if_neg (by omega), if_neg (by omega), if_neg (by omega), if_neg (by omega), if_neg (by omega), if_neg (by omega), Nat.add_sub_cancel_left]
theorem range21 {α : Type} (F : Nat → α) : (List.range 21).map F = F 0 :: F 1 :: F 2 :: F 3 :: F 4 :: F 5 :: F 6 :: F 7 :: F 8 :: F 9 :: F 10 :: F 11 :: F 12 :: F 13 :: F 14 :: F 15 :: F 16 :: F 17 :: F 18 :: F 19 :: F 20 :: [] := rfl
theorem range129 {α : Type} (F : Nat → α) : (List.range 129).map F = F 0 :: F 1 :: F 2 :: F 3 :: F 4 :: F 5 :: F 6 :: F 7 :: F 8 :: F 9 :: F 10 :: F 11 :: F 12 :: F 13 :: F 14 :: F 15 :: F 16 :: F 17 :: F 18 :: F 19 :: F 20 :: ((List.range 54).map (fun r => F (21 + r)) ++ (List.range 54).map (fun r => F (75 + r))) := by
  rw [show 129 = 21 + 54 + 54 from rfl, List.range_add, List.range_add, List.map_append, List.map_append, range21, List.map_map, List.map_map]
  rfl
theorem pm_start {α : Type} (eD eL m st fv ln od tx gv lv is sv as bk o li rd br fo sd t0 : α) (L4 L3 : List α) : (eD :: eL :: m :: st :: fv :: ln :: od :: tx :: gv :: lv :: is :: sv :: as :: bk :: o :: li :: rd :: br :: fo :: sd :: (L4 ++ (L3 ++ (t0 :: [])))).Perm (o :: t0 :: li :: sd :: br :: fo :: rd :: m :: st :: bk :: as :: sv :: is :: fv :: lv :: gv :: tx :: od :: ln :: eL :: eD :: (L3 ++ L4)) := by
  classical
  rw [List.perm_iff_count]
  intro a
  simp only [List.count_cons, List.count_append, List.count_nil]
  omega
theorem iv_start {B : Int} (hB : B = 10300) : IV v0 129 B := by
  subst hB
  have w0 : v0 8 = stI := rfl
  have e : ∀ k, k < 474 → v0 8 k = y0 (fun _ => 0) 32 k := fun k hk => by
    rw [w0]
    rcases (show k = 0 ∨ k = 1 ∨ k = 2 ∨ k = 3 ∨ k = 4 ∨ 5 ≤ k by omega) with rfl | rfl | rfl | rfl | rfl | h
    · decide
    · decide
    · decide
    · decide
    · decide
    · unfold stI y0
      rw [if_neg (by omega), if_neg (by omega), if_neg (by omega), if_neg (by omega), if_pos hk]
  have hO : OK (v0 8) 0 0 32 10300 := OK_cg (y0_ok (by decide) (by decide)) e
  have q0 : (0 : Int32).toInt = 0 := rfl
  have q1 : (1 : Int32).toInt = 1 := rfl
  have d9 : v0 0 9 = 0 := rfl
  have d10 : v0 0 10 = 1 := rfl
  have d11 : v0 0 11 = 1 := rfl
  refine ⟨⟨0, 0, 32, ⟨⟨fun j hj => ?_, rfl, rfl, rfl, rfl, rfl, rfl⟩, fun o ho => absurd ho (Nat.not_lt_zero o), fun i hi => absurd hi (Nat.not_lt_zero i)⟩, hO, ⟨⟨rfl, rfl, rfl⟩, ?_, ?_, ?_⟩⟩, ⟨0, ⟨rfl, rfl, by decide⟩, fun k hk => absurd hk (Nat.not_lt_zero k)⟩, ⟨rfl, rfl⟩, ⟨0, by decide, rfl, rfl, fun k hk => absurd hk (Nat.not_lt_zero k)⟩, ⟨.inl ⟨rfl, rfl⟩, .inl ⟨rfl, rfl⟩, .inl ⟨rfl, rfl, rfl⟩⟩, fun j hj => ?_, by decide, by decide⟩
  · rcases (show j = 0 ∨ j = 1 ∨ j = 2 ∨ j = 3 by omega) with rfl | rfl | rfl | rfl <;> decide
  · rw [d9, d10, q0, q1]
    decide
  · rw [d11, q1]
    decide
  · rw [d11, q1]
    decide
  · rcases (show j = 0 ∨ j = 1 ∨ j = 2 ∨ j = 3 by omega) with rfl | rfl | rfl | rfl <;> exact ⟨by decide, by decide, by decide⟩
