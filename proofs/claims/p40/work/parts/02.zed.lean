/-! THE STATE IN ONE FUNCTION: v c j is the int in place j of cell c; cells are numbered, their addresses are a map -/
abbrev V3 : Type := Nat → Nat → Int32
def up2 (v : V3) (c j : Nat) (x : Int32) : V3 := fun c' => if c' = c then upd (v c') j x else v c'
theorem up2_row (v : V3) (c j : Nat) (x : Int32) : up2 v c j x c = upd (v c) j x := if_pos rfl
theorem up2_off (v : V3) {c c' : Nat} (j : Nat) (x : Int32) (h : c' ≠ c) : up2 v c j x c' = v c' := if_neg h
def mk64 (hi lo : Int32) : Int64 := Int64.ofBitVec (hi.toBitVec ++ lo.toBitVec)
def hi64 (x : Int64) : Int32 := Int32.ofBitVec (x.toBitVec.extractLsb' 32 32)
def lo64 (x : Int64) : Int32 := Int32.ofBitVec (x.toBitVec.extractLsb' 0 32)
/-- parameters: class numbers and slots, addresses, array classes, cells alive, the first new address, addresses of constants -/
abbrev zG : Type := va_G × (Nat → Nat) × (Nat → ClassId) × Nat × Nat × (Nat → Nat)
abbrev gD (G : zG) : va_G := G.1
abbrev gad (G : zG) : Nat → Nat := G.2.1
abbrev gcA (G : zG) : Nat → ClassId := G.2.2.1
abbrev gn (G : zG) : Nat := G.2.2.2.1
abbrev gb (G : zG) : Nat := G.2.2.2.2.1
abbrev gk (G : zG) : Nat → Nat := G.2.2.2.2.2
def zA (G : zG) : Nat → Prop := fun q => gb G ≤ q
def zI (G : zG) (N : Nat) (f : Nat → Int32) : va_E := .inl (gcA G 0, N, .inl f)
def entL (G : zG) (v : V3) (b r : Nat) : va_E :=
  if r = 0 then .inr (1, [.ref (gad G (b + 1)), .ref (gad G (b + 2)), .ref (gad G (b + 3)), .ref (gad G (b + 4)), .ref (gad G (b + 5)), .int (v b 5), .int (v b 6), .int (v b 7), .int (v b 8), .int (v b 9), .int (v b 10)])
  else if r = 1 then .inl (gcA G 0, 4, .inl (v (b + 1)))
  else if r = 2 then .inl (gcA G 5, 8, .inr (.inr (.inr (.inr (fun j => some (gad G (b + 6 + j)))))))
  else if r = 3 then .inl (gcA G 5, 40, .inr (.inr (.inr (.inr (fun j => some (gad G (b + 14 + j)))))))
  else if r = 4 then .inl (gcA G 0, 4, .inl (v (b + 4)))
  else if r = 5 then .inl (gcA G 0, 40, .inl (v (b + 5)))
  else if r < 14 then .inl (gcA G 0, 8, .inl (v (b + r)))
  else .inl (gcA G 0, 10, .inl (v (b + r)))
def entS (G : zG) (v : V3) (c : Nat) : va_E := match c with
  | 0 => .inr (3, [.ref (gad G 1), .int (v 0 1), .int (v 0 2), .int (v 0 3), .ref (gad G 8), .ref (gad G 62), .ref (gad G 3), .ref (gad G 4), .ref (gad G 6), .int (v 0 9), .int (v 0 10), .int (v 0 11), .ref (gad G 2), .int (v 0 13)])
  | 1 => .inl (gcA G 1, 800, .inl (v 1))
  | 2 => .inl (gcA G 1, 64, .inl (v 2))
  | 3 => .inl (gcA G 6, 2, .inr (.inr (.inr (.inr (fun j => if v 3 j = 0 then none else some (gad G (8 + 54 * (v 3 j).toNatClampNeg)))))))
  | 4 => .inr (0, [.ref (gad G 8), .ref (gad G 5)])
  | 5 => .inl (gcA G 0, 5, .inl (v 5))
  | 6 => .inr (2, [.ref (gad G 1), .ref (gad G 62), .int (v 6 2), .int (v 6 3), .int (v 6 4), .int (v 6 5), .int (v 6 6), .int (v 6 7), .int (v 6 8)])
  | _ => .inr (4, [.ref (gad G 0), (if v 7 1 = 0 then .null else .ref (gk G 3)), .int (v 7 2), .int (v 7 3), .int (v 7 4)])
def ent (G : zG) (v : V3) (c : Nat) : va_E := if c < 8 then entS G v c else entL G v (c - (c - 8) % 54) ((c - 8) % 54)
/-- a ledger, alive -/
def isL (G : zG) (b : Nat) : Prop := (b = 8 ∨ b = 62 ∨ b = 116 ∨ b = 170) ∧ b + 54 ≤ gn G
theorem isL_lt {G : zG} {b : Nat} (h : isL G b) (r : Nat) (hr : r < 54) : b + r < gn G := by have := h.2; omega
theorem ent_at {G : zG} {v : V3} {b : Nat} (h : isL G b) (r : Nat) (hr : r < 54) : ent G v (b + r) = entL G v b r := by
  have e : (b + r - 8) % 54 = r := by rcases h.1 with e | e | e | e <;> omega
  have e2 : b + r - r = b := by omega
  have e3 : ¬ b + r < 8 := by rcases h.1 with e | e | e | e <;> omega
  unfold ent
  rw [if_neg e3, e, e2]
theorem ent_L {G : zG} {v : V3} {b : Nat} (h : isL G b) : ent G v b = .inr (1, [.ref (gad G (b + 1)), .ref (gad G (b + 2)), .ref (gad G (b + 3)), .ref (gad G (b + 4)), .ref (gad G (b + 5)), .int (v b 5), .int (v b 6), .int (v b 7), .int (v b 8), .int (v b 9), .int (v b 10)]) := (ent_at (v := v) h 0 (by omega)).trans (if_pos rfl)
theorem ent_L1 {G : zG} {v : V3} {b : Nat} (h : isL G b) : ent G v (b + 1) = .inl (gcA G 0, 4, .inl (v (b + 1))) := ent_at h 1 (by omega)
theorem ent_L2 {G : zG} {v : V3} {b : Nat} (h : isL G b) : ent G v (b + 2) = .inl (gcA G 5, 8, .inr (.inr (.inr (.inr (fun j => some (gad G (b + 6 + j))))))) := ent_at h 2 (by omega)
theorem ent_L3 {G : zG} {v : V3} {b : Nat} (h : isL G b) : ent G v (b + 3) = .inl (gcA G 5, 40, .inr (.inr (.inr (.inr (fun j => some (gad G (b + 14 + j))))))) := ent_at h 3 (by omega)
theorem ent_L4 {G : zG} {v : V3} {b : Nat} (h : isL G b) : ent G v (b + 4) = .inl (gcA G 0, 4, .inl (v (b + 4))) := ent_at h 4 (by omega)
theorem ent_L5 {G : zG} {v : V3} {b : Nat} (h : isL G b) : ent G v (b + 5) = .inl (gcA G 0, 40, .inl (v (b + 5))) := ent_at h 5 (by omega)
theorem ent_O {G : zG} {v : V3} {b i : Nat} (h : isL G b) (hi : i < 8) : ent G v (b + 6 + i) = .inl (gcA G 0, 8, .inl (v (b + 6 + i))) := by
  rw [Nat.add_assoc, ent_at h (6 + i) (by omega)]
  unfold entL
  rw [if_neg (by omega), if_neg (by omega), if_neg (by omega), if_neg (by omega), if_neg (by omega), if_neg (by omega), if_pos (by omega)]
theorem ent_B {G : zG} {v : V3} {b i : Nat} (h : isL G b) (hi : i < 40) : ent G v (b + 14 + i) = .inl (gcA G 0, 10, .inl (v (b + 14 + i))) := by
  rw [Nat.add_assoc, ent_at h (14 + i) (by omega)]
  unfold entL
  rw [if_neg (by omega), if_neg (by omega), if_neg (by omega), if_neg (by omega), if_neg (by omega), if_neg (by omega), if_neg (by omega)]
theorem isL_O {G : zG} {b i : Nat} (h : isL G b) (hi : i < 8) : b + 6 + i < gn G := by have := h.2; omega
theorem isL_B {G : zG} {b i : Nat} (h : isL G b) (hi : i < 40) : b + 14 + i < gn G := by have := h.2; omega
/-- a cell's content depends on its own row alone -/
theorem ent_cong {G : zG} {v v' : V3} {c : Nat} (h : v c = v' c) : ent G v c = ent G v' c := by
  unfold ent
  by_cases hc : c < 8
  · rw [if_pos hc, if_pos hc]
    match c, h, hc with
    | 0, h, _ | 1, h, _ | 2, h, _ | 3, h, _ | 4, h, _ | 5, h, _ | 6, h, _ | 7, h, _ => simp only [entS, h]
    | k + 8, _, hk => omega
  · rw [if_neg hc, if_neg hc]
    generalize hr : (c - 8) % 54 = r
    have hb : c - r + r = c := by omega
    generalize hbb : c - r = b at hb ⊢
    subst hb
    unfold entL
    by_cases h0 : r = 0
    · subst h0
      rw [if_pos rfl, if_pos rfl]
      simp only [Nat.add_zero] at h
      rw [h]
    · rw [if_neg h0, if_neg h0]
      by_cases h1 : r = 1
      · subst h1; simp only [if_true, h]
      · rw [if_neg h1, if_neg h1]
        by_cases h2 : r = 2
        · subst h2; simp only [if_true]
        · rw [if_neg h2, if_neg h2]
          by_cases h3 : r = 3
          · subst h3; simp only [if_true]
          · rw [if_neg h3, if_neg h3]
            by_cases h4 : r = 4
            · subst h4; simp only [if_true, h]
            · rw [if_neg h4, if_neg h4]
              by_cases h5 : r = 5
              · subst h5; simp only [if_true, h]
              · rw [if_neg h5, if_neg h5, h]
/-- the cells alive -/
def WS (G : zG) (v : V3) : va_W := (List.range (gn G)).map (fun c => (gad G c, ent G v c))
theorem WS_at {G : zG} {v : V3} {c : Nat} (h : c < gn G) : (WS G v)[c]? = some (gad G c, ent G v c) := by
  unfold WS
  rw [List.getElem?_map, List.getElem?_range h]
  rfl
theorem WS_get {G : zG} {v : V3} {c : Nat} {e : va_E} (h : c < gn G) (he : ent G v c = e) : (WS G v)[c]? = some (gad G c, e) := by rw [WS_at h, he]
theorem WS_set {G : zG} {v v' : V3} {c : Nat} {e : va_E} (h : c < gn G) (he : ent G v' c = e) (ho : ∀ c', c' ≠ c → v' c' = v c') : (WS G v).set c (gad G c, e) = WS G v' := by
  apply List.ext_getElem?
  intro k
  by_cases hk : k < gn G
  · rw [WS_at hk]
    by_cases hkc : k = c
    · subst hkc
      rw [List.getElem?_set_self (by simp [WS]; exact hk), he]
    · rw [List.getElem?_set_ne (Ne.symm hkc), WS_at hk, ent_cong (ho k hkc)]
  · have h1 : (WS G v').length ≤ k := by simp [WS]; omega
    have h2 : ((WS G v).set c (gad G c, e)).length ≤ k := by simp [WS]; omega
    rw [List.getElem?_eq_none h1, List.getElem?_eq_none h2]
def tysZ (G : zG) : List (ClassId × FieldType) := [(gcA G 0, .int), (gcA G 1, .byte), (gcA G 5, .array .int), (gcA G 6, .object "SpanLodge$Ledger")]
def Rp (G : zG) (v : V3) (H : Heap) : Prop := va_P (gD G) vwCl (WS G v) H ∧ va_D (zA G) (WS G v)
/-- what doesn't change at all: classes, static fields and their arrays -/
def f4 (a b c d : Int32) (j : Nat) : Int32 := match j with
  | 0 => a
  | 1 => b
  | 2 => c
  | _ => d
def zTx (i : Nat) : String := match i with
  | 0 => "size"
  | 1 => "owner"
  | 2 => "book"
  | 3 => "set"
  | 4 => "flex"
  | _ => "urgency"
def zBy (i : Nat) : List Int32 := match i with
  | 0 => [115, 105, 122, 101]
  | 1 => [111, 119, 110, 101, 114]
  | 2 => [98, 111, 111, 107]
  | 3 => [115, 101, 116]
  | 4 => [102, 108, 101, 120]
  | _ => [117, 114, 103, 101, 110, 99, 121]
def zlen (i : Nat) : Nat := (zBy i).length
def zch (i j : Nat) : Int32 := (zBy i).getD j 0
def zsn : Nat := 6
/-- where a text of a throw stands -/
def zMsg : List (String × Nat × String) := [("SpanLodge", 103, "there are 8 owners"), ("SpanLodge", 163, "all its times are over"), ("SpanLodge", 166, "there are 40 bookings"), ("SpanLodge", 171, "the owner may not book"), ("SpanLodge", 195, "the index is negative"), ("SpanLodge", 215, "both are the same"), ("SpanLodge", 237, "the time would be too great"), ("SpanLodge", 262, "nothing is saved there"), ("SpanLodge", 270, "an argument is out of range"), ("SpanLodge", 272, "there is no such owner"), ("SpanLodge", 274, "there is no such booking"), ("SpanLodge", 276, "there is no such byte"), ("SpanLodge", 278, "the span does not end within the file"), ("SpanLodge", 280, "the length is less than 1")]
/-- where a word of a setup stands, and which -/
def zSit : List (String × Nat × Nat) := []
/-- where a static field of the outer class is read -/
def zNst : List (String × Nat × String) := [("SpanLodge$Ledger", 52, "SETTING_FIRST")]
abbrev zst (G : zG) (i : Nat) : Nat := gk G (10 + i)
/-- the script -/
def zS (G : zG) (U : State) (H : Heap) : Prop := ∃ (L : Nat) (xs : Nat → Int32), L ≤ 260 ∧ va_T .int (gk G 3) L (fun j => .int (xs j)) (zA G) U H
def Wd1 (G : zG) (U : State) (H : Heap) : Prop :=
  (va_Z "SpanLodge" "SETTING_FIRST" "[I" (.ref (gk G 0)) (zA G) U H ∧ va_T .int (gk G 0) 4 (fun j => .int (f4 5 10 4 3 j)) (zA G) U H) ∧
  (va_Z "SpanLodge" "SETTING_LEAST" "[I" (.ref (gk G 1)) (zA G) U H ∧ va_T .int (gk G 1) 4 (fun j => .int (f4 0 0 1 1 j)) (zA G) U H) ∧
  (va_Z "SpanLodge" "SETTING_MOST" "[I" (.ref (gk G 2)) (zA G) U H ∧ va_T .int (gk G 2) 4 (fun j => .int (f4 50 99 9 9 j)) (zA G) U H)
def Wd2 (G : zG) (U : State) (H : Heap) : Prop := True ∧ True ∧ vx_Zq Bundle.tN "UNASSIGNED_STACK" Bundle.steD (zA G) U H ∧ vx_Zq Bundle.tN "SUPPRESSED_SENTINEL" Bundle.listD (zA G) U H
def Wd (G : zG) (U : State) (H : Heap) : Prop := Wd1 G U H ∧ Wd2 G U H ∧ zS G U H
abbrev nmE : List String := ["java/lang/RuntimeException", "java/lang/Exception"]
abbrev eIA : String := "java/lang/IllegalArgumentException"
abbrev eIS : String := "java/lang/IllegalStateException"
abbrev eIO : String := "java/lang/IndexOutOfBoundsException"
/-- words of throws that the tables alone decide, but no list keeps -/
def zThr : List Cond := [.declares (Bundle.initS "java/lang/RuntimeException"), .declares (Bundle.initS "java/lang/Exception"), .declares (Bundle.initS Bundle.tN), .castable eIA eIA, .castable eIS eIS, .castable eIO eIO]
/-- which class is no other's -/
def zNc : List (String × String) := [(eIA, eIO), (eIS, eIO), (eIS, eIA)]
theorem zThr_move {s U : State} (hv : s.vm.Alike U.vm) : ∀ w ∈ zThr, va_Nw w s → va_Nw w U := by
  intro w hw h
  have h1 : ∀ w' : Cond, w' ∈ zThr → w'.onTables = true := by decide +kernel
  have h2 : w.before #[] (s.setVm U.vm) = true := by
    simp only [zThr, List.mem_cons, List.not_mem_nil, or_false] at hw
    have h' : w.before #[] s = true := h
    rcases hw with rfl | rfl | rfl | rfl | rfl | rfl
    · exact (Cond.declares_setVm hv _).trans h'
    · exact (Cond.declares_setVm hv _).trans h'
    · exact (Cond.declares_setVm hv _).trans h'
    · exact (Cond.castable_setVm hv _ _).trans h'
    · exact (Cond.castable_setVm hv _ _).trans h'
    · exact (Cond.castable_setVm hv _ _).trans h'
  exact va_Nw.same (h1 w hw) (u := s.setVm U.vm) rfl h2
/-- the one array class over int arrays, and the one over ledgers (the first proof follows the kit's va_AO.moved) -/
def zAI (U : State) : Prop := (Cond.arrayOver (.array .int)).before #[] U = true
theorem zAI.moved {u U : State} (hvm : u.vm.Alike U.vm) (h : zAI u) : zAI U := by
  obtain ⟨comp, c, k, h1, h2, h3, h4, h5⟩ := arrayOverA_spec h
  obtain ⟨k', hk', he⟩ := hvm.2.2 _ _ h3
  have hi : (U.vm.classes.findIdx? fun (x : Class) => match x.kind with | .array component _ => component == comp | _ => false) = some c := by
    have e0 : ∀ vm : Vm, (vm.bare.classes.findIdx? fun (x : Class) => match x.kind with | .array component _ => component == comp | _ => false) = (vm.classes.findIdx? fun (x : Class) => match x.kind with | .array component _ => component == comp | _ => false) := fun vm => by
      simp only [Vm.bare, Array.findIdx?_map]
      rfl
    rw [← e0]
    first | rw [hvm.bare_eq] | rw [← hvm.bare_eq]
    rw [e0]
    exact h2
  have hkind : k'.kind = .array comp (.array .int) := by rw [he]; exact h4
  have f1 : U.vm.findClass (FieldType.array .int).toString = some comp := by rw [hvm.findClass]; exact h1
  have f2 : U.vm.findClass ("[" ++ (FieldType.array .int).toString) = some c := by rw [hvm.findClass]; exact h5
  unfold zAI Cond.before Cond.holds
  simp only [Cond.value]
  rw [f1, Option.bind_some]
  refine (congrArg (fun o : Option Nat => (o.bind (fun c => (U.vm.classes[c]?).map fun (k : Class) => match k.kind with | .array _ ty => decide (ty = FieldType.array .int) && decide (U.vm.findClass ("[" ++ (FieldType.array .int).toString) = some c) | _ => false) == some true)) hi).trans ?_
  simp [hk', hkind, f2]
def zAO (U : State) : Prop := va_AO "SpanLodge$Ledger" U ∧ zAI U
theorem zAO.moved {u U : State} (hvm : u.vm.Alike U.vm) (h : zAO u) : zAO U := ⟨h.1.moved hvm, h.2.moved hvm⟩
/-- the constants' places, which the tables alone decide -/
def Ws (G : zG) (U : State) : Prop := (∀ q ∈ zMsg, ∃ sa : Nat, vk_R q.1 q.2.1 q.2.2 sa U) ∧ (∀ q ∈ zSit, vk_R q.1 q.2.1 (zTx q.2.2) (zst G q.2.2) U) ∧ (∀ q ∈ zNst, va_Nw (.fieldLinkNest q.1 q.2.1 "SpanLodge" q.2.2 "[I" "SpanLodge") U) ∧ (∀ w ∈ zThr, va_Nw w U) ∧ (∀ q ∈ zNc, va_Nc q.1 q.2 U) ∧ zAO U
theorem Ws.warm {G : zG} {s U : State} (hW : s.WarmedH U.vm) (h : Ws G s) : Ws G U := ⟨fun q hq => by obtain ⟨sa, h1⟩ := h.1 q hq; exact ⟨sa, vk_R.warm hW h1⟩, fun q hq => vk_R.warm hW (h.2.1 q hq), fun q hq => va_Nw.warmF hW (h.2.2.1 q hq), fun w hw => zThr_move hW.alike w hw (h.2.2.2.1 w hw), fun q hq => va_Nc.moved hW.alike (h.2.2.2.2.1 q hq), h.2.2.2.2.2.moved hW.alike⟩
theorem Ws.same {G : zG} {u U : State} (hv : U.vm = u.vm) (h : Ws G u) : Ws G U := ⟨fun q hq => by obtain ⟨sa, h1⟩ := h.1 q hq; exact ⟨sa, vk_R.same hv h1⟩, fun q hq => vk_R.same hv (h.2.1 q hq), fun q hq => va_Nw.same rfl hv.symm (h.2.2.1 q hq), fun w hw => zThr_move (by rw [hv]; exact Vm.Alike.refl _) w hw (h.2.2.2.1 w hw), fun q hq => va_Nc.moved (by rw [hv]; exact Vm.Alike.refl _) (h.2.2.2.2.1 q hq), h.2.2.2.2.2.moved (by rw [hv]; exact Vm.Alike.refl _)⟩
theorem Wd.moved {G : zG} {u U : State} {H : Heap} (hvm : u.vm.Alike U.vm) (h : Wd G u H) : Wd G U H :=
  ⟨⟨⟨h.1.1.1.moved hvm, h.1.1.2.moved hvm⟩, ⟨h.1.2.1.1.moved hvm, h.1.2.1.2.moved hvm⟩, ⟨h.1.2.2.1.moved hvm, h.1.2.2.2.moved hvm⟩⟩,
   ⟨trivial, trivial, h.2.1.2.2.1.moved hvm, h.2.1.2.2.2.moved hvm⟩,
   by obtain ⟨L, xs, h1, h2⟩ := h.2.2; exact ⟨L, xs, h1, h2.moved hvm⟩⟩
theorem Wd.kept {G : zG} {U : State} {H H1 : Heap} (h : Wd G U H) (hq : ∀ a : Nat, a < H.size → ¬ zA G a → H1[a]? = H[a]?) : Wd G U H1 :=
  ⟨⟨⟨h.1.1.1.kept hq, h.1.1.2.kept hq⟩, ⟨h.1.2.1.1.kept hq, h.1.2.1.2.kept hq⟩, ⟨h.1.2.2.1.kept hq, h.1.2.2.2.kept hq⟩⟩,
   ⟨trivial, trivial, h.2.1.2.2.1.kept hq, h.2.1.2.2.2.kept hq⟩,
   by obtain ⟨L, xs, h1, h2⟩ := h.2.2; exact ⟨L, xs, h1, h2.kept hq⟩⟩
def KW (G : zG) (U : State) : Prop := va_K (gD G) vwCl (tysZ G) U ∧ Wd G U U.heap ∧ gb G ≤ U.heap.size ∧ Ws G U
/-- a method's state at a point -/
def Zs (G : zG) (s : State) (v : V3) (H : Heap) (locs : List Loc) : Prop := va_P (gD G) vwCl (WS G v) H ∧ va_D (zA G) (WS G v) ∧ va_S (zA G) s.heap H locs
def PcZ (G : zG) (av : List Value) (v : V3) : Array Value → State → Prop := fun a U => a = av.toArray ∧ Rp G v U.heap ∧ KW G U
abbrev QiZ (G : zG) (Q : Int32 → V3 → Prop) : Array Value → State → Outcome → State → Prop := va_Qi Q (fun u t => Rp G u t.heap) (zA G)
abbrev QvZ (G : zG) (Q : V3 → Prop) : Array Value → State → Outcome → State → Prop := va_Qv Q (fun u t => Rp G u t.heap) (zA G)
theorem PcZ.blind {G : zG} {av : List Value} {v : V3} : FrameBlind (PcZ G av v) := by
  intro a U g mk h
  obtain ⟨h1, h2, h3, h4, h5, h6⟩ := h
  exact ⟨h1, h2, va_K.moved (u := U) (U := U.calling g mk a) (Vm.Alike.refl U.vm) h3, Wd.moved (u := U) (U := U.calling g mk a) (Vm.Alike.refl U.vm) h4, h5, Ws.same (u := U) (U := U.calling g mk a) rfl h6⟩
theorem Zs.pre {G : zG} {s : State} {v : V3} {H : Heap} {locs : List Loc} (Z : Zs G s v H locs) (K : KW G s) {av : List Value} {U : State} (hU : U.heap = H) (hW : s.WarmedH U.vm) : PcZ G av v av.toArray U := by
  obtain ⟨hP, hD, hS⟩ := Z
  obtain ⟨hK, hw, hg, hst⟩ := K
  refine ⟨rfl, ⟨by rw [hU]; exact hP, hD⟩, va_K.moved hW.alike hK, ?_, ?_, Ws.warm hW hst⟩
  · rw [hU]
    exact (hw.kept hS.2.1).moved hW.alike
  · rw [hU]
    exact Nat.le_trans hg hS.1
theorem zA_old {G : zG} {s : State} (K : KW G s) {H : Heap} {v : V3} {locs : List Loc} (Z : Zs G s v H locs) : ∀ q, H.size ≤ q → zA G q := fun q h => Nat.le_trans K.2.2.1 (Nat.le_trans Z.2.2.1 h)
def tbg : List Cond := lw_tbl.filter goodWord
theorem tbg_in {w : Cond} (h : w ∈ lw_tbl) (hg : goodWord w = true) : w ∈ tbg := List.mem_filter.mpr ⟨h, hg⟩
theorem tbg_good {ws : List Cond} (h : ∀ w ∈ ws, w ∈ tbg) : GoodIn tbg ws := fun w hw => ⟨h w hw, good_of_word (List.mem_filter.mp (h w hw)).2⟩
theorem tb1 {w : Cond} (i : Nat) (h : tables_1_1[i]? = some w) (hg : goodWord w = true) : w ∈ tbg := tbg_in (List.mem_append_right _ (List.mem_append_left _ (List.mem_of_getElem? h))) hg
theorem tb2 {w : Cond} (i : Nat) (h : tables_1_2[i]? = some w) (hg : goodWord w = true) : w ∈ tbg := tbg_in (List.mem_append_right _ (List.mem_append_right _ (List.mem_append_left _ (List.mem_of_getElem? h)))) hg
theorem tb3 {w : Cond} (i : Nat) (h : tables_1_3[i]? = some w) (hg : goodWord w = true) : w ∈ tbg := tbg_in (List.mem_append_right _ (List.mem_append_right _ (List.mem_append_right _ (List.mem_append_left _ (List.mem_of_getElem? h))))) hg
theorem tb4 {w : Cond} (i : Nat) (h : tables_1_4[i]? = some w) (hg : goodWord w = true) : w ∈ tbg := tbg_in (List.mem_append_right _ (List.mem_append_right _ (List.mem_append_right _ (List.mem_append_right _ (List.mem_of_getElem? h))))) hg
theorem tb0 {w : Cond} (h : w ∈ k2_sels lw_privs) (hg : goodWord w = true) : w ∈ tbg := tbg_in (List.mem_append_left _ h) hg
