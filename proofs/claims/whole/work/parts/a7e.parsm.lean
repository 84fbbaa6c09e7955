/-! THE TEXT OF A SETUP 6: the reference -/
def km (j : Nat) : Prop := j < 8 ∨ (10 < j ∧ j < 14) ∨ (21 < j ∧ j < 34)
def FQ (w w' : V3) : Prop := (∀ c, c ≠ 7 → c ≠ 8 → w' c = w c) ∧ ∀ j, km j → w' 7 j = w 7 j
theorem FQ_t {u v w : V3} (h : FQ u v) (h' : FQ v w) : FQ u w := ⟨fun c a b => (h'.1 c a b).trans (h.1 c a b), fun j a => (h'.2 j a).trans (h.2 j a)⟩
def FG (w w' : V3) : Prop := FQ w w' ∧ w' 7 19 = w 7 19 ∧ w' 7 20 = w 7 20
theorem FG_r (v : V3) : FG v v := ⟨⟨fun _ _ _ => rfl, fun _ _ => rfl⟩, rfl, rfl⟩
theorem FG_t {u v w : V3} (h : FG u v) (h' : FG v w) : FG u w := ⟨FQ_t h.1 h'.1, h'.2.1.trans h.2.1, h'.2.2.trans h.2.2⟩
theorem FG_7 {v w : V3} (h : F7 v w) : FG v w := ⟨⟨fun c a _ => h.1 c a, fun j a => h.2 j (by unfold km at a; unfold kt; omega)⟩, h.2 19 (by unfold kt; omega), h.2 20 (by unfold kt; omega)⟩
theorem FG_8 {v w : V3} (h : ∀ c, c ≠ 8 → w c = v c) : FG v w := ⟨⟨fun c _ b => h c b, fun j _ => by rw [h 7 (by decide)]⟩, by rw [h 7 (by decide)], by rw [h 7 (by decide)]⟩
def ME (w w' : V3) (e : Int32 × Nat) : Prop := w' 7 19 = e.1 ∧ w' 7 20 = nI e.2 ∧ ¬ e.1 = 0 ∧ (∀ k, 474 ≤ k → w' 8 k = w 8 k) ∧ FQ w w'
theorem ME_t {u v w : V3} {e : Int32 × Nat} (h : FG u v) (h8 : ∀ k, 474 ≤ k → v 8 k = u 8 k) (h' : ME v w e) : ME u w e := ⟨h'.1, h'.2.1, h'.2.2.1, fun k hk => (h'.2.2.2.1 k hk).trans (h8 k hk), FQ_t h.1 h'.2.2.2.2⟩
theorem ME_b {v w : V3} {e : Int32 × Nat} (h : ME v w e) : ¬ w 7 19 = 0 := by rw [h.1]; exact h.2.2.1
theorem e88 {v w : V3} (h : w 8 = v 8) : ∀ k, 474 ≤ k → w 8 k = v 8 k := fun k _ => by rw [h]
section RE
variable {w : V3} {Q : V3 → Prop} {P : Int32 → V3 → Prop}
theorem uE_fine (h : ¬ w 7 19 = 0) (q : P 0 w) : w_X4_isFine w P := ntc (fun _ => ⟨.inl rfl, q⟩) (fun z => absurd z h)
theorem uM_fine (h : w 7 19 = 0) (q : P 1 w) : w_X4_isFine w P := ntc (fun z => absurd h z) (fun _ => ⟨.inr rfl, q⟩)
theorem uE_req {a b : Int32} (h : ¬ w 7 19 = 0) (q : Q w) : w_X4_require a b w Q := ntc (fun _ => q) (fun _ => ntc (fun _ => q) (fun z => absurd z h))
theorem uM_req1 {b : Int32} (q : Q w) : w_X4_require 1 b w Q := nt1 q
theorem uE_adv (h : ¬ w 7 19 = 0) (q : Q w) : w_X4_advance w Q := uE_fine h (zt0 q)
theorem uE_look {lo hi : Int32} (h : ¬ w 7 19 = 0) (q : Q w) : w_X4_look lo hi w Q := by
  have z : ∀ s, w_X4_look_14 Q lo hi s w := fun s => uE_req h (uM_btw rfl rfl (fun _ _ => uE_req h q) (fun _ => uE_req h q))
  exact ntc (fun _ => z 0) (fun _ => z 1)
theorem uE_num {lo hi : Int32} (h : ¬ w 7 19 = 0) (q : ∀ x, P x w) : w_X4_parseNumber lo hi w P := uE_look h (uE_adv h (q _))
theorem uE_acc {a : Nat} (h : ¬ w 7 19 = 0) (q : P 0 w) : w_X4_accept a w P := uE_fine h (zt0 (zt0 ⟨.inl rfl, q⟩))
theorem uE_end (h : ¬ w 7 19 = 0) (q : Q w) : w_X4_parseEnd w Q := ntc (fun _ => uE_req h (uE_adv h q)) (fun _ => uE_req h (uE_adv h q))
variable {x1 x2 x3 x4 x5 x6 x7 : Int32}
theorem m199 (h : ¬ w 7 19 = 0) (q : Q w) : w_X4_parseBook_199 Q x1 x2 x3 x4 x5 x6 x7 w := uE_fine h (zt0 q)
theorem m177 (h : ¬ w 7 19 = 0) (q : Q w) : w_X4_parseBook_177 Q x1 x2 x3 x4 x5 x6 w := uE_acc h (zt0 (m199 h q))
theorem m130 (h : ¬ w 7 19 = 0) (q : Q w) : w_X4_parseBook_130 Q x1 x2 x3 x4 w := uE_req h (uE_adv h (uE_num h (fun _ => uE_num h (fun _ => uE_acc h (zt0 (m177 h q))))))
theorem m71 (h : ¬ w 7 19 = 0) (q : Q w) : w_X4_parseBook_71 Q x1 x2 w := uE_req h (uE_adv h (uE_num h (fun _ => uE_look h (uE_fine h (zt0 (m130 h q))))))
theorem m18 (h : ¬ w 7 19 = 0) (q : Q w) : w_X4_parseBook_18 Q x1 w := uE_req h (uE_adv h (uE_look h (uE_fine h (zt0 (m71 h q)))))
theorem m17 (h : ¬ w 7 19 = 0) (q : Q w) : w_X4_parseOwner_17 Q x1 w := uE_req h (uE_adv h (uE_num h (fun _ => uE_fine h (zt0 q))))
end RE
section RM
variable {w : V3} {β : Nat → Nat} {T st n m S : Nat} {σ : Nat → Int32} {Q : V3 → Prop} {P : Int32 → V3 → Prop}
theorem BY_G {v : V3} (hb : BY w β T) (h : FG w v) : BY v β T := BY_c hb (h.1.1 1 (by decide) (by decide)) (h.1.1 16 (by decide) (by decide))
theorem MT_c {v : V3} (h : MTk w β T st) (h7 : v 7 = w 7) : MTk v β T st := by unfold MTk; rw [h7]; exact h
theorem g7 {v : V3} (hg : w 7 19 = 0) (h : F7 w v) : v 7 19 = 0 := (h.2 19 (by unfold kt; omega)).trans hg
theorem uM_req0 {b : Int32} (hg : w 7 19 = 0) (h15 : w 7 15 = nI st) (hb : ¬ b = 0) (q : ∀ w', ME w w' (b, st) → Q w') : w_X4_require 0 b w Q := by
  refine nt0 (ntc (fun z => absurd hg z) (fun _ => nm_e (nm_e (q _ ⟨?_, ?_, hb, fun k _ => ?_, fun c a _ => ?_, fun j hj => ?_⟩))))
  · rw [up2_row, pk_un (by decide), up2_row, pk_us]
  · rw [up2_row, pk_us, up2_row, pk_un (by decide)]; exact h15
  · rw [up2_off _ _ _ (by decide), up2_off _ _ _ (by decide)]
  · rw [up2_off _ _ _ a, up2_off _ _ _ a]
  · rw [up2_row, pk_un (by unfold km at hj; omega), up2_row, pk_un (by unfold km at hj; omega)]
theorem uM_adv (hg : w 7 19 = 0) (hb : BY w β T) (h : MTk w β T st) (q : ∀ w', MTk w' β T (nx β T st) → F7 w w' → Q w') : w_X4_advance w Q := uM_fine hg (zt1 (uM_next hb h q))
theorem kr_i {x a : Nat} (hx : x ≤ 4) (ha : a ≤ 4) : nI (kr x) = nI (kr a) ↔ x = a := by
  have : ∀ x, x ≤ 4 → ∀ a, a ≤ 4 → (nI (kr x) = nI (kr a) ↔ x = a) := by decide +kernel
  exact this x hx a ha
theorem lk_iff {lo hi : Int32} {b y : Nat} (hb : b ≤ 100000009) (e : min b 1000000 = y) (hlo : lo.toInt ≤ 1000000) (hhi : hi.toInt < 1000000) : (nI b < lo ↔ nI y < lo) ∧ (hi < nI b ↔ hi < nI y) ∧ (nI y ≤ hi → b = y) := by
  rw [ti_lt, ti_lt, ti_lt, ti_lt, ti_le, ti_nI (by omega), ti_nI (by omega)]
  omega
theorem uM_look {lo hi : Int32} (hg : w 7 19 = 0) (h : MTk w β T st) (hlo : lo.toInt ≤ 1000000) (hhi : hi.toInt < 1000000) (hE : ∀ e, yN β T lo hi st = .error e → ∀ w', ME w w' e → Q w') (hO : ∀ k, yN β T lo hi st = .ok k → w 7 18 = nI k → Q w) : w_X4_look lo hi w Q := by
  obtain ⟨h13, h14, h15, h16, hw, hn, hs⟩ := h
  have k4 := kd_4 (β := β) (T := T) (st := st)
  unfold w_X4_look w_X4_look_14
  rw [h16]
  have k3 : nI (kr (kd β T st)) = 3 ↔ kd β T st = 2 := kr_i (a := 2) k4 (by omega)
  refine ntc (fun c => uM_req0 hg h15 (by decide) (fun w' q => ?_)) (fun c => ?_)
  · have r := hE (1, st) (if_neg (fun z => c (k3.mpr z))) w' q
    exact uM_btw rfl rfl (fun _ _ => uE_req (ME_b q) r) (fun _ => uE_req (ME_b q) r)
  · have c := k3.mp c
    obtain ⟨b, b1, b2, b3⟩ := hn c
    have L := lk_iff (lo := lo) (hi := hi) (y := yV β T st) b2 b3 hlo hhi
    refine uM_req1 ?_
    rw [b1]
    refine uM_btw rfl rfl (fun p1 p2 => uM_req1 ?_) (fun p => uM_req0 hg h15 (by decide) (fun w' q => hE (2, st) ?_ w' q))
    · have p1 : ¬ nI (yV β T st) < lo := fun z => p1 (L.1.mpr z)
      have p2 : nI (yV β T st) ≤ hi := Int32.not_lt.mp (fun z => p2 (L.2.1.mpr z))
      refine hO (yV β T st) ?_ (by rw [b1, L.2.2 p2])
      unfold yN; rw [if_pos c]; exact if_pos ⟨p1, p2⟩
    · unfold yN; rw [if_pos c]
      refine if_neg (fun z => ?_)
      rcases p with p | p
      · exact z.1 (L.1.mp p)
      · exact absurd (L.2.1.mp p) (Int32.not_lt.mpr z.2)
theorem uM_lookL (hg : w 7 19 = 0) (h : MTk w β T st) (hE : ∀ e, yN β T 1 1000000 st = .error e → ∀ w', ME w w' e → Q w') (hO : ∀ k b, yN β T 1 1000000 st = .ok k → w 7 18 = nI b → b ≤ 100000009 → min b 1000000 = k → Q w) : w_X4_look 1 2147483647 w Q := by
  obtain ⟨h13, h14, h15, h16, hw, hn, hs⟩ := h
  have k4 := kd_4 (β := β) (T := T) (st := st)
  unfold w_X4_look w_X4_look_14
  rw [h16]
  have k3 : nI (kr (kd β T st)) = 3 ↔ kd β T st = 2 := kr_i (a := 2) k4 (by omega)
  refine ntc (fun c => uM_req0 hg h15 (by decide) (fun w' q => ?_)) (fun c => ?_)
  · have r := hE (1, st) (if_neg (fun z => c (k3.mpr z))) w' q
    exact uM_btw (lo := 1) (hi := 2147483647) rfl rfl (fun _ _ => uE_req (ME_b q) r) (fun _ => uE_req (ME_b q) r)
  · have c := k3.mp c
    obtain ⟨b, b1, b2, b3⟩ := hn c
    have b3 : min b 1000000 = yV β T st := b3
    refine uM_req1 ?_
    rw [b1]
    have l1 : nI b < 1 ↔ b < 1 := nI_ltI (b := 1) (by omega) (by omega)
    have l2 : nI (yV β T st) < 1 ↔ yV β T st < 1 := nI_ltI (b := 1) (by omega) (by omega)
    have l3 : nI (yV β T st) ≤ 1000000 := nI_le (b := 1000000) (by omega) (by omega)
    refine uM_btw (lo := 1) (hi := 2147483647) rfl rfl (fun p1 p2 => uM_req1 ?_) (fun p => uM_req0 hg h15 (by decide) (fun w' q => hE (2, st) ?_ w' q))
    · have p1 : ¬ b < 1 := fun z => p1 (l1.mpr z)
      refine hO (yV β T st) b ?_ b1 b2 b3
      unfold yN; rw [if_pos c]; exact if_pos ⟨fun z => by have := l2.mp z; omega, l3⟩
    · unfold yN; rw [if_pos c]
      refine if_neg (fun z => ?_)
      rcases p with p | p
      · exact z.1 (l2.mpr (by have := l1.mp p; omega))
      · rw [ti_lt, ti_nI (by omega)] at p
        have : (2147483647 : Int32).toInt = 2147483647 := rfl
        omega
theorem uM_num {lo hi : Int32} (hg : w 7 19 = 0) (hb : BY w β T) (h : MTk w β T st) (hlo : lo.toInt ≤ 1000000) (hhi : hi.toInt < 1000000) (hE : ∀ e, yN β T lo hi st = .error e → ∀ w', ME w w' e → ∀ x, P x w') (hO : ∀ k, yN β T lo hi st = .ok k → ∀ w', MTk w' β T (nx β T st) → F7 w w' → P (nI k) w') : w_X4_parseNumber lo hi w P := by
  unfold w_X4_parseNumber
  refine uM_look hg h hlo hhi (fun e he w' q => uE_adv (ME_b q) (hE e he w' q _)) (fun k hk e => ?_)
  rw [e]
  exact uM_adv hg hb h (fun w' t f => hO k hk w' t f)
theorem uM_acc {a : Nat} (ha : a < 6) (hg : w 7 19 = 0) (hb : BY w β T) (h : MTk w β T st) (h0 : ¬ wd β T st a → P 0 w) (h1 : wd β T st a → ∀ w', MTk w' β T (nx β T st) → F7 w w' → P 1 w') : w_X4_accept a w P :=
  uM_fine hg (zt1 (uM_word ha hb h (fun q => zt1 (zt1 (uM_next hb h (fun w' t f => ⟨.inr rfl, h1 q w' t f⟩)))) (fun q => zt0 (zt0 ⟨.inl rfl, h0 q⟩))))
theorem uM_semi (hg : w 7 19 = 0) (hb : BY w β T) (h : MTk w β T st) (h1 : kd β T st = 3 → ∀ w', MTk w' β T (nx β T st) → F7 w w' → Q w') (h0 : ¬ kd β T st = 3 → ∀ w', ME w w' (1, st) → Q w') : w_X4_parseEnd w Q := by
  have k4 := kd_4 (β := β) (T := T) (st := st)
  unfold w_X4_parseEnd w_X4_parseEnd_14
  rw [h.2.2.2.1]
  have k3 : nI (kr (kd β T st)) = 4 ↔ kd β T st = 3 := kr_i (a := 3) k4 (by omega)
  exact ntc (fun c => uM_req0 hg h.2.2.1 (by decide) (fun w' q => uE_adv (ME_b q) (h0 (fun z => c (k3.mpr z)) w' q))) (fun c => uM_req1 (uM_adv hg hb h (fun w' t f => h1 (k3.mp c) w' t f)))
theorem uM_owner (hg : w 7 19 = 0) (hb : BY w β T) (h : MTk w β T st) (h8 : w 8 = σ) (h5 : σ 5 = nI m) (hm : m ≤ 8) (hE : ∀ e, yO β T st σ m = .error e → ∀ w', ME w w' e → Q w') (hO : ∀ s' σ', yO β T st σ m = .ok (s', σ') → ∀ w', MTk w' β T s' → w' 8 = σ' → FG w w' → Q w') : w_X4_parseOwner w Q := by
  subst h8
  unfold w_X4_parseOwner
  rw [h5]
  have k8 : 8 ≤ nI m ↔ 8 ≤ m := nI_leI (a := 8) (by omega) (by omega)
  refine br_c (fun c => uM_req0 hg h.2.2.1 (by decide) (fun w' q => ?_)) (fun c => ?_)
  · have r := hE (3, st) (if_neg (by have := k8.mp c; omega)) w' q
    have d := ME_b q
    exact uE_adv d (uE_num d (fun _ => uE_fine d (zt0 r)))
  · have c : m < 8 := by have : ¬ 8 ≤ m := fun z => c (k8.mpr z); omega
    refine uM_req1 (uM_adv hg hb h (fun w1 t1 f1 => uM_num (g7 hg f1) (BY_7 hb f1) t1 (by decide) (by decide) (fun e he w' q x => ?_) (fun k hk w2 t2 f2 => ?_)))
    · exact uE_fine (ME_b q) (zt0 (hE e (by unfold yO; rw [if_pos c, he]) w' (ME_t (FG_7 f1) (e88 (f1.1 8 (by decide))) q)))
    · have F2 := F7_t f1 f2
      refine uM_fine (g7 hg F2) (zt1 (uM_appO (m := m) (by rw [F2.1 8 (by decide)]; exact h5) c (fun w3 q1 q2 => ?_)))
      exact hO _ (addOS (w 8) m (nI k)) (by unfold yO; rw [if_pos c, hk]) w3 (MT_c t2 (q2 7 (by decide))) (by rw [q1, F2.1 8 (by decide)]) (FG_t (FG_7 F2) (FG_8 q2))
theorem f4_rng : ∀ k, k < 4 → (f4 0 0 1 1 k).toInt ≤ 1000000 ∧ (f4 50 99 9 9 k).toInt < 1000000 := by decide
theorem uM_set (hg : w 7 19 = 0) (hb : BY w β T) (h : MTk w β T st) (h8 : w 8 = σ) (hM : MK w) (w3 : wd β T st 3) (hE : ∀ e, yS β T st σ = .error e → ∀ w', ME w w' e → Q w') (hO : ∀ s' σ', yS β T st σ = .ok (s', σ') → ∀ w', MTk w' β T s' → w' 8 = σ' → FG w w' → Q w') : w_X4_parseSet w Q := by
  subst h8
  unfold w_X4_parseSet
  refine uM_word (by omega) hb h (fun _ => uM_req1 ?_) (fun z => absurd w3 z)
  refine uM_adv hg hb h (fun w1 t1 f1 => uM_num (g7 hg f1) (BY_7 hb f1) t1 (by decide) (by decide) (fun e he w' q x => ?_) (fun k hk w2 t2 f2 => ?_))
  · exact uE_fine (ME_b q) (zt0 (hE e (by unfold yS; rw [he]) w' (ME_t (FG_7 f1) (e88 (f1.1 8 (by decide))) q)))
  · have F2 := F7_t f1 f2
    have k3 := yN_bd (a := 0) (b := 3) (by omega) (by omega) hk
    refine uM_fine (g7 hg F2) (zt1 ⟨vp_in_nI (by omega) (by decide), vp_in_nI (by omega) (by decide), ?_⟩)
    have mk := hM k (by omega)
    have fr := f4_rng k (by omega)
    rw [show ix (nI k) = k from nI_clamp (by omega), F2.1 14 (by decide), F2.1 15 (by decide), mk.2.1, mk.2.2]
    refine uM_num (g7 hg F2) (BY_7 hb F2) t2 fr.1 fr.2 (fun e he w' q x => ⟨vp_in_nI (by omega) (by decide), nm_e ?_⟩) (fun x hx w3 t3 f3 => ⟨vp_in_nI (by omega) (by decide), nm_e ?_⟩)
    · refine hE e (by unfold yS; rw [hk]; simp only [he]) _ (ME_t (FG_7 F2) (e88 (F2.1 8 (by decide))) ⟨?_, ?_, q.2.2.1, fun j hj => ?_, fun c a b => ?_, fun j hj => ?_⟩)
      · rw [up2_off _ _ _ (by decide)]; exact q.1
      · rw [up2_off _ _ _ (by decide)]; exact q.2.1
      · rw [up2_row, pk_un (by omega)]; exact q.2.2.2.1 j hj
      · rw [up2_off _ _ _ b]; exact q.2.2.2.2.1 c a b
      · rw [up2_off _ _ _ (by decide)]; exact q.2.2.2.2.2 j hj
    · have F3 := F7_t F2 f3
      refine hO _ (upd (w 8) k (nI x)) (by unfold yS; rw [hk]; simp only [hx]) _ (MT_c t3 (up2_off _ _ _ (by decide))) ?_ (FG_t (FG_7 F3) (FG_8 (fun c hc => up2_off _ _ _ hc)))
      rw [up2_row, F3.1 8 (by decide)]
end RM
