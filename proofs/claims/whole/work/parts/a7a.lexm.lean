/-! THE TEXT OF A SETUP 2: tokens of the reference, words -/
section LM
variable {v : V3} {β : Nat → Nat} {T : Nat}
/-- the reference stands at a token -/
def MTk (v : V3) (β : Nat → Nat) (T st : Nat) : Prop := v 7 13 = nI T ∧ v 7 14 = nI (en β T st) ∧ v 7 15 = nI st ∧ v 7 16 = nI (kr (kd β T st)) ∧ (kd β T st = 1 → v 7 17 = nI (en β T st - st) ∧ (en β T st - st ≤ 11 → mk64 (v 7 21) (v 7 34) = Int64.ofNat (pw β st (en β T st - st)))) ∧ (kd β T st = 2 → ∃ b, v 7 18 = nI b ∧ b ≤ 100000009 ∧ min b 1000000 = min (nm β T st) 1000000) ∧ st ≤ T
def kt (j : Nat) : Prop := j < 14 ∨ (18 < j ∧ j < 21) ∨ (21 < j ∧ j < 34)
def F7 (v v' : V3) : Prop := (∀ c, c ≠ 7 → v' c = v c) ∧ ∀ j, kt j → v' 7 j = v 7 j
theorem F7_r (v : V3) : F7 v v := ⟨fun _ _ => rfl, fun _ _ => rfl⟩
theorem F7_t {v w x : V3} (h : F7 v w) (h' : F7 w x) : F7 v x := ⟨fun c k => (h'.1 c k).trans (h.1 c k), fun j a => (h'.2 j a).trans (h.2 j a)⟩
theorem F7_u (v : V3) {j : Nat} (x : Int32) (hj : ¬ kt j) : F7 v (up2 v 7 j x) := ⟨fun _ h => up2_off _ _ _ h, fun i hi => by
  have ne : i ≠ j := fun e => hj (by rw [← e]; exact hi)
  rw [up2_row, pk_un ne]⟩
theorem BY_7 {w : V3} (hb : BY v β T) (h : F7 v w) : BY w β T := BY_c hb (h.1 1 (by decide)) (h.1 16 (by decide))
theorem kt13 : kt 13 := .inl (by decide)
/-- the digits -/
theorem num_M {a b d : Nat} (hd : 48 ≤ d ∧ d ≤ 57) (h : min b 1000000 = min a 1000000) (hb : b ≤ 10000000) : ((10 : Int32) * nI b + nI d) - 48 = nI (10 * b + (d - 48)) ∧ 10 * b + (d - 48) ≤ 100000009 ∧ min (10 * b + (d - 48)) 1000000 = min (10 * a + (d - 48)) 1000000 := by
  refine ⟨?_, by omega, by omega⟩
  rw [show (10 : Int32) = nI 10 from rfl, nI_mul, nI_add, show (48 : Int32) = nI 48 from rfl, nI_sb (by omega)]
  congr 1
  omega
theorem uM_pD {Q : V3 → Prop} : ∀ f k a b v, k + f = T → BY v β T → v 7 13 = nI T → v 7 14 = nI k → v 7 18 = nI b → b ≤ 100000009 → min b 1000000 = min a 1000000 → (∀ v' b', v' 7 14 = nI (rn β tD f k) → v' 7 18 = nI b' → b' ≤ 100000009 → min b' 1000000 = min (nmF β f k a) 1000000 → v' 7 15 = v 7 15 → v' 7 16 = v 7 16 → F7 v v' → Q v') → w_X4_nextToken_187 Q (f + 1) v := by
  intro f
  induction f with
  | zero =>
    intro k a b v hk hb h13 h14 h18 hb1 hb2 hQ
    have hT := hb.1
    rw [w_X4_nextToken_187, h14]
    refine uM_byteAt hb h13 (by omega) (fun _ => uM_isD' (zt0 ?_)) (fun q => absurd q (by omega))
    exact hQ v b h14 h18 hb1 hb2 rfl rfl (F7_r v)
  | succ f ih =>
    intro k a b v hk hb h13 h14 h18 hb1 hb2 hQ
    have hT := hb.1
    have b0 := hb.2 k (by omega)
    rw [w_X4_nextToken_187, h14]
    refine uM_byteAt hb h13 (by omega) (fun q => absurd q (by omega)) (fun _ => uM_isD b0.1 (fun c => zt1 ?_) (fun c => zt0 ?_))
    · have hd := of_decide_eq_true c
      rw [h18, h14]
      have go : ∀ b', b' ≤ 100000009 → min b' 1000000 = min (10 * a + (β k - 48)) 1000000 → w_X4_nextToken_237 Q (w_X4_nextToken_187 Q (f + 1)) (nI b') v := fun b' l1 l2 => by
        unfold w_X4_nextToken_237
        refine nm_e (nm_e ?_)
        rw [show up2 v 7 18 (nI b') 7 14 = nI k by rw [up2_row, pk_un (by decide)]; exact h14, nI_1]
        have g : F7 v (up2 (up2 v 7 18 (nI b')) 7 14 (nI (k + 1))) := F7_t (F7_u v _ (by unfold kt; omega)) (F7_u _ _ (by unfold kt; omega))
        refine ih (k + 1) (10 * a + (β k - 48)) b' _ (by omega) (BY_7 hb g) ((g.2 13 kt13).trans h13) (by rw [up2_row, pk_us]) (by rw [up2_row, pk_un (by decide), up2_row, pk_us]) l1 l2 (fun v' b2 e1 e2 e3 e4 e5 e6 g' => hQ v' b2 ?_ e2 e3 ?_ ?_ ?_ (F7_t g g'))
        · rw [e1]
          show _ = nI (if tD (β k) = true then rn β tD f (k + 1) else k)
          rw [if_pos c]
        · rw [e4]
          show _ = min (if tD (β k) = true then nmF β f (k + 1) (10 * a + (β k - 48)) else a) 1000000
          rw [if_pos c]
        · rw [e5, up2_row, pk_un (by decide), up2_row, pk_un (by decide)]
        · rw [e6, up2_row, pk_un (by decide), up2_row, pk_un (by decide)]
      have k1 : nI b ≤ 10000000 ↔ b ≤ 10000000 := nI_leI (b := 10000000) (by omega) (by omega)
      refine br_c (fun c1 => ?_) (fun c1 => ?_)
      · have nm := num_M hd hb2 (k1.mp c1)
        refine uM_byteAt hb h13 (by omega) (fun q => absurd q (by omega)) (fun _ => ?_)
        rw [nm.1]
        exact go _ nm.2.1 nm.2.2
      · have : ¬ b ≤ 10000000 := fun q => c1 (k1.mpr q)
        exact go b hb1 (by omega)
    · refine hQ v b ?_ h18 hb1 ?_ rfl rfl (F7_r v)
      · rw [h14]
        show _ = nI (if tD (β k) = true then rn β tD f (k + 1) else k)
        rw [if_neg c]
      · rw [hb2]
        show _ = min (if tD (β k) = true then nmF β f (k + 1) (10 * a + (β k - 48)) else a) 1000000
        rw [if_neg c]
/-- the letters -/
theorem wd_M {a d : Nat} (hd : 97 ≤ d ∧ d ≤ 122) : ((27 : Int64) * Int64.ofNat a + (nI d).toInt64) - 96 = Int64.ofNat (27 * a + (d - 96)) := by
  rw [by_64 d (by omega), show (27 : Int64) = Int64.ofNat 27 from rfl, ← Int64.ofNat_mul, ← Int64.ofNat_add, show (96 : Int64) = Int64.ofNat 96 from rfl, ← Int64.ofNat_sub _ _ (by omega)]
  congr 1
  omega
theorem uM_pL {st : Nat} {Q : V3 → Prop} : ∀ f j v, st + j + f = T → BY v β T → v 7 13 = nI T → v 7 14 = nI (st + j) → v 7 17 = nI j → (j ≤ 11 → mk64 (v 7 21) (v 7 34) = Int64.ofNat (pw β st j)) → (∀ v' j', rn β tL f (st + j) = st + j' → v' 7 14 = nI (st + j') → v' 7 17 = nI j' → (j' ≤ 11 → mk64 (v' 7 21) (v' 7 34) = Int64.ofNat (pw β st j')) → v' 7 15 = v 7 15 → v' 7 16 = v 7 16 → F7 v v' → Q v') → w_X4_nextToken_96 Q (f + 1) v := by
  intro f
  induction f with
  | zero =>
    intro j v hk hb h13 h14 h17 hw hQ
    have hT := hb.1
    rw [w_X4_nextToken_96, h14]
    refine uM_byteAt hb h13 (by omega) (fun _ => uM_isL' (zt0 ?_)) (fun q => absurd q (by omega))
    exact hQ v j rfl h14 h17 hw rfl rfl (F7_r v)
  | succ f ih =>
    intro j v hk hb h13 h14 h17 hw hQ
    have hT := hb.1
    have b0 := hb.2 (st + j) (by omega)
    rw [w_X4_nextToken_96, h14]
    refine uM_byteAt hb h13 (by omega) (fun q => absurd q (by omega)) (fun _ => uM_isL b0.1 (fun c => zt1 ?_) (fun c => zt0 ?_))
    · have hd := of_decide_eq_true c
      rw [h17, h14]
      have go : ∀ x : Int64, (j + 1 ≤ 11 → x = Int64.ofNat (pw β st (j + 1))) → w_X4_nextToken_149 Q (w_X4_nextToken_96 Q (f + 1)) x v := fun x hx => by
        unfold w_X4_nextToken_149
        refine nm_e (nm_e (nm_e ?_))
        have g1 : F7 v (up2 (up2 v 7 21 (hi64 x)) 7 34 (lo64 x)) := F7_t (F7_u v _ (by unfold kt; omega)) (F7_u _ _ (by unfold kt; omega))
        have q17 : up2 (up2 v 7 21 (hi64 x)) 7 34 (lo64 x) 7 17 = nI j := by rw [up2_row, pk_un (by decide), up2_row, pk_un (by decide)]; exact h17
        have q14 : up2 (up2 v 7 21 (hi64 x)) 7 34 (lo64 x) 7 14 = nI (st + j) := by rw [up2_row, pk_un (by decide), up2_row, pk_un (by decide)]; exact h14
        have q15 : up2 (up2 v 7 21 (hi64 x)) 7 34 (lo64 x) 7 15 = v 7 15 := by rw [up2_row, pk_un (by decide), up2_row, pk_un (by decide)]
        have q16 : up2 (up2 v 7 21 (hi64 x)) 7 34 (lo64 x) 7 16 = v 7 16 := by rw [up2_row, pk_un (by decide), up2_row, pk_un (by decide)]
        have q21 : up2 (up2 v 7 21 (hi64 x)) 7 34 (lo64 x) 7 21 = hi64 x := by rw [up2_row, pk_un (by decide), up2_row, pk_us]
        have q34 : up2 (up2 v 7 21 (hi64 x)) 7 34 (lo64 x) 7 34 = lo64 x := by rw [up2_row, pk_us]
        generalize up2 (up2 v 7 21 (hi64 x)) 7 34 (lo64 x) = u at *
        rw [q17, nI_1, show up2 u 7 17 (nI (j + 1)) 7 14 = nI (st + j) by rw [up2_row, pk_un (by decide)]; exact q14, nI_1]
        have g : F7 v (up2 (up2 u 7 17 (nI (j + 1))) 7 14 (nI (st + j + 1))) := F7_t g1 (F7_t (F7_u u _ (by unfold kt; omega)) (F7_u _ _ (by unfold kt; omega)))
        refine ih (j + 1) _ (by omega) (BY_7 hb g) ((g.2 13 kt13).trans h13) (by rw [up2_row, pk_us]; rfl) (by rw [up2_row, pk_un (by decide), up2_row, pk_us]) (fun hj => ?_) (fun v' j' e0 e1 e2 e3 e5 e6 g' => hQ v' j' ?_ e1 e2 e3 ?_ ?_ (F7_t g g'))
        · rw [up2_row, pk_un (by decide), pk_un (by decide), up2_row, pk_un (by decide), pk_un (by decide), q21, q34, mk_hl]
          exact hx hj
        · show (if tL (β (st + j)) = true then rn β tL f (st + j + 1) else st + j) = _
          rw [if_pos c]; exact e0
        · rw [e5, up2_row, pk_un (by decide), up2_row, pk_un (by decide)]; exact q15
        · rw [e6, up2_row, pk_un (by decide), up2_row, pk_un (by decide)]; exact q16
      have k1 : 11 ≤ nI j ↔ 11 ≤ j := nI_leI (a := 11) (by omega) (by omega)
      refine br_c (fun c1 => go _ (fun q => absurd (k1.mp c1) (by omega))) (fun c1 => ?_)
      have c1' : ¬ 11 ≤ j := fun q => c1 (k1.mpr q)
      refine uM_byteAt hb h13 (by omega) (fun q => absurd q (by omega)) (fun _ => ?_)
      rw [hw (by omega), wd_M hd]
      exact go _ (fun _ => rfl)
    · refine hQ v j ?_ h14 h17 hw rfl rfl (F7_r v)
      show (if tL (β (st + j)) = true then rn β tL f (st + j + 1) else st + j) = _
      rw [if_neg c]
def ntB (Q : V3 → Prop) (v5 : V3) : Prop := ∀ v8 : V3, v8 = up2 v5 7 15 (v5 7 14) → ∀ v9 : V3, v9 = up2 v8 7 17 0 → ∀ v10 : V3, v10 = up2 (up2 v9 7 21 (hi64 0)) 7 34 (lo64 0) → ∀ v11 : V3, v11 = up2 v10 7 18 0 → w_X4_byteAt (v11 7 14) v11 (fun r13 v12 => ((¬ r13 = (-1) → w_X4_isLetter r13 v12 (fun r16 v15 => ((r16 = 0 → w_X4_isDigit r13 v15 (fun r19 v18 => ((r19 = 0 → ((¬ r13 = 59 → w_X4_nextToken_265 Q 1 v18) ∧ (r13 = 59 → w_X4_nextToken_265 Q 4 v18))) ∧ (¬ r19 = 0 → ∀ v24 : V3, v24 = up2 v18 7 16 3 → ∃ m187 : Nat, w_X4_nextToken_187 Q m187 v24)))) ∧ (¬ r16 = 0 → ∀ v35 : V3, v35 = up2 v15 7 16 2 → ∃ m96 : Nat, w_X4_nextToken_96 Q m96 v35)))) ∧ (r13 = (-1) → ∀ v47 : V3, v47 = up2 v12 7 16 0 → w_X4_nextToken_278 Q v47)))
theorem uM_ntB {st : Nat} {Q : V3 → Prop} (hb : BY v β T) (h13 : v 7 13 = nI T) (h14 : v 7 14 = nI st) (hs : st ≤ T) (hQ : ∀ v', MTk v' β T st → F7 v v' → Q v') : ntB Q v := by
  have hT := hb.1
  unfold ntB
  refine nm_e (nm_e (nm_e (nm_e ?_)))
  rw [h14]
  have g : F7 v (up2 (up2 (up2 (up2 (up2 v 7 15 (nI st)) 7 17 0) 7 21 (hi64 0)) 7 34 (lo64 0)) 7 18 0) := F7_t (F7_u v _ (by unfold kt; omega)) (F7_t (F7_u _ _ (by unfold kt; omega)) (F7_t (F7_u _ _ (by unfold kt; omega)) (F7_t (F7_u _ _ (by unfold kt; omega)) (F7_u _ _ (by unfold kt; omega)))))
  have q14 : up2 (up2 (up2 (up2 (up2 v 7 15 (nI st)) 7 17 0) 7 21 (hi64 0)) 7 34 (lo64 0)) 7 18 0 7 14 = nI st := by rw [up2_row, pk_un (by decide), up2_row, pk_un (by decide), up2_row, pk_un (by decide), up2_row, pk_un (by decide), up2_row, pk_un (by decide)]; exact h14
  have q15 : up2 (up2 (up2 (up2 (up2 v 7 15 (nI st)) 7 17 0) 7 21 (hi64 0)) 7 34 (lo64 0)) 7 18 0 7 15 = nI st := by rw [up2_row, pk_un (by decide), up2_row, pk_un (by decide), up2_row, pk_un (by decide), up2_row, pk_un (by decide), up2_row, pk_us]
  have q17 : up2 (up2 (up2 (up2 (up2 v 7 15 (nI st)) 7 17 0) 7 21 (hi64 0)) 7 34 (lo64 0)) 7 18 0 7 17 = 0 := by rw [up2_row, pk_un (by decide), up2_row, pk_un (by decide), up2_row, pk_un (by decide), up2_row, pk_us]
  have q21 : up2 (up2 (up2 (up2 (up2 v 7 15 (nI st)) 7 17 0) 7 21 (hi64 0)) 7 34 (lo64 0)) 7 18 0 7 21 = hi64 0 := by rw [up2_row, pk_un (by decide), up2_row, pk_un (by decide), up2_row, pk_us]
  have q34 : up2 (up2 (up2 (up2 (up2 v 7 15 (nI st)) 7 17 0) 7 21 (hi64 0)) 7 34 (lo64 0)) 7 18 0 7 34 = lo64 0 := by rw [up2_row, pk_un (by decide), up2_row, pk_us]
  have q18 : up2 (up2 (up2 (up2 (up2 v 7 15 (nI st)) 7 17 0) 7 21 (hi64 0)) 7 34 (lo64 0)) 7 18 0 7 18 = 0 := by rw [up2_row, pk_us]
  generalize up2 (up2 (up2 (up2 (up2 v 7 15 (nI st)) 7 17 0) 7 21 (hi64 0)) 7 34 (lo64 0)) 7 18 0 = u at *
  have hb' := BY_7 hb g
  have q13 : u 7 13 = nI T := (g.2 13 kt13).trans h13
  rw [q14]
  have fu : ∀ x, F7 u (up2 u 7 16 x) := fun x => F7_u u x (by unfold kt; omega)
  refine uM_byteAt hb' q13 hs (fun e => ntc (fun c => absurd rfl c) (fun _ => nm_e (hQ _ ?_ (F7_t g (fu 0))))) (fun c => ntc (fun _ => ?_) (fun z => absurd z (nI_neg1 (by have := (hb'.2 st c).1; omega))))
  · have ek : kd β T st = 0 := by unfold kd; rw [if_pos (by omega)]
    refine ⟨?_, ?_, ?_, ?_, fun q => absurd (ek.symm.trans q) (by decide), fun q => absurd (ek.symm.trans q) (by decide), hs⟩
    · rw [up2_row, pk_un (by decide)]; exact q13
    · rw [up2_row, pk_un (by decide)]; unfold en; rw [if_pos (by omega)]; exact q14
    · rw [up2_row, pk_un (by decide)]; exact q15
    · rw [up2_row, pk_us, ek]; rfl
  · have b := hb'.2 st c
    refine uM_isL b.1 (fun c1 => zt1 (nm_e ?_)) (fun c1 => zt0 ?_)
    · refine ⟨T - st + 1, uM_pL (st := st) (T - st) 0 _ (by omega) (BY_7 hb' (fu 2)) (by rw [up2_row, pk_un (by decide)]; exact q13) (by rw [up2_row, pk_un (by decide)]; exact q14) (by rw [up2_row, pk_un (by decide)]; exact q17) (fun _ => by rw [up2_row, pk_un (by decide), pk_un (by decide), q21, q34, mk_hl]; rfl) (fun v' j' e0 e1 e2 e3 e5 e6 g' => hQ v' ?_ (F7_t g (F7_t (fu 2) g')))⟩
      have ek : kd β T st = 1 := by unfold kd; rw [if_neg (by omega), if_pos c1]
      have ee : en β T st = st + j' := by unfold en; rw [if_neg (by omega), if_pos c1]; exact e0
      refine ⟨?_, ?_, ?_, ?_, fun _ => ?_, fun q => absurd (ek.symm.trans q) (by decide), hs⟩
      · rw [g'.2 13 kt13, up2_row, pk_un (by decide)]; exact q13
      · rw [e1, ee]
      · rw [e5, up2_row, pk_un (by decide)]; exact q15
      · rw [e6, up2_row, pk_us, ek]; rfl
      · rw [ee, show st + j' - st = j' by omega]; exact ⟨e2, e3⟩
    · refine uM_isD b.1 (fun c2 => zt1 (nm_e ?_)) (fun c2 => zt0 ?_)
      · refine ⟨T - st + 1, uM_pD (T - st) st 0 0 _ (by omega) (BY_7 hb' (fu 3)) (by rw [up2_row, pk_un (by decide)]; exact q13) (by rw [up2_row, pk_un (by decide)]; exact q14) (by rw [up2_row, pk_un (by decide)]; exact q18) (by omega) rfl (fun v' b' e1 e2 e3 e4 e5 e6 g' => hQ v' ?_ (F7_t g (F7_t (fu 3) g')))⟩
        have ek : kd β T st = 2 := by unfold kd; rw [if_neg (by omega), if_neg c1, if_pos c2]
        refine ⟨?_, ?_, ?_, ?_, fun q => absurd (ek.symm.trans q) (by decide), fun _ => ⟨b', e2, e3, e4⟩, hs⟩
        · rw [g'.2 13 kt13, up2_row, pk_un (by decide)]; exact q13
        · rw [e1]; unfold en; rw [if_neg (by omega), if_neg c1, if_pos c2]
        · rw [e5, up2_row, pk_un (by decide)]; exact q15
        · rw [e6, up2_row, pk_us, ek]; rfl
      · have fin : ∀ (x : Nat), (kd β T st = 3 ∧ x = 4) ∨ (kd β T st = 4 ∧ x = 1) → w_X4_nextToken_265 Q (nI x) u := fun x ek => by
          unfold w_X4_nextToken_265
          refine nm_e (nm_e ?_)
          rw [show up2 u 7 16 (nI x) 7 14 = nI st by rw [up2_row, pk_un (by decide)]; exact q14, nI_1]
          refine hQ _ ⟨?_, ?_, ?_, ?_, fun q => by omega, fun q => by omega, hs⟩ (F7_t g (F7_t (fu _) (F7_u _ _ (by unfold kt; omega))))
          · rw [up2_row, pk_un (by decide), up2_row, pk_un (by decide)]; exact q13
          · rw [up2_row, pk_us]; unfold en; rw [if_neg (by omega), if_neg c1, if_neg c2]
          · rw [up2_row, pk_un (by decide), up2_row, pk_un (by decide)]; exact q15
          · rw [up2_row, pk_un (by decide), up2_row, pk_us]
            rcases ek with ⟨e, rfl⟩ | ⟨e, rfl⟩ <;> rw [e] <;> rfl
        have k59 : nI (β st) = 59 ↔ β st = 59 := nI_eq (b := 59) (by omega) (by omega)
        refine ntc (fun c3 => fin 1 (.inr ⟨?_, rfl⟩)) (fun c3 => fin 4 (.inl ⟨?_, rfl⟩))
        · unfold kd; rw [if_neg (by omega), if_neg c1, if_neg c2, if_neg (fun z => c3 (k59.mpr z))]
        · unfold kd; rw [if_neg (by omega), if_neg c1, if_neg c2, if_pos (k59.mp c3)]
theorem uM_nt0 {Q : V3 → Prop} : ∀ f p v, p + f = T → BY v β T → v 7 13 = nI T → v 7 14 = nI p → (∀ v', MTk v' β T (rn β tS f p) → F7 v v' → Q v') → w_X4_nextToken_0 Q (f + 1) v := by
  intro f
  induction f with
  | zero =>
    intro p v hp hb h13 h14 hQ
    have hT := hb.1
    have hB := uM_ntB (st := p) (Q := Q) hb h13 h14 (by omega) hQ
    rw [w_X4_nextToken_0, h14]
    refine uM_byteAt hb h13 (by omega) (fun _ => br_f (by decide) ?_) (fun q => absurd q (by omega))
    rw [h14]
    exact uM_byteAt hb h13 (by omega) (fun _ => ntc (fun _ => hB) (fun q => absurd q (by decide))) (fun q => absurd q (by omega))
  | succ f ih =>
    intro p v hp hb h13 h14 hQ
    have hT := hb.1
    have b := hb.2 p (by omega)
    have k32 : nI (β p) = 32 ↔ β p = 32 := nI_eq (b := 32) (by omega) (by omega)
    have k10 : nI (β p) = 10 ↔ β p = 10 := nI_eq (b := 10) (by omega) (by omega)
    have go : tS (β p) = true → w_X4_nextToken_26 Q (w_X4_nextToken_0 Q (f + 1)) v := fun c => by
      unfold w_X4_nextToken_26
      refine nm_e ?_
      rw [h14, nI_1]
      have g : F7 v (up2 v 7 14 (nI (p + 1))) := F7_u v _ (by unfold kt; omega)
      refine ih (p + 1) _ (by omega) (BY_7 hb g) ((g.2 13 kt13).trans h13) (by rw [up2_row, pk_us]) (fun v' q r => hQ v' ?_ (F7_t g r))
      have : rn β tS (f + 1) p = rn β tS f (p + 1) := if_pos c
      rw [this]; exact q
    rw [w_X4_nextToken_0, h14]
    refine uM_byteAt hb h13 (by omega) (fun q => absurd q (by omega)) (fun _ => br_c (fun c => go (decide_eq_true (.inl (k32.mp c)))) (fun c => ?_))
    rw [h14]
    refine uM_byteAt hb h13 (by omega) (fun q => absurd q (by omega)) (fun _ => ntc (fun d => ?_) (fun d => go (decide_eq_true (.inr (k10.mp d)))))
    refine uM_ntB (st := p) (Q := Q) hb h13 h14 (by omega) (fun v' q r => hQ v' ?_ r)
    have : rn β tS (f + 1) p = p := if_neg (fun z => by
      have := of_decide_eq_true z
      rw [← k32, ← k10] at this
      exact this.elim c d)
    rw [this]; exact q
theorem uM_next0 {Q : V3 → Prop} {p : Nat} (hb : BY v β T) (h13 : v 7 13 = nI T) (h14 : v 7 14 = nI p) (hp : p ≤ T) (hQ : ∀ v', MTk v' β T (sk β T p) → F7 v v' → Q v') : w_X4_nextToken v Q :=
  ⟨T - p + 1, uM_nt0 (T - p) p v (by omega) hb h13 h14 hQ⟩
theorem uM_next {Q : V3 → Prop} {st : Nat} (hb : BY v β T) (h : MTk v β T st) (hQ : ∀ v', MTk v' β T (nx β T st) → F7 v v' → Q v') : w_X4_nextToken v Q :=
  uM_next0 hb h.1 h.2.1 (en_b h.2.2.2.2.2.2).2.1 hQ
end LM
/-! words -/
def zb (a k : Nat) : Nat := (zch a k).toNatClampNeg
def pz (a : Nat) : Nat → Nat
  | 0 => 0
  | k + 1 => 27 * pz a k + (zb a k - 96)
theorem wz_c : ∀ a, a < 6 → ∀ k, k < zlen a → (((zch a k) &&& 255).toUInt32 % 65536).toInt32 = nI (zb a k) ∧ 97 ≤ zb a k ∧ zb a k ≤ 122 := by decide +kernel
theorem wz_l : ∀ a, a < 6 → (nI (zlen a)) >>> ((0 : Int32) &&& 31) = nI (zlen a) ∧ zlen a ≤ 7 := by decide +kernel
theorem wz_n : ∀ k, k < 128 → (nI k).toUInt32.toUInt16.toUInt32.toInt32 = nI k := by decide +kernel
section WD
variable {v : V3} {β : Nat → Nat} {T st a : Nat}
theorem uZ_len (ha : a < 6) {Q : Int32 → V3 → Prop} (hQ : Q (nI (zlen a)) v) : w_J0_length_8abf5 a v Q := by
  unfold w_J0_length_8abf5 w_J0_coder_7d493 w_J0_coder_7d493_14
  refine ⟨rfl, ?_⟩
  show Q (nI (zlen a) >>> (0 &&& 31)) v
  rw [(wz_l a ha).1]
  exact hQ
theorem uZ_chr (ha : a < 6) {k : Nat} (hk : k < zlen a) {Q : Int32 → V3 → Prop} (hQ : Q (nI (zb a k)) v) : w_J0_charAt_5068e a (nI k) v Q := by
  unfold w_J0_charAt_5068e w_J0_isLatin1_aae02 w_J0_isLatin1_aae02_18 w_J1_charAt_3b067 w_J0_checkIndex_df160
  have hl := (wz_l a ha).2
  have hc := wz_c a ha k hk
  refine ⟨.inr rfl, zt1 ⟨nI_pos (by omega), nI_lt hk (by omega), vp_in_nI hk (by omega), ?_⟩⟩
  rw [show ix (nI k) = k from nI_clamp (by omega), hc.1]
  exact ⟨(show narrow .char (.int (nI (zb a k))) = .int ((nI (zb a k)).toUInt32.toUInt16.toUInt32.toInt32) from rfl).trans (by rw [wz_n _ (by omega)]), hQ⟩
def wd (β : Nat → Nat) (T st a : Nat) : Prop := kd β T st = 1 ∧ en β T st - st = zlen a ∧ ∀ i, i < zlen a → β (st + i) = zb a i
theorem wd_L (h1 : kd β T st = 1) : st < T ∧ tL (β st) = true ∧ en β T st = rn β tL (T - st) st := by
  unfold kd at h1
  by_cases c : T ≤ st
  · rw [if_pos c] at h1; exact absurd h1 (by decide)
  · rw [if_neg c] at h1
    by_cases c1 : tL (β st) = true
    · exact ⟨by omega, c1, by unfold en; rw [if_neg c, if_pos c1]⟩
    · rw [if_neg c1] at h1
      by_cases c2 : tD (β st) = true
      · rw [if_pos c2] at h1; exact absurd h1 (by decide)
      · rw [if_neg c2] at h1
        by_cases c3 : β st = 59
        · rw [if_pos c3] at h1; exact absurd h1 (by decide)
        · rw [if_neg c3] at h1; exact absurd h1 (by decide)
theorem wd_in (h1 : kd β T st = 1) {i : Nat} (hi : st + i < en β T st) : 97 ≤ β (st + i) ∧ β (st + i) ≤ 122 := by
  have w := wd_L h1
  exact of_decide_eq_true (rn_in β tL (T - st) st (st + i) (by omega) (by omega))
theorem kd_4 : kd β T st ≤ 4 := by
  unfold kd
  by_cases c : T ≤ st
  · rw [if_pos c]; omega
  · rw [if_neg c]
    by_cases c1 : tL (β st) = true
    · rw [if_pos c1]; omega
    · rw [if_neg c1]
      by_cases c2 : tD (β st) = true
      · rw [if_pos c2]; omega
      · rw [if_neg c2]
        by_cases c3 : β st = 59
        · rw [if_pos c3]; omega
        · rw [if_neg c3]; omega
theorem uC_w28 (ha : a < 6) (hb : BY v β T) (h5 : v 6 5 = nI st) (hs : st + zlen a ≤ T) {Q : Int32 → V3 → Prop} : ∀ f i, i + f = zlen a → (∀ j, j < i → β (st + j) = zb a j) → ((∀ j, j < zlen a → β (st + j) = zb a j) → Q 1 v) → (¬ (∀ j, j < zlen a → β (st + j) = zb a j) → Q 0 v) → w_X2_isWord_28 a Q (f + 1) (nI i) v
  | 0, i, hi, hj, q1, q0 => by
    have hl := (wz_l a ha).2
    rw [w_X2_isWord_28]
    exact uZ_len ha (br_t (nI_le (by omega) (by omega)) (q1 (fun j h => hj j (by omega))))
  | f + 1, i, hi, hj, q1, q0 => by
    have hl := (wz_l a ha).2
    have hT := hb.1
    have hc := wz_c a ha i (by omega)
    have b := hb.2 (st + i) (by omega)
    rw [w_X2_isWord_28]
    refine uZ_len ha (br_f (nI_ge (by omega) (by omega)) ?_)
    rw [h5, nI_add]
    refine ⟨vp_in_nI (by omega) (by decide), uZ_chr ha (by omega) ?_⟩
    rw [show ix (nI (st + i)) = st + i from nI_clamp (by omega), b.2.2, nI_1]
    have ke : (nI (β (st + i))).toInt8.toInt32 = nI (zb a i) ↔ β (st + i) = zb a i := by
      rcases by_f _ b.1 with ⟨_, e⟩ | ⟨q, e⟩
      · rw [e]; exact nI_eq (by omega) (by omega)
      · exact ⟨fun z => absurd e (by rw [z]; exact nI_pos (by omega)), fun z => by omega⟩
    refine br_c (fun c => uC_w28 ha hb h5 hs f (i + 1) (by omega) (fun j h => ?_) q1 q0) (fun c => q0 (fun z => c (ke.mpr (z i (by omega)))))
    by_cases e : j = i
    · subst e; exact ke.mp c
    · exact hj j (by omega)
theorem uC_word (ha : a < 6) (hb : BY v β T) (h : CT v β T st) {Q : Int32 → V3 → Prop} (q1 : wd β T st a → Q 1 v) (q0 : ¬ wd β T st a → Q 0 v) : w_X2_isWord a v Q := by
  have hT := hb.1
  have hl := (wz_l a ha).2
  have e := en_b (β := β) h.2.2.2.2.2
  have k4 := kd_4 (β := β) (T := T) (st := st)
  unfold w_X2_isWord w_X2_isWord_24
  rw [h.2.2.1, h.2.1, h.2.2.2.1, nI_sb e.1]
  have k1 : nI (kd β T st) = 1 ↔ kd β T st = 1 := nI_eq (b := 1) (by omega) (by omega)
  have k2 : nI (en β T st - st) = nI (zlen a) ↔ en β T st - st = zlen a := nI_eq (by omega) (by omega)
  refine ntc (fun c => q0 (fun z => c (k1.mpr z.1))) (fun c => uZ_len ha (br_c (fun d => ?_) (fun d => q0 (fun z => d (k2.mpr z.2.1)))))
  have d := k2.mp d
  exact ⟨zlen a + 1, uC_w28 ha hb h.2.2.2.1 (by omega) (zlen a) 0 (by omega) (fun j h => absurd h (Nat.not_lt_zero j)) (fun z => q1 ⟨k1.mp c, d, z⟩) (fun z => q0 (fun y => z y.2.2))⟩
/-- the packed word says it all -/
theorem pk_inj {L : Nat} (h1 : ∀ i, i < L → 97 ≤ β (st + i) ∧ β (st + i) ≤ 122) (h2 : ∀ i, i < L → 97 ≤ zb a i ∧ zb a i ≤ 122) : ∀ k, k ≤ L → (pw β st k < 27 ^ k ∧ pz a k < 27 ^ k) ∧ (pw β st k = pz a k ↔ ∀ i, i < k → β (st + i) = zb a i)
  | 0, _ => ⟨⟨Nat.zero_lt_one, Nat.zero_lt_one⟩, ⟨fun _ i h => absurd h (Nat.not_lt_zero i), fun _ => rfl⟩⟩
  | k + 1, hk => by
    obtain ⟨⟨a1, a2⟩, ih⟩ := pk_inj h1 h2 k (by omega)
    have x := h1 k (by omega)
    have y := h2 k (by omega)
    have e1 : pw β st (k + 1) = 27 * pw β st k + (β (st + k) - 96) := rfl
    have e2 : pz a (k + 1) = 27 * pz a k + (zb a k - 96) := rfl
    have e3 : (27 : Nat) ^ (k + 1) = 27 ^ k * 27 := rfl
    refine ⟨⟨by omega, by omega⟩, ⟨fun h i hi => ?_, fun h => ?_⟩⟩
    · by_cases e : i = k
      · subst e; omega
      · exact ih.mp (by omega) i (by omega)
    · have p := ih.mpr (fun i hi => h i (by omega))
      have q := h k (by omega)
      omega
theorem uM_w26 (ha : a < 6) {Q : Int32 → V3 → Prop} : ∀ f i, i + f = zlen a → ((mk64 (v 7 21) (v 7 34) = Int64.ofNat (pz a (zlen a)) → Q 1 v) ∧ (¬ mk64 (v 7 21) (v 7 34) = Int64.ofNat (pz a (zlen a)) → Q 0 v)) → w_X4_isWord_26 a Q (f + 1) (Int64.ofNat (pz a i)) (nI i) v
  | 0, i, hi, q => by
    have hl := (wz_l a ha).2
    obtain rfl : i = zlen a := by omega
    rw [w_X4_isWord_26]
    refine uZ_len ha (br_t (nI_le (by omega) (by omega)) ?_)
    rw [lg_cmp_eq]
    exact ntc (fun c => ⟨.inl rfl, q.2 c⟩) (fun c => ⟨.inr rfl, q.1 c⟩)
  | f + 1, i, hi, q => by
    have hl := (wz_l a ha).2
    have hc := wz_c a ha i (by omega)
    rw [w_X4_isWord_26]
    refine uZ_len ha (br_f (nI_ge (by omega) (by omega)) (uZ_chr ha (by omega) ?_))
    rw [wd_M ⟨hc.2.1, hc.2.2⟩, nI_1]
    exact uM_w26 ha f (i + 1) (by omega) q
theorem uM_word (ha : a < 6) (hb : BY v β T) (h : MTk v β T st) {Q : Int32 → V3 → Prop} (q1 : wd β T st a → Q 1 v) (q0 : ¬ wd β T st a → Q 0 v) : w_X4_isWord a v Q := by
  have hT := hb.1
  have hl := (wz_l a ha).2
  obtain ⟨h13, h14, h15, h16, hw, hn, hs⟩ := h
  have e := en_b (β := β) hs
  have k4 := kd_4 (β := β) (T := T) (st := st)
  unfold w_X4_isWord w_X4_isWord_19
  rw [h16]
  have k1 : nI (kr (kd β T st)) = 2 ↔ kd β T st = 1 := by
    generalize kd β T st = x at *
    match x, k4 with
    | 0, _ => exact ⟨fun z => absurd z (by decide), fun z => absurd z (by decide)⟩
    | 1, _ => exact ⟨fun _ => rfl, fun _ => rfl⟩
    | 2, _ => exact ⟨fun z => absurd z (by decide), fun z => absurd z (by decide)⟩
    | 3, _ => exact ⟨fun z => absurd z (by decide), fun z => absurd z (by decide)⟩
    | 4, _ => exact ⟨fun z => absurd z (by decide), fun z => absurd z (by decide)⟩
  refine ntc (fun c => q0 (fun z => c (k1.mpr z.1))) (fun c => uZ_len ha ?_)
  have c := k1.mp c
  obtain ⟨h17, hm⟩ := hw c
  rw [h17]
  have k2 : nI (en β T st - st) = nI (zlen a) ↔ en β T st - st = zlen a := nI_eq (by omega) (by omega)
  refine br_c (fun d => ?_) (fun d => q0 (fun z => d (k2.mpr z.2.1)))
  have d := k2.mp d
  have in1 : ∀ i, i < zlen a → 97 ≤ β (st + i) ∧ β (st + i) ≤ 122 := fun i hi => wd_in c (by omega)
  have P := pk_inj (β := β) (st := st) (a := a) (L := zlen a) in1 (fun i hi => (wz_c a ha i hi).2) (zlen a) (Nat.le_refl _)
  have big : (27 : Nat) ^ zlen a ≤ 27 ^ 7 := Nat.pow_le_pow_right (by decide) hl
  have b7 : (27 : Nat) ^ 7 = 10460353203 := by decide
  have eqv : mk64 (v 7 21) (v 7 34) = Int64.ofNat (pz a (zlen a)) ↔ pw β st (zlen a) = pz a (zlen a) := by
    rw [hm (by omega), d]
    refine ⟨fun z => ?_, fun z => by rw [z]⟩
    have z' := congrArg Int64.toInt z
    rw [Int64.toInt_ofNat_of_lt (by omega), Int64.toInt_ofNat_of_lt (by omega)] at z'
    omega
  exact ⟨zlen a + 1, uM_w26 ha (zlen a) 0 (by omega) ⟨fun z => q1 ⟨c, d, P.2.mp (eqv.mp z)⟩, fun z => q0 (fun y => z (eqv.mpr (P.2.mpr y.2.2)))⟩⟩
end WD
