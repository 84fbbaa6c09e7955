/-! THE TEXT OF A SETUP 3: what it says, and the class -/
abbrev PE (α : Type) : Type := Except (Int32 × Nat) α
section YY
variable (β : Nat → Nat) (T : Nat)
def yV (st : Nat) : Nat := min (nm β T st) 1000000
def yN (lo hi : Int32) (st : Nat) : PE Nat := if kd β T st = 2 then (if ¬ nI (yV β T st) < lo ∧ nI (yV β T st) ≤ hi then .ok (yV β T st) else .error (2, st)) else .error (1, st)
def yO (st : Nat) (σ : Nat → Int32) (m : Nat) : PE (Nat × (Nat → Int32)) := if m < 8 then (match yN β T 0 999 (nx β T st) with
  | .error e => .error e
  | .ok a => .ok (nx β T (nx β T st), addOS σ m (nI a))) else .error (3, st)
def yS (st : Nat) (σ : Nat → Int32) : PE (Nat × (Nat → Int32)) := match yN β T 0 3 (nx β T st) with
  | .error e => .error e
  | .ok k => match yN β T (f4 0 0 1 1 k) (f4 50 99 9 9 k) (nx β T (nx β T st)) with
    | .error e => .error e
    | .ok x => .ok (nx β T (nx β T (nx β T st)), upd σ k (nI x))
noncomputable def yP (a : Nat) (lo hi : Int32) (d st : Nat) : PE (Nat × Nat) := @ite _ (wd β T st a) (Classical.propDecidable _) (match yN β T lo hi (nx β T st) with
  | .error e => .error e
  | .ok k => .ok (k, nx β T (nx β T st))) (.ok (d, st))
noncomputable def yB3 (σ : Nat → Int32) (n o a l s3 : Nat) : PE (Nat × (Nat → Int32)) := match yN β T 1 99 (nx β T s3) with
  | .error e => .error e
  | .ok d => match yN β T 0 9999 (nx β T (nx β T s3)) with
    | .error e => .error e
    | .ok t => match yP β T 4 0 99 0 (nx β T (nx β T (nx β T s3))) with
      | .error e => .error e
      | .ok (x, s5) => match yP β T 5 1 9 1 s5 with
        | .error e => .error e
        | .ok (u, s6) => .ok (s6, bkS σ n (rw7 (nI o) (nI a) (nI l) (nI d) (nI t) (nI x) (nI u)))
noncomputable def yB2 (σ : Nat → Int32) (n S o s2 : Nat) : PE (Nat × (Nat → Int32)) := match yN β T 0 (nI S - 1) s2 with
  | .error e => .error e
  | .ok a => match yN β T 1 1000000 (nx β T s2) with
    | .error e => .error e
    | .ok l => if l ≤ S - a then yB3 β T σ n o a l (nx β T s2) else .error (4, nx β T s2)
noncomputable def yB (st : Nat) (σ : Nat → Int32) (n m S : Nat) : PE (Nat × (Nat → Int32)) := if n < 40 then (match yN β T 0 (nI m - 1) (nx β T st) with
  | .error e => .error e
  | .ok o => if opnS σ n (nI o) < σ 2 then yB2 β T σ n S o (nx β T (nx β T st)) else .error (3, nx β T st)) else .error (3, st)
end YY
def FI (v v' : V3) : Prop := ∀ c, c ≠ 6 → (c < 75 ∨ 129 ≤ c) → v' c = v c
theorem FI_r (v : V3) : FI v v := fun _ _ _ => rfl
theorem FI_t {v w x : V3} (h : FI v w) (h' : FI w x) : FI v x := fun c a b => (h' c a b).trans (h c a b)
def FO (v v' : V3) : Prop := FI v v' ∧ v' 6 7 = v 6 7 ∧ v' 6 8 = v 6 8
theorem FO_r (v : V3) : FO v v := ⟨FI_r v, rfl, rfl⟩
theorem FO_t {v w x : V3} (h : FO v w) (h' : FO w x) : FO v x := ⟨FI_t h.1 h'.1, h'.2.1.trans h.2.1, h'.2.2.trans h.2.2⟩
theorem FO_6 {v w : V3} (h : F6 v w) : FO v w := ⟨fun c a _ => h.1 c a, h.2.1, h.2.2⟩
theorem FO_L {v w : V3} (h : Fr 75 v w) : FO v w := ⟨fun c _ b => h c (by omega), by rw [h 6 (by omega)], by rw [h 6 (by omega)]⟩
def CE (v v' : V3) (e : Int32 × Nat) : Prop := v' 6 7 = e.1 ∧ v' 6 8 = nI e.2 ∧ FI v v'
theorem CE_t {v w x : V3} {e : Int32 × Nat} (h : FO v w) (h' : CE w x e) : CE v x e := ⟨h'.1, h'.2.1, FI_t h.1 h'.2.2⟩
section PC
variable {v : V3} {β : Nat → Nat} {T st n m S : Nat} {σ : Nat → Int32}
theorem BY_O {w : V3} (hb : BY v β T) (h : FO v w) : BY w β T := BY_c hb (h.1 1 (by decide) (by omega)) (h.1 16 (by decide) (by omega))
theorem CT_c {w : V3} (h : CT v β T st) (h6 : w 6 = v 6) : CT w β T st := by unfold CT; rw [h6]; exact h
theorem LA_6 {w : V3} (hL : LA v 75 σ n m) (hn : n ≤ 40) (hm : m ≤ 8) (h : F6 v w) : LA w 75 σ n m := LA_c hL hn hm (fun c c1 c2 _ _ => h.1 c (by omega))
theorem yN_ok {lo hi : Int32} {k : Nat} (h : yN β T lo hi st = .ok k) : kd β T st = 2 ∧ k = yV β T st ∧ ¬ nI k < lo ∧ nI k ≤ hi ∧ k ≤ 1000000 := by
  unfold yN at h
  by_cases c : kd β T st = 2
  · rw [if_pos c] at h
    by_cases d : ¬ nI (yV β T st) < lo ∧ nI (yV β T st) ≤ hi
    · rw [if_pos d] at h
      obtain rfl : yV β T st = k := Except.ok.inj h
      exact ⟨c, rfl, d.1, d.2, Nat.min_le_right _ _⟩
    · rw [if_neg d] at h; cases h
  · rw [if_neg c] at h; cases h
theorem uC_fail {c : Int32} (h5 : v 6 5 = nI st) {Q : Int32 → V3 → Prop} (hQ : ∀ v', CE v v' (c, st) → Q 0 v') : w_X2_fail c v Q := by
  unfold w_X2_fail
  refine nm_e (nm_e (hQ _ ⟨?_, ?_, fun c' a _ => ?_⟩))
  · rw [up2_row, pk_un (by decide), up2_row, pk_us]
  · rw [up2_row, pk_us, up2_row, pk_un (by decide)]; exact h5
  · rw [up2_off _ _ _ a, up2_off _ _ _ a]
theorem uC_check {lo hi : Int32} (h : CT v β T st) {Q : Int32 → V3 → Prop} (hE : ∀ e, yN β T lo hi st = .error e → ∀ v', CE v v' e → Q (-1) v') (hO : ∀ k, yN β T lo hi st = .ok k → Q (nI k) v) : w_X2_checkNumber lo hi v Q := by
  have k4 := kd_4 (β := β) (T := T) (st := st)
  unfold w_X2_checkNumber w_X2_checkNumber_32
  rw [h.2.2.1]
  have k2 : nI (kd β T st) = 2 ↔ kd β T st = 2 := nI_eq (b := 2) (by omega) (by omega)
  refine br_c (fun c => ?_) (fun c => uC_fail h.2.2.2.1 (fun v' q => hE (1, st) (if_neg (fun z => c (k2.mpr z))) v' q))
  have c := k2.mp c
  rw [h.2.2.2.2.1 c]
  refine br_c (fun c1 => uC_fail h.2.2.2.1 (fun v' q => hE (2, st) ?_ v' q)) (fun c1 => br_c (fun c2 => hO _ ?_) (fun c2 => uC_fail h.2.2.2.1 (fun v' q => hE (2, st) ?_ v' q)))
  · unfold yN; rw [if_pos c, if_neg (fun z => z.1 c1)]
  · unfold yN; rw [if_pos c]; exact if_pos ⟨c1, c2⟩
  · unfold yN; rw [if_pos c, if_neg (fun z => c2 z.2)]
theorem uC_num {lo hi : Int32} (hb : BY v β T) (h : CT v β T st) {Q : Int32 → V3 → Prop} (hE : ∀ e, yN β T lo hi st = .error e → ∀ v', CE v v' e → Q (-1) v') (hO : ∀ k, yN β T lo hi st = .ok k → ∀ v', CT v' β T (nx β T st) → F6 v v' → Q (nI k) v') : w_X2_readNumber lo hi v Q := by
  unfold w_X2_readNumber w_X2_readNumber_16
  exact uC_check h (fun e he v' q => br_t rfl (hE e he v' q)) (fun k hk => br_f (nI_neg1 (by have := (yN_ok hk).2.2.2.2; omega)) (uC_next hb h (fun v' c f => hO k hk v' c f)))
theorem uC_owner (hb : BY v β T) (h : CT v β T st) (hL : LA v 75 σ n m) (hn : n ≤ 40) (hm : m ≤ 8) {Q : Int32 → V3 → Prop} (hE : ∀ e, yO β T st σ m = .error e → ∀ v', CE v v' e → Q 0 v') (hO : ∀ s' σ', yO β T st σ m = .ok (s', σ') → ∀ v', CT v' β T s' → LA v' 75 σ' n (m + 1) → FO v v' → Q 1 v') : w_X2_readOwner v Q := by
  unfold w_X2_readOwner
  rw [hL.m7]
  have k8 : nI m < 8 ↔ m < 8 := nI_ltI (b := 8) (by omega) (by omega)
  refine br_c (fun c => ?_) (fun c => uC_fail h.2.2.2.1 (fun v' q => ⟨.inl rfl, hE (3, st) (if_neg (fun z => c (k8.mpr z))) v' q⟩))
  have c := k8.mp c
  refine uC_next hb h (fun v1 t1 f1 => uC_num (BY_F hb f1) t1 (fun e he v' q => ?_) (fun k hk v2 t2 f2 => ?_))
  · refine ntc (fun z => absurd rfl z) (fun _ => hE e ?_ v' (CE_t (FO_6 f1) q))
    unfold yO; rw [if_pos c, he]
  · have F := F6_t f1 f2
    refine ntc (fun _ => uC_enterO (LA_6 hL hn hm F) c (fun v3 l3 f3 => hO _ _ ?_ v3 (CT_c t2 (f3 6 (by omega))) l3 (FO_t (FO_6 F) (FO_L f3)))) (fun z => absurd z (nI_neg1 (by have := (yN_ok hk).2.2.2.2; omega)))
    unfold yO; rw [if_pos c, hk]
theorem uC_set (hb : BY v β T) (h : CT v β T st) (hL : LA v 75 σ n m) (hn : n ≤ 40) (hm : m ≤ 8) {Q : Int32 → V3 → Prop} (hE : ∀ e, yS β T st σ = .error e → ∀ v', CE v v' e → Q 0 v') (hO : ∀ s' σ', yS β T st σ = .ok (s', σ') → ∀ v', CT v' β T s' → LA v' 75 σ' n m → FO v v' → Q 1 v') : w_X2_readSetting v Q := by
  unfold w_X2_readSetting
  refine uC_next hb h (fun v1 t1 f1 => uC_num (BY_F hb f1) t1 (fun e he v' q => ?_) (fun k hk v2 t2 f2 => ?_))
  · refine ntc (fun z => absurd rfl z) (fun _ => hE e ?_ v' (CE_t (FO_6 f1) q))
    unfold yS; rw [he]
  · have y := yN_ok hk
    have k3 : k ≤ 3 := (nI_leI (b := 3) (by omega) (by omega)).mp y.2.2.2.1
    have F := F6_t f1 f2
    refine ntc (fun _ => ?_) (fun z => absurd z (nI_neg1 (by omega)))
    refine ⟨vp_in_nI (by omega) (by decide), vp_in_nI (by omega) (by decide), ?_⟩
    rw [show ix (nI k) = k from nI_clamp (by omega)]
    refine uC_num (BY_F hb F) t2 (fun e he v' q => ?_) (fun x hx v3 t3 f3 => ?_)
    · refine ntc (fun z => absurd rfl z) (fun _ => hE e ?_ v' (CE_t (FO_6 F) q))
      unfold yS; rw [hk]; simp only [he]
    · have yx := yN_ok hx
      refine ntc (fun _ => ⟨vp_in_nI (by omega) (by decide), nm_e ?_⟩) (fun z => absurd z (nI_neg1 (by omega)))
      have F3 := F6_t F f3
      have L3 := LA_6 hL hn hm F3
      refine hO (nx β T (nx β T (nx β T st))) (upd σ k (nI x)) ?_ _ (CT_c t3 (up2_off _ _ _ (by decide))) ?_ (FO_t (FO_6 F3) (FO_L (Fr_u (Fr_r 75 v3) (by omega) (by omega))))
      · unfold yS; rw [hk]; simp only [hx]
      · obtain ⟨⟨a1, a2, a3, a4, a5, a6, a7⟩, ho, hbk⟩ := L3
        refine ⟨⟨fun j hj => ?_, ?_, ?_, ?_, ?_, ?_, ?_⟩, fun o hom f hf => ?_, fun i hi f hf => ?_⟩
        · rw [up2_row]
          by_cases e : j = k
          · subst e; rw [pk_us, pk_us]
          · rw [pk_un e, pk_un e]; exact a1 j hj
        · rw [up2_off _ _ _ (by omega), pk_un (by omega)]; exact a2
        · rw [up2_off _ _ _ (by omega), pk_un (by omega)]; exact a3
        · rw [up2_off _ _ _ (by omega)]; exact a4
        · rw [up2_off _ _ _ (by omega)]; exact a5
        · rw [up2_off _ _ _ (by omega), pk_un (by omega)]; exact a6
        · rw [up2_off _ _ _ (by omega), pk_un (by omega)]; exact a7
        · rw [up2_off _ _ _ (by omega), og_sc (by omega)]; exact ho o hom f hf
        · rw [up2_off _ _ _ (by omega), bf_sc (by omega)]; exact hbk i hi f hf
theorem uC_opt {a d : Nat} {lo hi : Int32} (ha : a < 6) (hb : BY v β T) (h : CT v β T st) {Q : Int32 → V3 → Prop} (hE : ∀ e, yP β T a lo hi d st = .error e → ∀ v', CE v v' e → Q (-1) v') (hO : ∀ k s', yP β T a lo hi d st = .ok (k, s') → ∀ v', CT v' β T s' → F6 v v' → Q (nI k) v') : w_X2_readOption a lo hi (nI d) v Q := by
  unfold w_X2_readOption
  refine uC_word ha hb h (fun w => nt1 ?_) (fun w => nt0 (hO d st (if_neg w) v h (F6_r v)))
  refine uC_next hb h (fun v1 t1 f1 => uC_num (BY_F hb f1) t1 (fun e he v' q => hE e ?_ v' (CE_t (FO_6 f1) q)) (fun k hk v2 t2 f2 => hO k _ ?_ v2 t2 (F6_t f1 f2)))
  · unfold yP; rw [if_pos w, he]
  · unfold yP; rw [if_pos w, hk]
end PC
