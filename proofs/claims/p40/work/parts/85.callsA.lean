/-! CALLS 1: errors, the text, owners added, settings, counts, owners told -/
theorem mm1 {α : Type} {a : α} {l : List α} : a ∈ a :: l := List.mem_cons_self
theorem mm2 {α : Type} {a b : α} {l : List α} : b ∈ a :: b :: l := List.mem_cons_of_mem _ List.mem_cons_self
theorem mm3 {α : Type} {a b c : α} {l : List α} : c ∈ a :: b :: c :: l := List.mem_cons_of_mem _ (List.mem_cons_of_mem _ List.mem_cons_self)
theorem nt1 {A B : Prop} (a : A) : (¬ (1 : Int32) = 0 → A) ∧ ((1 : Int32) = 0 → B) := ⟨fun _ => a, fun q => absurd q (by decide)⟩
theorem nt0 {A B : Prop} (b : B) : (¬ (0 : Int32) = 0 → A) ∧ ((0 : Int32) = 0 → B) := ⟨fun q => absurd rfl q, fun _ => b⟩
theorem zt1 {A B : Prop} (b : B) : ((1 : Int32) = 0 → A) ∧ (¬ (1 : Int32) = 0 → B) := ⟨fun q => absurd q (by decide), fun _ => b⟩
theorem zt0 {A B : Prop} (a : A) : ((0 : Int32) = 0 → A) ∧ (¬ (0 : Int32) = 0 → B) := ⟨fun _ => a, fun q => absurd rfl q⟩
theorem ntc {c A B : Prop} (a : ¬ c → A) (b : c → B) : (¬ c → A) ∧ (c → B) := ⟨a, b⟩
theorem same {v : V3} : ∀ n m, LA v 8 (v 8) n m → n ≤ 40 → m ≤ 8 → LA v 8 (v 8) n m := fun _ _ h _ _ => h
section CA
variable {v : V3} {g : Nat} {B : Int}
theorem ti_nonneg {x : Int32} (h : ¬ x < 0) : 0 ≤ x.toInt := by
  have := Int32.not_lt.mp h
  rw [ti_le] at this
  exact this
/-- a byte on both sides -/
theorem ap_byte (a s : Int32) (k : Nat) (hk : k ≤ 24) (h1 : (s.toUInt32 &&& Int32.toUInt32 31).toBitVec % 32 = BitVec.ofNat 32 k) (h2 : (s &&& 31).toBitVec.smod 32 = BitVec.ofNat 32 k) : (zushr a s).toInt8 = ((a >>> (s &&& 31)) &&& 255).toInt8 := by
  apply Int8.toBitVec.inj
  rw [Int32.toBitVec_toInt8, Int32.toBitVec_toInt8, BitVec.signExtend_eq_setWidth_of_le _ (by decide), BitVec.signExtend_eq_setWidth_of_le _ (by decide)]
  apply BitVec.eq_of_getLsbD_eq
  intro i hi
  rw [BitVec.getLsbD_setWidth, BitVec.getLsbD_setWidth]
  have e1 : (zushr a s).toBitVec.getLsbD i = a.toBitVec.getLsbD (k + i) := by
    show (a.toBitVec >>> ((s.toUInt32 &&& Int32.toUInt32 31).toBitVec % 32)).getLsbD i = _
    rw [h1]
    show (a.toBitVec >>> (BitVec.ofNat 32 k).toNat).getLsbD i = _
    rw [BitVec.getLsbD_ushiftRight, BitVec.toNat_ofNat, Nat.mod_eq_of_lt (by omega)]
  have e3 : (255#32).getLsbD i = true := by
    have : ∀ j, j < 8 → (255#32).getLsbD j = true := by decide
    exact this i hi
  have e2 : ((a >>> (s &&& 31)) &&& 255).toBitVec.getLsbD i = a.toBitVec.getLsbD (k + i) := by
    show ((a.toBitVec.sshiftRight ((s &&& 31).toBitVec.smod 32).toNat) &&& 255#32).getLsbD i = _
    rw [h2, BitVec.getLsbD_and, e3, BitVec.getLsbD_sshiftRight, BitVec.toNat_ofNat, Nat.mod_eq_of_lt (by omega), if_pos (by omega), decide_eq_false (by omega)]
    simp
  rw [e1, e2]
theorem ap_rng (x : Int32) : 0 ≤ (x &&& 255).toInt ∧ (x &&& 255).toInt ≤ 255 := by
  obtain ⟨j, hj, e⟩ := pk_andE x (m := 255) 8 (by decide)
  rw [e, ti_nI (by omega)]
  omega
/-- another choice of rows, other settings, more owners -/
theorem Wf_re {σ σ' : Nat → Int32} {n n' m m' S : Nat} {B : Int} (h : Wf σ n m S B) (q : Nat → Nat) (hC : Cn σ' n' m') (hm : m ≤ m') (h4 : σ' 4 = σ 4) (h7 : σ' 7 = σ 7) (hg : Sg σ') (hq : ∀ j, j < n' → q j < n) (hi : ∀ j k, j < n' → k < n' → q j = q k → j = k) (hb : ∀ j, j < n' → ∀ f, f < 10 → bf σ' j f = bf σ (q j) f) : Wf σ' n' m' S B := by
  obtain ⟨⟨-, s4, s7, -⟩, hSp, hSt, hRg, hOw, hTm, hNC⟩ := h
  refine ⟨⟨hC, h4.trans s4, by rw [h7]; exact s7, hg⟩, ⟨fun j hj => ?_, hSp.2⟩, fun j hj => ?_, fun j hj => ?_, fun j hj => ?_, ⟨fun j hj hlj => ?_, hTm.2⟩, fun j k hj hkn hne l1 l2 => ?_⟩
  · rw [hb j hj 1 (by omega), hb j hj 2 (by omega)]; exact hSp.1 _ (hq j hj)
  · rw [hb j hj 7 (by omega)]; exact hSt _ (hq j hj)
  · unfold Rg; rw [hb j hj 3 (by omega), hb j hj 4 (by omega), hb j hj 5 (by omega)]; exact hRg _ (hq j hj)
  · rw [hb j hj 0 (by omega)]
    obtain ⟨o, ho, e⟩ := hOw _ (hq j hj)
    exact ⟨o, by omega, e⟩
  · rw [hb j hj 8 (by omega), hb j hj 9 (by omega)]; exact hTm.1 _ (hq j hj) ((lv_of (hb j hj 7 (by omega))).symm.trans hlj)
  · rw [hb j hj 1 (by omega), hb j hj 2 (by omega), hb j hj 8 (by omega), hb j hj 9 (by omega), hb k hkn 1 (by omega), hb k hkn 2 (by omega), hb k hkn 8 (by omega), hb k hkn 9 (by omega)]
    exact hNC _ _ (hq j hj) (hq k hkn) (fun e => hne (hi j k hj hkn e)) ((lv_of (hb j hj 7 (by omega))).symm.trans l1) ((lv_of (hb k hkn 7 (by omega))).symm.trans l2)
theorem NF_re {σ σ' : Nat → Int32} {n n' : Nat} (h : NF σ n) (q : Nat → Nat) (h7 : σ' 7 = σ 7) (hq : ∀ j, j < n' → q j < n) (hb : ∀ j, j < n' → ∀ f, f < 10 → bf σ' j f = bf σ (q j) f) (hs : ∀ i, i < n → lvB σ i = true → ∃ j, j < n' ∧ q j = i) : NF σ' n' := by
  intro i hi h0 t t1 t2 t3
  rw [h7] at t1
  rw [hb i hi 4 (by omega), hb i hi 5 (by omega)] at t2 t3
  rw [hb i hi 1 (by omega), hb i hi 2 (by omega), hb i hi 3 (by omega)]
  obtain ⟨j, hj, a, s, c, d⟩ := h _ (hq i hi) ((hb i hi 7 (by omega)).symm.trans h0) t t1 t2 t3
  obtain ⟨k, hk, rfl⟩ := hs j hj a
  refine ⟨k, hk, (lv_of (hb k hk 7 (by omega))).trans a, ?_, ?_, ?_⟩
  · unfold spB; rw [hb k hk 1 (by omega), hb k hk 2 (by omega)]; exact s
  · rw [hb k hk 8 (by omega)]; exact c
  · rw [hb k hk 9 (by omega)]; exact d
theorem Sg_u {σ : Nat → Int32} {k : Nat} {x : Int32} (h : Sg σ) (hk : k < 4) (h1 : ¬ x < f4 0 0 1 1 k) (h2 : ¬ f4 50 99 9 9 k < x) : Sg (upd σ k x) := by
  rw [ti_lt] at h1 h2
  obtain ⟨a, b, c, d⟩ := h
  match k, hk with
  | 0, _ =>
    have e1 : (f4 0 0 1 1 0).toInt = 0 := rfl
    have e2 : (f4 50 99 9 9 0).toInt = 50 := rfl
    unfold Sg; rw [pk_us, pk_un (by decide), pk_un (by decide), pk_un (by decide)]; exact ⟨by omega, b, c, d⟩
  | 1, _ =>
    have e1 : (f4 0 0 1 1 1).toInt = 0 := rfl
    have e2 : (f4 50 99 9 9 1).toInt = 99 := rfl
    unfold Sg; rw [pk_us, pk_un (by decide), pk_un (by decide), pk_un (by decide)]; exact ⟨a, by omega, c, d⟩
  | 2, _ =>
    have e1 : (f4 0 0 1 1 2).toInt = 1 := rfl
    have e2 : (f4 50 99 9 9 2).toInt = 9 := rfl
    unfold Sg; rw [pk_us, pk_un (by decide), pk_un (by decide), pk_un (by decide)]; exact ⟨a, b, by omega, d⟩
  | 3, _ =>
    have e1 : (f4 0 0 1 1 3).toInt = 1 := rfl
    have e2 : (f4 50 99 9 9 3).toInt = 9 := rfl
    unfold Sg; rw [pk_us, pk_un (by decide), pk_un (by decide), pk_un (by decide)]; exact ⟨a, b, c, by omega⟩
theorem le_of_nlt {a : Int32} {N : Nat} (hN : N < 2147483648) (h1 : ¬ a < 0) (h2 : ¬ nI N < a) : ∃ k : Nat, k ≤ N ∧ a = nI k := by
  obtain ⟨k, hk, rfl⟩ := nI_of h1
  refine ⟨k, ?_, rfl⟩
  rcases Nat.lt_or_ge N k with q | q
  · exact absurd (nI_lt q hk) h2
  · exact q
end CA
