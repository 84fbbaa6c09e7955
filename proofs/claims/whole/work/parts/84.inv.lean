/-! WHAT STANDS BETWEEN TWO CALLS -/
def kc (c : Nat) : Prop := c < 4 ∨ (10 < c ∧ c < 17) ∨ c = 18 ∨ 129 ≤ c
def kf (j : Nat) : Prop := j = 8 ∨ j = 9 ∨ j = 10 ∨ j = 13 ∨ j = 19 ∨ j = 20 ∨ j = 33
/-- what most calls leave -/
def Kp (v w : V3) : Prop := (∀ c, kc c → w c = v c) ∧ ∀ j, kf j → w 7 j = v 7 j
theorem Kp_r (v : V3) : Kp v v := ⟨fun _ _ => rfl, fun _ _ => rfl⟩
theorem Kp_t {v w x : V3} (h : Kp v w) (h' : Kp w x) : Kp v x := ⟨fun c k => (h'.1 c k).trans (h.1 c k), fun j k => (h'.2 j k).trans (h.2 j k)⟩
/-- but for the law's own cells -/
def Eq9 (v w : V3) : Prop := ∀ c, c ≠ 19 → c ≠ 20 → w c = v c
theorem Kp_9 {v w : V3} (h : Eq9 v w) : Kp v w := ⟨fun c k => h c (by unfold kc at k; omega) (by unfold kc at k; omega), fun j _ => by rw [h 7 (by decide) (by decide)]⟩
/-- the class changes its ledgers, its reader and what the broker found -/
def Fc (v w : V3) : Prop := ∀ c, (c < 21 ∧ c ≠ 5 ∧ c ≠ 6) ∨ 129 ≤ c → w c = v c
theorem Fc_r (v : V3) : Fc v v := fun _ _ => rfl
theorem Fc_t {v w x : V3} (h : Fc v w) (h' : Fc w x) : Fc v x := fun c k => (h' c k).trans (h c k)
theorem Fc_L {v w : V3} (h : Fr 21 v w) : Fc v w := fun c k => h c (by omega)
theorem Fc_L2 {v w : V3} (h : Fr 75 v w) : Fc v w := fun c k => h c (by omega)
theorem Fc_5 {v w : V3} (h : ∀ c, c ≠ 5 → w c = v c) : Fc v w := fun c k => h c (by omega)
theorem Fc_1 {v w : V3} {b : Nat} (h : ∀ c, c ≠ b → w c = v c) (h1 : 21 ≤ b) (h2 : b < 129) : Fc v w := fun c k => h c (by omega)
theorem Kp_c {v w : V3} (h : Fc v w) : Kp v w := ⟨fun c k => h c (by unfold kc at k; omega), fun j _ => by rw [h 7 (by omega)]⟩
/-- the reference changes its state, its counts and what it lays -/
def Md (v w : V3) : Prop := (∀ c, c ≠ 7 → c ≠ 8 → c ≠ 10 → c ≠ 17 → w c = v c) ∧ ∀ j, (kf j ∨ j = 11) → w 7 j = v 7 j
theorem Md_r (v : V3) : Md v v := ⟨fun _ _ _ _ _ => rfl, fun _ _ => rfl⟩
theorem Md_g {v w w' : V3} (h : Md v w) (h1 : ∀ c, c ≠ 7 → c ≠ 8 → c ≠ 10 → c ≠ 17 → w' c = w c) (h2 : ∀ j, (kf j ∨ j = 11) → w' 7 j = w 7 j) : Md v w' := ⟨fun c a b d e => (h1 c a b d e).trans (h.1 c a b d e), fun j k => (h2 j k).trans (h.2 j k)⟩
theorem Md_8 {v w w' : V3} (h : Md v w) (h8 : ∀ c, c ≠ 8 → w' c = w c) : Md v w' := Md_g h (fun c _ b _ _ => h8 c b) (fun j _ => by rw [h8 7 (by decide)])
theorem Md_F {v w w' : V3} (h : Md v w) (hF : FMt w w') : Md v w' := Md_g h (fun c a b _ d => hF.1 c a b d) (fun j k => hF.2 j (by unfold kf at k; omega))
theorem Kp_m {v w : V3} {x : Int32} (h : Md (up2 v 7 11 x) w) : Kp v w := ⟨fun c k => (h.1 c (by unfold kc at k; omega) (by unfold kc at k; omega) (by unfold kc at k; omega) (by unfold kc at k; omega)).trans (up2_off _ _ _ (by unfold kc at k; omega)), fun j k => (h.2 j (.inl k)).trans (by rw [up2_row, pk_un (by unfold kf at k; omega)])⟩
theorem Kp_11 (w : V3) (x : Int32) : Kp w (up2 w 7 11 x) := ⟨fun c k => up2_off _ _ _ (by unfold kc at k; omega), fun j k => by rw [up2_row, pk_un (by unfold kf at k; omega)]⟩
/-- the text -/
def TX (v : V3) (T : Nat) : Prop := (v 0 1 = nI T ∧ v 7 13 = nI T ∧ T ≤ 800) ∧ ∀ k, k < T → v 1 k = (v 16 k).toInt8.toInt32 ∧ 0 ≤ (v 16 k).toInt ∧ (v 16 k).toInt ≤ 255
/-- the draft -/
def DE (v : V3) : Prop := v 7 8 = v 0 9 ∧ v 7 9 = v 0 10 ∧ v 7 10 = v 0 11
def DR (v : V3) (S : Nat) : Prop := DE v ∧ (0 ≤ (v 0 9).toInt ∧ 1 ≤ (v 0 10).toInt ∧ (v 0 9).toInt + (v 0 10).toInt ≤ S) ∧ 1 ≤ (v 0 11).toInt ∧ (v 0 11).toInt ≤ 99
/-- the line -/
def LN (v : V3) : Prop := ∃ K, K ≤ 64 ∧ v 0 13 = nI K ∧ v 7 33 = nI K ∧ ∀ k, k < K → v 2 k = v 18 k
/-- a state as it stands between two calls -/
def OK (σ : Nat → Int32) (n m S : Nat) (B : Int) : Prop := Wf σ n m S B ∧ NF σ n ∧ (σ 7).toInt ≤ 20000
theorem OK_B {σ : Nat → Int32} {n m S : Nat} {B B' : Int} (h : OK σ n m S B) (hB : B ≤ B' ∧ B' ≤ 1000000) : OK σ n m S B' := ⟨Wf_B h.1 hB, h.2⟩
/-- the saved states -/
abbrev sv (v : V3) (s : Nat) : Nat → Int32 := fun k => v 11 (474 * s + k)
def SV1 (v : V3) (B : Int) (s : Nat) : Prop := (v 3 s = 0 ∧ v 12 s = 0) ∨ (v 12 s = 1 ∧ ∃ q : Nat, (q = 2 ∨ q = 3) ∧ v 3 s = nI q ∧ ∃ n m S, LA v (21 + 54 * q) (sv v s) n m ∧ OK (sv v s) n m S B)
def SVg (v : V3) (g : Nat) : Prop := (v 3 0 = 0 ∧ v 3 1 = 0 ∧ g = 129) ∨ (((v 3 0 = nI 2 ∧ v 3 1 = 0) ∨ (v 3 0 = 0 ∧ v 3 1 = nI 2)) ∧ g = 183) ∨ (((v 3 0 = nI 2 ∧ v 3 1 = nI 3) ∨ (v 3 0 = nI 3 ∧ v 3 1 = nI 2)) ∧ g = 237)
def MK (v : V3) : Prop := ∀ j, j < 4 → v 13 j = f4 5 10 4 3 j ∧ v 14 j = f4 0 0 1 1 j ∧ v 15 j = f4 50 99 9 9 j
/-- all but the state and the draft -/
def RS (v : V3) (g : Nat) (B : Int) : Prop := (∃ T, TX v T) ∧ (v 7 19 = v 0 2 ∧ v 7 20 = v 0 3) ∧ LN v ∧ (SV1 v B 0 ∧ SV1 v B 1 ∧ SVg v g) ∧ MK v ∧ (10300 ≤ B ∧ B ≤ 900000)
def IV (v : V3) (g : Nat) (B : Int) : Prop := (∃ n m S, LA v 21 (v 8) n m ∧ OK (v 8) n m S B ∧ DR v S) ∧ RS v g B
/-- and the law's own cells stay -/
def IVo (u v : V3) (g : Nat) (B : Int) : Prop := IV v g B ∧ v 19 = u 19 ∧ v 20 = u 20
theorem Md_o {u w : V3} {x : Int32} (h : Md (up2 u 7 11 x) w) : w 19 = u 19 ∧ w 20 = u 20 := ⟨(h.1 19 (by decide) (by decide) (by decide) (by decide)).trans (up2_off _ _ _ (by decide)), (h.1 20 (by decide) (by decide) (by decide) (by decide)).trans (up2_off _ _ _ (by decide))⟩
theorem SV1_B {v : V3} {B B' : Int} {s : Nat} (h : SV1 v B s) (hB : B ≤ B' ∧ B' ≤ 1000000) : SV1 v B' s := by
  rcases h with h | ⟨h1, q, hq, h2, n, m, S, hL, hO⟩
  · exact .inl h
  · exact .inr ⟨h1, q, hq, h2, n, m, S, hL, OK_B hO hB⟩
theorem RS_B {v : V3} {g : Nat} {B B' : Int} (h : RS v g B) (hB : B ≤ B' ∧ B' ≤ 900000) : RS v g B' := by
  obtain ⟨a, b, c, ⟨s0, s1, sg⟩, d, e⟩ := h
  exact ⟨a, b, c, ⟨SV1_B s0 (by omega), SV1_B s1 (by omega), sg⟩, d, by omega⟩
theorem SV1_k {v w : V3} {B : Int} (k : ∀ c, (c = 3 ∨ c = 11 ∨ c = 12 ∨ 129 ≤ c) → w c = v c) {s : Nat} (hs : SV1 v B s) : SV1 w B s := by
  have e3 := k 3 (by omega)
  have e11 := k 11 (by omega)
  have e12 := k 12 (by omega)
  rcases hs with h | ⟨h1, q, hq, h2, n, m, S, hL, hO⟩
  · left; rw [e3, e12]; exact h
  · right
    have es : sv w s = sv v s := by funext j; show w 11 _ = v 11 _; rw [e11]
    refine ⟨by rw [e12]; exact h1, q, hq, by rw [e3]; exact h2, n, m, S, ?_, ?_⟩
    · rw [es]; exact LA_c hL hO.1.n40 hO.1.m8 (fun c c1 c2 _ _ => k c (by omega))
    · rw [es]; exact hO
theorem RS_kp {v w : V3} {g : Nat} {B : Int} (h : RS v g B) (k : Kp v w) : RS w g B := by
  have e0 := k.1 0 (by unfold kc; omega)
  have e1 := k.1 1 (by unfold kc; omega)
  have e2 := k.1 2 (by unfold kc; omega)
  have e3 := k.1 3 (by unfold kc; omega)
  have e13 := k.1 13 (by unfold kc; omega)
  have e14 := k.1 14 (by unfold kc; omega)
  have e15 := k.1 15 (by unfold kc; omega)
  have e16 := k.1 16 (by unfold kc; omega)
  have e18 := k.1 18 (by unfold kc; omega)
  have f13 := k.2 13 (by unfold kf; omega)
  have f19 := k.2 19 (by unfold kf; omega)
  have f20 := k.2 20 (by unfold kf; omega)
  have f33 := k.2 33 (by unfold kf; omega)
  obtain ⟨⟨T, hT⟩, hE, ⟨K, hK⟩, ⟨s0, s1, sg⟩, hM, hB⟩ := h
  have sk : ∀ c, (c = 3 ∨ c = 11 ∨ c = 12 ∨ 129 ≤ c) → w c = v c := fun c hc => k.1 c (by unfold kc; omega)
  refine ⟨⟨T, ?_⟩, ?_, ⟨K, ?_⟩, ⟨SV1_k sk s0, SV1_k sk s1, ?_⟩, ?_, hB⟩
  · unfold TX; rw [e0, e1, e16, f13]; exact hT
  · rw [e0, f19, f20]; exact hE
  · rw [e0, f33, e2, e18]; exact hK
  · unfold SVg; rw [e3]; exact sg
  · unfold MK; rw [e13, e14, e15]; exact hM
theorem DR_kp {v w : V3} {S : Nat} (h : DR v S) (k : Kp v w) : DR w S := by
  have e0 := k.1 0 (by unfold kc; omega)
  have f8 := k.2 8 (by unfold kf; omega)
  have f9 := k.2 9 (by unfold kf; omega)
  have f10 := k.2 10 (by unfold kf; omega)
  unfold DR DE
  rw [e0, f8, f9, f10]
  exact h
theorem fin_k {v w : V3} {g n m S : Nat} {B : Int} (hR : RS v g B) (hB : B + 99 ≤ 900000) (hk : Kp v w) (hL : LA w 21 (w 8) n m) (hO : OK (w 8) n m S (B + 99)) (hD : DR v S) : IV w g (B + 99) := ⟨⟨n, m, S, hL, hO, DR_kp hD hk⟩, RS_B (RS_kp hR hk) (by omega)⟩
/-- the reference begins: no exception yet -/
theorem mst {v v1 v2 : V3} (F : Fc v v1) (e9 : Eq9 v1 v2) {P : V3 → Prop} (h : ∀ w, w 8 = v 8 → Md (up2 v2 7 11 0) w → (∀ j, j ≠ 11 → w 7 j = v 7 j) → P w) : ∀ w, w = up2 v2 7 11 0 → P w := by
  intro w e
  refine h w ?_ (by rw [e]; exact Md_r _) (fun j hj => ?_)
  · rw [e, up2_off _ _ _ (by decide), e9 8 (by decide) (by decide), F 8 (by omega)]
  · rw [e, up2_row, pk_un hj, e9 7 (by decide) (by decide), F 7 (by omega)]
theorem LA_m {v1 v2 w : V3} {σ : Nat → Int32} {n m : Nat} {x : Int32} (hL : LA v1 21 σ n m) (hn : n ≤ 40) (hm : m ≤ 8) (e9 : Eq9 v1 v2) (hM : Md (up2 v2 7 11 x) w) : LA w 21 σ n m :=
  LA_c hL hn hm (fun c c1 c2 _ _ => ((hM.1 c (by omega) (by omega) (by omega) (by omega)).trans (up2_off _ _ _ (by omega))).trans (e9 c (by omega) (by omega)))
/-- both are through -/
theorem fin2 {v v1 v2 w : V3} {g n m S : Nat} {B : Int} {σ : Nat → Int32} (hR : RS v g B) (hB : B + 99 ≤ 900000) (hD : DR v S) (F : Fc v v1) (hL : LA v1 21 σ n m) (e9 : Eq9 v1 v2) (hM : Md (up2 v2 7 11 0) w) (h8 : w 8 = σ) (hO : OK σ n m S (B + 99)) : w 7 11 = 0 ∧ IVo v2 w g (B + 99) := by
  refine ⟨(hM.2 11 (.inr rfl)).trans (by rw [up2_row, pk_us]), ?_, Md_o hM⟩
  refine fin_k hR hB (Kp_t (Kp_t (Kp_c F) (Kp_9 e9)) (Kp_m hM)) ?_ (by rw [h8]; exact hO) hD
  rw [h8]
  exact LA_m hL hO.1.n40 hO.1.m8 e9 hM
/-- both throw -/
theorem finX {v v2 w : V3} {g : Nat} {B : Int} {k : Int32} (hI : IV v g B) (hB : B + 99 ≤ 900000) (e9 : Eq9 v v2) (hM : Md (up2 v2 7 11 0) w) (h8 : w 8 = v 8) : (up2 w 7 11 k) 7 11 = k ∧ IVo v2 (up2 w 7 11 k) g (B + 99) := by
  obtain ⟨⟨n, m, S, hL, hO, hD⟩, hR⟩ := hI
  have hb := hR.2.2.2.2.2
  refine ⟨by rw [up2_row, pk_us], ?_, by rw [up2_off _ _ _ (by decide)]; exact (Md_o hM).1, by rw [up2_off _ _ _ (by decide)]; exact (Md_o hM).2⟩
  have e8 : (up2 w 7 11 k) 8 = v 8 := by rw [up2_off _ _ _ (by decide), h8]
  refine fin_k hR hB (Kp_t (Kp_t (Kp_9 e9) (Kp_m hM)) (Kp_11 w k)) ?_ (by rw [e8]; exact OK_B hO (by omega)) hD
  rw [e8]
  exact LA_c (LA_m hL hO.1.n40 hO.1.m8 e9 hM) hO.1.n40 hO.1.m8 (fun c _ _ _ _ => up2_off _ _ _ (by omega))
/-- what a call of the reference must come to, behind the same call of the class -/
def okI (g : Nat) (B : Int) (wm : V3 → (Int32 → V3 → Prop) → Prop) (r : Int32) (v' : V3) : Prop := ∀ v1, Eq9 v' v1 → wm v1 (fun b v2 => v2 7 11 = 0 ∧ b = r ∧ IVo v1 v2 g B)
def okD (g : Nat) (B : Int) (wm : V3 → (UInt64 → V3 → Prop) → Prop) (r : UInt64) (v' : V3) : Prop := ∀ v1, Eq9 v' v1 → wm v1 (fun b v2 => v2 7 11 = 0 ∧ b = r ∧ vf_n64 r ∧ IVo v1 v2 g B)
def okF (g : Nat) (B : Int) (wm : V3 → (UInt32 → V3 → Prop) → Prop) (r : UInt32) (v' : V3) : Prop := vf_n32 r ∧ ∀ v1, Eq9 v' v1 → wm v1 (fun b v2 => v2 7 11 = 0 ∧ b = r ∧ vf_n32 r ∧ IVo v1 v2 g B)
def okV (g : Nat) (B : Int) (wm : V3 → (V3 → Prop) → Prop) (v' : V3) : Prop := ∀ v1, Eq9 v' v1 → wm v1 (fun v2 => v2 7 11 = 0 ∧ IVo v1 v2 g B)
def exI {T : Type} (g : Nat) (B : Int) (wm : V3 → (T → V3 → Prop) → Prop) (cs : List (String × Int32)) (E : String) (v' : V3) : Prop := ∃ k, (E, k) ∈ cs ∧ ∀ v1, Eq9 v' v1 → wm v1 (fun _ v2 => v2 7 11 = k ∧ IVo v1 v2 g B)
def exV (g : Nat) (B : Int) (wm : V3 → (V3 → Prop) → Prop) (cs : List (String × Int32)) (E : String) (v' : V3) : Prop := ∃ k, (E, k) ∈ cs ∧ ∀ v1, Eq9 v' v1 → wm v1 (fun v2 => v2 7 11 = k ∧ IVo v1 v2 g B)
/-! the own tests of the class -/
section ND
variable {v : V3} {n m S : Nat} {σ : Nat → Int32} {a : Int32} {X : String → V3 → Prop} {Q : V3 → Prop}
theorem uN_within {lo hi : Int32} (h1 : ¬ a < lo → ¬ hi < a → Q v) (h0 : (a < lo ∨ hi < a) → X eIA v) : w_X3_needWithin a lo hi v X Q :=
  br_c (fun h => h0 (.inl h)) (fun h => br_c (fun h' => h1 h (Int32.not_lt.mpr h')) (fun h' => h0 (.inr (Int32.not_le.mp h'))))
theorem uN_owner (hL : LA v 21 σ n m) (h1 : ∀ k : Nat, k < m → a = nI k → Q v) (hm : m ≤ 8) (h0 : (a < 0 ∨ nI m ≤ a) → X eIO v) : w_X3_needOwner a v X Q := by
  refine br_c (fun h => h0 (.inl h)) (fun h => ?_)
  rw [hL.m7]
  refine br_c (fun h' => ?_) (fun h' => h0 (.inr (Int32.not_lt.mp h')))
  obtain ⟨k, hk, rfl⟩ := nI_of h
  exact h1 k ((nI_ltI hk (by omega)).mp h') rfl
theorem uN_booking (hL : LA v 21 σ n m) (h1 : ∀ k : Nat, k < n → a = nI k → Q v) (hn : n ≤ 40) (h0 : (a < 0 ∨ nI n ≤ a) → X eIO v) : w_X3_needBooking a v X Q := by
  refine br_c (fun h => h0 (.inl h)) (fun h => ?_)
  rw [hL.n8]
  refine br_c (fun h' => ?_) (fun h' => h0 (.inr (Int32.not_lt.mp h')))
  obtain ⟨k, hk, rfl⟩ := nI_of h
  exact h1 k ((nI_ltI hk (by omega)).mp h') rfl
theorem uN_byte (hL : LA v 21 σ n m) (h4 : σ 4 = nI S) (hS : S ≤ 64) (h1 : ∀ k : Nat, k < S → a = nI k → Q v) (h0 : (a < 0 ∨ nI S ≤ a) → X eIO v) : w_X3_needByte a v X Q := by
  refine br_c (fun h => h0 (.inl h)) (fun h => ?_)
  rw [hL.sz, h4]
  refine br_c (fun h' => ?_) (fun h' => h0 (.inr (Int32.not_lt.mp h')))
  obtain ⟨k, hk, rfl⟩ := nI_of h
  exact h1 k ((nI_ltI hk (by omega)).mp h') rfl
end ND
