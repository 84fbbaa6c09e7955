/-! floating-point results that are no NaN -/
abbrev fm64 : Jvm.FP.Core.Fmt := Jvm.FP.Core.b64
/-- a number or an infinity of the format -/
def ok64 : Jvm.FP.Core.Datum → Prop
  | .nan => False
  | .inf _ => True
  | .fin _ c q => c < 2 ^ 53 ∧ (-1074) ≤ q ∧ q ≤ 971
theorem fp64_tails : Jvm.FP.Core.Fmt.tails fm64 = 2 ^ 52 := rfl
theorem fp64_exps : Jvm.FP.Core.Fmt.exps fm64 = 2048 := rfl
theorem fp64_qmin : Jvm.FP.Core.Fmt.qmin fm64 = (-1074) := rfl
theorem fp64_qmax : Jvm.FP.Core.Fmt.qmax fm64 = 971 := rfl
theorem fp64_p : Jvm.FP.Core.Fmt.p fm64 = 53 := rfl
theorem fp64_asm (s : Bool) (e t : Nat) : Jvm.FP.Core.assemble fm64 s e t = (s.toNat * 2048 + e) * 2 ^ 52 + t := rfl
theorem fp64_n {n : Nat} (h : n % 2 ^ 63 ≤ 2047 * 2 ^ 52) : vf_n64 (UInt64.ofNat n) := by
  unfold vf_n64
  rw [UInt64.le_iff_toNat_le, UInt64.toNat_and]
  rw [show UInt64.toNat (0x7fffffffffffffff : UInt64) = 2 ^ 63 - 1 from rfl, Nat.and_two_pow_sub_one_eq_mod, UInt64.toNat_ofNat']
  rw [show UInt64.toNat (0x7ff0000000000000 : UInt64) = 2047 * 2 ^ 52 from rfl]
  omega
theorem fp64_enc {d : Jvm.FP.Core.Datum} (h : ok64 d) : vf_n64 (UInt64.ofNat (Jvm.FP.Core.encode fm64 d)) := by
  refine fp64_n ?_
  cases d with
  | nan => exact absurd h id
  | inf s =>
    show Jvm.FP.Core.assemble fm64 s (Jvm.FP.Core.Fmt.exps fm64 - 1) 0 % 2 ^ 63 ≤ 2047 * 2 ^ 52
    rw [fp64_asm, fp64_exps]
    cases s <;> decide
  | fin s c q =>
    obtain ⟨h1, h2, h3⟩ := h
    show (if c < Jvm.FP.Core.Fmt.tails fm64 then Jvm.FP.Core.assemble fm64 s 0 c else Jvm.FP.Core.assemble fm64 s ((q - Jvm.FP.Core.Fmt.qmin fm64).toNat + 1) (c - Jvm.FP.Core.Fmt.tails fm64)) % 2 ^ 63 ≤ 2047 * 2 ^ 52
    rw [fp64_tails, fp64_qmin]
    by_cases hc : c < 2 ^ 52
    · rw [if_pos hc, fp64_asm]
      cases s
      · rw [show Bool.toNat false = 0 from rfl]; omega
      · rw [show Bool.toNat true = 1 from rfl]; omega
    · rw [if_neg hc, fp64_asm]
      generalize he : (q - (-1074)).toNat + 1 = e
      have he2 : e ≤ 2047 - 1 := by omega
      cases s
      · rw [show Bool.toNat false = 0 from rfl]; omega
      · rw [show Bool.toNat true = 1 from rfl]; omega
theorem fp64_bound {s : Bool} {c : Nat} {q : Int} (hc : c < 2 ^ 53) (hq : (-1074) ≤ q) : ok64 (Jvm.FP.Core.bound fm64 s c q) := by
  unfold Jvm.FP.Core.bound
  rw [fp64_qmax]
  by_cases h : q ≤ 971
  · rw [if_pos h]; exact ⟨hc, hq, h⟩
  · rw [if_neg h]; exact trivial
theorem fp64_settle {s : Bool} {c : Nat} {q : Int} (hq : (-1074) ≤ q) : ok64 (Jvm.FP.Core.settle fm64 s c q) := by
  unfold Jvm.FP.Core.settle
  rw [fp64_p, fp64_tails]
  by_cases h : c < 2 ^ 53
  · rw [if_pos h]; exact fp64_bound h hq
  · rw [if_neg h]; exact fp64_bound (by decide) (by omega)
theorem fp64_ratio (s : Bool) (num den : Nat) (e : Int) : ok64 (Jvm.FP.Core.roundRatio fm64 s num den e) := by
  unfold Jvm.FP.Core.roundRatio
  by_cases h : num = 0
  · rw [if_pos h, fp64_qmin]; exact ⟨by decide, by omega, by omega⟩
  · rw [if_neg h]
    unfold Jvm.FP.Core.roundAt
    refine fp64_settle ?_
    unfold Jvm.FP.Core.quantum
    rw [fp64_qmin]
    exact Int.le_max_left _ _
theorem fp64_quot {s t : Bool} {c d : Nat} {q r : Int} (h : d ≠ 0) : ok64 (Jvm.FP.Core.quotient fm64 (.fin s c q) (.fin t d r)) := by
  show ok64 (if d = 0 then (if c = 0 then .nan else .inf (s != t)) else Jvm.FP.Core.roundRatio fm64 (s != t) c d (q - r))
  rw [if_neg h]
  exact fp64_ratio _ _ _ _
theorem fp64_fields {s : Bool} {e t : Nat} (he : e < 2048) (ht : t < 2 ^ 52) : Jvm.FP.Core.fieldE fm64 (UInt64.ofNat (Jvm.FP.Core.assemble fm64 s e t)).toNat = e ∧ Jvm.FP.Core.fieldT fm64 (UInt64.ofNat (Jvm.FP.Core.assemble fm64 s e t)).toNat = t := by
  rw [fp64_asm, UInt64.toNat_ofNat']
  have h1 : ((s.toNat * 2048 + e) * 2 ^ 52 + t) % 2 ^ 64 = (s.toNat * 2048 + e) * 2 ^ 52 + t := by
    cases s
    · rw [show Bool.toNat false = 0 from rfl]; omega
    · rw [show Bool.toNat true = 1 from rfl]; omega
  rw [h1]
  unfold Jvm.FP.Core.fieldE Jvm.FP.Core.fieldT
  rw [fp64_tails, fp64_exps]
  have h2 : ((s.toNat * 2048 + e) * 2 ^ 52 + t) / 2 ^ 52 = s.toNat * 2048 + e := by omega
  rw [h2]
  refine ⟨?_, by omega⟩
  rw [Nat.add_comm, Nat.add_mul_mod_self_right, Nat.mod_eq_of_lt he]
/-- an int as a number of the format -/
theorem fp64_int {i : Int} (hi : i.natAbs < 2 ^ 32) : ∃ s c q, Jvm.FP.Core.decode fm64 (UInt64.ofNat (Jvm.FP.Core.fromInt fm64 i)).toNat = .fin s c q ∧ (i ≠ 0 → c ≠ 0) := by
  have hr : ∃ s e t, e ≤ 2047 - 1 ∧ t < 2 ^ 52 ∧ Jvm.FP.Core.fromInt fm64 i = Jvm.FP.Core.assemble fm64 s e t ∧ (i ≠ 0 → e ≠ 0) := by
    show ∃ s e t, e ≤ 2047 - 1 ∧ t < 2 ^ 52 ∧ Jvm.FP.Core.encode fm64 (Jvm.FP.Core.roundRatio fm64 (decide (i < 0)) i.natAbs 1 0) = Jvm.FP.Core.assemble fm64 s e t ∧ (i ≠ 0 → e ≠ 0)
    generalize decide (i < 0) = s
    by_cases h0 : i.natAbs = 0
    · refine ⟨s, 0, 0, by omega, by decide, ?_, fun q => absurd (Int.natAbs_eq_zero.mp h0) q⟩
      unfold Jvm.FP.Core.roundRatio
      rw [if_pos h0]
      rfl
    · generalize i.natAbs = k at *
      have l1 : 2 ^ k.log2 ≤ k := Nat.log2_self_le h0
      have l2 : k < 2 ^ (k.log2 + 1) := Nat.lt_log2_self
      have l3 : k.log2 < 32 := (Nat.log2_lt h0).mpr hi
      have hl : Jvm.FP.Core.leading k 1 = (k.log2 : Int) := by
        unfold Jvm.FP.Core.leading
        rw [show (1 : Nat).log2 = 0 from by decide]
        show (if 1 * 2 ^ ((k.log2 : Int) - ((0 : Nat) : Int)).toNat ≤ k * 2 ^ (-((k.log2 : Int) - ((0 : Nat) : Int))).toNat then (k.log2 : Int) - ((0 : Nat) : Int) else (k.log2 : Int) - ((0 : Nat) : Int) - 1) = _
        rw [show ((k.log2 : Int) - ((0 : Nat) : Int)).toNat = k.log2 by omega, show (-((k.log2 : Int) - ((0 : Nat) : Int))).toNat = 0 by omega, Nat.one_mul, Nat.pow_zero, Nat.mul_one, if_pos l1]
        omega
      have hq : Jvm.FP.Core.quantum fm64 k 1 0 = (k.log2 : Int) - 52 := by
        unfold Jvm.FP.Core.quantum
        rw [hl, fp64_qmin, fp64_p]
        omega
      have hu : Jvm.FP.Core.unitsNum k 0 ((k.log2 : Int) - 52) = k * 2 ^ (52 - k.log2) := by
        unfold Jvm.FP.Core.unitsNum
        rw [show (0 - ((k.log2 : Int) - 52)).toNat = 52 - k.log2 by omega]
      have hd : Jvm.FP.Core.unitsDen 1 0 ((k.log2 : Int) - 52) = 1 := by
        unfold Jvm.FP.Core.unitsDen
        rw [show ((k.log2 : Int) - 52 - 0).toNat = 0 by omega]
      have hp : 2 ^ k.log2 * 2 ^ (52 - k.log2) = 2 ^ 52 := by
        rw [← Nat.pow_add]
        congr 1
        omega
      have g1 : 2 ^ 52 ≤ k * 2 ^ (52 - k.log2) := by
        rw [← hp]
        exact Nat.mul_le_mul_right _ l1
      have g2 : k * 2 ^ (52 - k.log2) < 2 ^ 53 := by
        have : k * 2 ^ (52 - k.log2) < 2 ^ (k.log2 + 1) * 2 ^ (52 - k.log2) := Nat.mul_lt_mul_of_pos_right l2 (Nat.two_pow_pos _)
        rw [Nat.pow_succ, Nat.mul_assoc, Nat.mul_comm 2, ← Nat.mul_assoc, hp] at this
        omega
      generalize k * 2 ^ (52 - k.log2) = c at *
      refine ⟨s, k.log2 + 1023, c - 2 ^ 52, by omega, by omega, ?_, fun _ => by omega⟩
      unfold Jvm.FP.Core.roundRatio Jvm.FP.Core.roundAt
      rw [if_neg h0, hq, hu, hd]
      have hn : Jvm.FP.Core.nearest c 1 = c := by
        unfold Jvm.FP.Core.nearest
        rw [if_pos (by omega), Nat.div_one]
      rw [hn]
      unfold Jvm.FP.Core.settle
      rw [fp64_p, if_pos g2]
      unfold Jvm.FP.Core.bound
      rw [fp64_qmax, if_pos (by omega)]
      show (if c < Jvm.FP.Core.Fmt.tails fm64 then Jvm.FP.Core.assemble fm64 s 0 c else Jvm.FP.Core.assemble fm64 s (((k.log2 : Int) - 52 - Jvm.FP.Core.Fmt.qmin fm64).toNat + 1) (c - Jvm.FP.Core.Fmt.tails fm64)) = _
      rw [fp64_tails, fp64_qmin, if_neg (by omega), show ((k.log2 : Int) - 52 - (-1074)).toNat + 1 = k.log2 + 1023 by omega]
  obtain ⟨s, e, t, he, ht, hf, hz⟩ := hr
  have hF := fp64_fields (s := s) (e := e) (t := t) (by omega) ht
  rw [hf]
  generalize (UInt64.ofNat (Jvm.FP.Core.assemble fm64 s e t)).toNat = N at *
  unfold Jvm.FP.Core.decode
  rw [hF.1, hF.2, fp64_exps, if_neg (by omega)]
  by_cases h0 : e = 0
  · rw [if_pos h0]
    exact ⟨_, _, _, rfl, fun q => absurd h0 (hz q)⟩
  · rw [if_neg h0, fp64_tails]
    exact ⟨_, _, _, rfl, fun _ => by omega⟩

abbrev fm32 : Jvm.FP.Core.Fmt := Jvm.FP.Core.b32
/-- a number or an infinity of the format -/
def ok32 : Jvm.FP.Core.Datum → Prop
  | .nan => False
  | .inf _ => True
  | .fin _ c q => c < 2 ^ 24 ∧ (-149) ≤ q ∧ q ≤ 104
theorem fp32_tails : Jvm.FP.Core.Fmt.tails fm32 = 2 ^ 23 := rfl
theorem fp32_exps : Jvm.FP.Core.Fmt.exps fm32 = 256 := rfl
theorem fp32_qmin : Jvm.FP.Core.Fmt.qmin fm32 = (-149) := rfl
theorem fp32_qmax : Jvm.FP.Core.Fmt.qmax fm32 = 104 := rfl
theorem fp32_p : Jvm.FP.Core.Fmt.p fm32 = 24 := rfl
theorem fp32_asm (s : Bool) (e t : Nat) : Jvm.FP.Core.assemble fm32 s e t = (s.toNat * 256 + e) * 2 ^ 23 + t := rfl
theorem fp32_n {n : Nat} (h : n % 2 ^ 31 ≤ 255 * 2 ^ 23) : vf_n32 (UInt32.ofNat n) := by
  unfold vf_n32
  rw [UInt32.le_iff_toNat_le, UInt32.toNat_and]
  rw [show UInt32.toNat (0x7fffffff : UInt32) = 2 ^ 31 - 1 from rfl, Nat.and_two_pow_sub_one_eq_mod, UInt32.toNat_ofNat']
  rw [show UInt32.toNat (0x7f800000 : UInt32) = 255 * 2 ^ 23 from rfl]
  omega
theorem fp32_enc {d : Jvm.FP.Core.Datum} (h : ok32 d) : vf_n32 (UInt32.ofNat (Jvm.FP.Core.encode fm32 d)) := by
  refine fp32_n ?_
  cases d with
  | nan => exact absurd h id
  | inf s =>
    show Jvm.FP.Core.assemble fm32 s (Jvm.FP.Core.Fmt.exps fm32 - 1) 0 % 2 ^ 31 ≤ 255 * 2 ^ 23
    rw [fp32_asm, fp32_exps]
    cases s <;> decide
  | fin s c q =>
    obtain ⟨h1, h2, h3⟩ := h
    show (if c < Jvm.FP.Core.Fmt.tails fm32 then Jvm.FP.Core.assemble fm32 s 0 c else Jvm.FP.Core.assemble fm32 s ((q - Jvm.FP.Core.Fmt.qmin fm32).toNat + 1) (c - Jvm.FP.Core.Fmt.tails fm32)) % 2 ^ 31 ≤ 255 * 2 ^ 23
    rw [fp32_tails, fp32_qmin]
    by_cases hc : c < 2 ^ 23
    · rw [if_pos hc, fp32_asm]
      cases s
      · rw [show Bool.toNat false = 0 from rfl]; omega
      · rw [show Bool.toNat true = 1 from rfl]; omega
    · rw [if_neg hc, fp32_asm]
      generalize he : (q - (-149)).toNat + 1 = e
      have he2 : e ≤ 255 - 1 := by omega
      cases s
      · rw [show Bool.toNat false = 0 from rfl]; omega
      · rw [show Bool.toNat true = 1 from rfl]; omega
theorem fp32_bound {s : Bool} {c : Nat} {q : Int} (hc : c < 2 ^ 24) (hq : (-149) ≤ q) : ok32 (Jvm.FP.Core.bound fm32 s c q) := by
  unfold Jvm.FP.Core.bound
  rw [fp32_qmax]
  by_cases h : q ≤ 104
  · rw [if_pos h]; exact ⟨hc, hq, h⟩
  · rw [if_neg h]; exact trivial
theorem fp32_settle {s : Bool} {c : Nat} {q : Int} (hq : (-149) ≤ q) : ok32 (Jvm.FP.Core.settle fm32 s c q) := by
  unfold Jvm.FP.Core.settle
  rw [fp32_p, fp32_tails]
  by_cases h : c < 2 ^ 24
  · rw [if_pos h]; exact fp32_bound h hq
  · rw [if_neg h]; exact fp32_bound (by decide) (by omega)
theorem fp32_ratio (s : Bool) (num den : Nat) (e : Int) : ok32 (Jvm.FP.Core.roundRatio fm32 s num den e) := by
  unfold Jvm.FP.Core.roundRatio
  by_cases h : num = 0
  · rw [if_pos h, fp32_qmin]; exact ⟨by decide, by omega, by omega⟩
  · rw [if_neg h]
    unfold Jvm.FP.Core.roundAt
    refine fp32_settle ?_
    unfold Jvm.FP.Core.quantum
    rw [fp32_qmin]
    exact Int.le_max_left _ _
theorem fp32_quot {s t : Bool} {c d : Nat} {q r : Int} (h : d ≠ 0) : ok32 (Jvm.FP.Core.quotient fm32 (.fin s c q) (.fin t d r)) := by
  show ok32 (if d = 0 then (if c = 0 then .nan else .inf (s != t)) else Jvm.FP.Core.roundRatio fm32 (s != t) c d (q - r))
  rw [if_neg h]
  exact fp32_ratio _ _ _ _
theorem fp32_fields {s : Bool} {e t : Nat} (he : e < 256) (ht : t < 2 ^ 23) : Jvm.FP.Core.fieldE fm32 (UInt32.ofNat (Jvm.FP.Core.assemble fm32 s e t)).toNat = e ∧ Jvm.FP.Core.fieldT fm32 (UInt32.ofNat (Jvm.FP.Core.assemble fm32 s e t)).toNat = t := by
  rw [fp32_asm, UInt32.toNat_ofNat']
  have h1 : ((s.toNat * 256 + e) * 2 ^ 23 + t) % 2 ^ 32 = (s.toNat * 256 + e) * 2 ^ 23 + t := by
    cases s
    · rw [show Bool.toNat false = 0 from rfl]; omega
    · rw [show Bool.toNat true = 1 from rfl]; omega
  rw [h1]
  unfold Jvm.FP.Core.fieldE Jvm.FP.Core.fieldT
  rw [fp32_tails, fp32_exps]
  have h2 : ((s.toNat * 256 + e) * 2 ^ 23 + t) / 2 ^ 23 = s.toNat * 256 + e := by omega
  rw [h2]
  refine ⟨?_, by omega⟩
  rw [Nat.add_comm, Nat.add_mul_mod_self_right, Nat.mod_eq_of_lt he]
/-- an int as a number of the format -/
theorem fp32_int {i : Int} (hi : i.natAbs < 2 ^ 24) : ∃ s c q, Jvm.FP.Core.decode fm32 (UInt32.ofNat (Jvm.FP.Core.fromInt fm32 i)).toNat = .fin s c q ∧ (i ≠ 0 → c ≠ 0) := by
  have hr : ∃ s e t, e ≤ 255 - 1 ∧ t < 2 ^ 23 ∧ Jvm.FP.Core.fromInt fm32 i = Jvm.FP.Core.assemble fm32 s e t ∧ (i ≠ 0 → e ≠ 0) := by
    show ∃ s e t, e ≤ 255 - 1 ∧ t < 2 ^ 23 ∧ Jvm.FP.Core.encode fm32 (Jvm.FP.Core.roundRatio fm32 (decide (i < 0)) i.natAbs 1 0) = Jvm.FP.Core.assemble fm32 s e t ∧ (i ≠ 0 → e ≠ 0)
    generalize decide (i < 0) = s
    by_cases h0 : i.natAbs = 0
    · refine ⟨s, 0, 0, by omega, by decide, ?_, fun q => absurd (Int.natAbs_eq_zero.mp h0) q⟩
      unfold Jvm.FP.Core.roundRatio
      rw [if_pos h0]
      rfl
    · generalize i.natAbs = k at *
      have l1 : 2 ^ k.log2 ≤ k := Nat.log2_self_le h0
      have l2 : k < 2 ^ (k.log2 + 1) := Nat.lt_log2_self
      have l3 : k.log2 < 24 := (Nat.log2_lt h0).mpr hi
      have hl : Jvm.FP.Core.leading k 1 = (k.log2 : Int) := by
        unfold Jvm.FP.Core.leading
        rw [show (1 : Nat).log2 = 0 from by decide]
        show (if 1 * 2 ^ ((k.log2 : Int) - ((0 : Nat) : Int)).toNat ≤ k * 2 ^ (-((k.log2 : Int) - ((0 : Nat) : Int))).toNat then (k.log2 : Int) - ((0 : Nat) : Int) else (k.log2 : Int) - ((0 : Nat) : Int) - 1) = _
        rw [show ((k.log2 : Int) - ((0 : Nat) : Int)).toNat = k.log2 by omega, show (-((k.log2 : Int) - ((0 : Nat) : Int))).toNat = 0 by omega, Nat.one_mul, Nat.pow_zero, Nat.mul_one, if_pos l1]
        omega
      have hq : Jvm.FP.Core.quantum fm32 k 1 0 = (k.log2 : Int) - 23 := by
        unfold Jvm.FP.Core.quantum
        rw [hl, fp32_qmin, fp32_p]
        omega
      have hu : Jvm.FP.Core.unitsNum k 0 ((k.log2 : Int) - 23) = k * 2 ^ (23 - k.log2) := by
        unfold Jvm.FP.Core.unitsNum
        rw [show (0 - ((k.log2 : Int) - 23)).toNat = 23 - k.log2 by omega]
      have hd : Jvm.FP.Core.unitsDen 1 0 ((k.log2 : Int) - 23) = 1 := by
        unfold Jvm.FP.Core.unitsDen
        rw [show ((k.log2 : Int) - 23 - 0).toNat = 0 by omega]
      have hp : 2 ^ k.log2 * 2 ^ (23 - k.log2) = 2 ^ 23 := by
        rw [← Nat.pow_add]
        congr 1
        omega
      have g1 : 2 ^ 23 ≤ k * 2 ^ (23 - k.log2) := by
        rw [← hp]
        exact Nat.mul_le_mul_right _ l1
      have g2 : k * 2 ^ (23 - k.log2) < 2 ^ 24 := by
        have : k * 2 ^ (23 - k.log2) < 2 ^ (k.log2 + 1) * 2 ^ (23 - k.log2) := Nat.mul_lt_mul_of_pos_right l2 (Nat.two_pow_pos _)
        rw [Nat.pow_succ, Nat.mul_assoc, Nat.mul_comm 2, ← Nat.mul_assoc, hp] at this
        omega
      generalize k * 2 ^ (23 - k.log2) = c at *
      refine ⟨s, k.log2 + 127, c - 2 ^ 23, by omega, by omega, ?_, fun _ => by omega⟩
      unfold Jvm.FP.Core.roundRatio Jvm.FP.Core.roundAt
      rw [if_neg h0, hq, hu, hd]
      have hn : Jvm.FP.Core.nearest c 1 = c := by
        unfold Jvm.FP.Core.nearest
        rw [if_pos (by omega), Nat.div_one]
      rw [hn]
      unfold Jvm.FP.Core.settle
      rw [fp32_p, if_pos g2]
      unfold Jvm.FP.Core.bound
      rw [fp32_qmax, if_pos (by omega)]
      show (if c < Jvm.FP.Core.Fmt.tails fm32 then Jvm.FP.Core.assemble fm32 s 0 c else Jvm.FP.Core.assemble fm32 s (((k.log2 : Int) - 23 - Jvm.FP.Core.Fmt.qmin fm32).toNat + 1) (c - Jvm.FP.Core.Fmt.tails fm32)) = _
      rw [fp32_tails, fp32_qmin, if_neg (by omega), show ((k.log2 : Int) - 23 - (-149)).toNat + 1 = k.log2 + 127 by omega]
  obtain ⟨s, e, t, he, ht, hf, hz⟩ := hr
  have hF := fp32_fields (s := s) (e := e) (t := t) (by omega) ht
  rw [hf]
  generalize (UInt32.ofNat (Jvm.FP.Core.assemble fm32 s e t)).toNat = N at *
  unfold Jvm.FP.Core.decode
  rw [hF.1, hF.2, fp32_exps, if_neg (by omega)]
  by_cases h0 : e = 0
  · rw [if_pos h0]
    exact ⟨_, _, _, rfl, fun q => absurd h0 (hz q)⟩
  · rw [if_neg h0, fp32_tails]
    exact ⟨_, _, _, rfl, fun _ => by omega⟩

theorem fp_i2d (x : Int32) : ∃ s c q, Jvm.FP.Core.decode fm64 (FP.i2d x).toNat = .fin s c q ∧ (x ≠ 0 → c ≠ 0) := by
  have h1 := ti_hi x
  have h2 := ti_lo x
  obtain ⟨s, c, q, a, b⟩ := fp64_int (i := x.toInt) (by omega)
  exact ⟨s, c, q, a, fun hx => b (fun z => hx (ti_eq.mpr z))⟩
theorem fp_i2f {x : Int32} (h : 0 ≤ x.toInt ∧ x.toInt ≤ 1000000) : ∃ s c q, Jvm.FP.Core.decode fm32 (FP.i2f x).toNat = .fin s c q ∧ (x ≠ 0 → c ≠ 0) := by
  obtain ⟨s, c, q, a, b⟩ := fp32_int (i := x.toInt) (by omega)
  exact ⟨s, c, q, a, fun hx => b (fun z => hx (ti_eq.mpr z))⟩
theorem fp_ddiv (x : Int32) {y : Int32} (hy : y ≠ 0) : vf_n64 (FP.ddiv (FP.i2d x) (FP.i2d y)) := by
  obtain ⟨s, c, q, a, _⟩ := fp_i2d x
  obtain ⟨t, d, r, e, z⟩ := fp_i2d y
  show vf_n64 (UInt64.ofNat (Jvm.FP.Core.encode fm64 (Jvm.FP.Core.quotient fm64 (Jvm.FP.Core.decode fm64 (FP.i2d x).toNat) (Jvm.FP.Core.decode fm64 (FP.i2d y).toNat))))
  rw [a, e]
  exact fp64_enc (fp64_quot (z hy))
theorem fp_fdiv {x y : Int32} (hx : 0 ≤ x.toInt ∧ x.toInt ≤ 1000000) (hy : y ≠ 0) (hy2 : 0 ≤ y.toInt ∧ y.toInt ≤ 1000000) : vf_n32 (FP.fdiv (FP.i2f x) (FP.i2f y)) := by
  obtain ⟨s, c, q, a, _⟩ := fp_i2f hx
  obtain ⟨t, d, r, e, z⟩ := fp_i2f hy2
  show vf_n32 (UInt32.ofNat (Jvm.FP.Core.encode fm32 (Jvm.FP.Core.quotient fm32 (Jvm.FP.Core.decode fm32 (FP.i2f x).toNat) (Jvm.FP.Core.decode fm32 (FP.i2f y).toNat))))
  rw [a, e]
  exact fp32_enc (fp32_quot (z hy))
