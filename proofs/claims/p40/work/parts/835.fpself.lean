/-! ROWS FOR THE METHODS OF THE LAW: a body with handlers, a call whose throw is caught, the law's own cells -/
theorem arrV_1 {cI : ClassId} {f g : Nat → Value} (h : f 0 = g 0) : arrV cI 1 f = arrV cI 1 g := by
  unfold arrV
  have : (fun j : Fin 1 => f j.val) = fun j : Fin 1 => g j.val := by
    funext j
    rw [show j.val = 0 by omega]
    exact h
  rw [this]
/-! floating-point: what is no NaN is equal to itself -/
theorem fp_n64 {r : UInt64} (h : vf_n64 r) : Jvm.FP.Core.decode fm64 r.toNat ≠ .nan := by
  unfold vf_n64 at h
  rw [UInt64.le_iff_toNat_le, UInt64.toNat_and, show UInt64.toNat (0x7fffffffffffffff : UInt64) = 2 ^ 63 - 1 from rfl, Nat.and_two_pow_sub_one_eq_mod, show UInt64.toNat (0x7ff0000000000000 : UInt64) = 2047 * 2 ^ 52 from rfl] at h
  generalize r.toNat = n at h
  unfold Jvm.FP.Core.decode Jvm.FP.Core.fieldE Jvm.FP.Core.fieldT
  rw [fp64_tails, fp64_exps]
  by_cases h1 : n / 2 ^ 52 % 2048 = 2048 - 1
  · rw [if_pos h1, if_pos (by omega)]
    intro q
    cases q
  · rw [if_neg h1]
    by_cases h2 : n / 2 ^ 52 % 2048 = 0
    · rw [if_pos h2]
      intro q
      cases q
    · rw [if_neg h2]
      intro q
      cases q
theorem fp_n32 {r : UInt32} (h : vf_n32 r) : Jvm.FP.Core.decode fm32 r.toNat ≠ .nan := by
  unfold vf_n32 at h
  rw [UInt32.le_iff_toNat_le, UInt32.toNat_and, show UInt32.toNat (0x7fffffff : UInt32) = 2 ^ 31 - 1 from rfl, Nat.and_two_pow_sub_one_eq_mod, show UInt32.toNat (0x7f800000 : UInt32) = 255 * 2 ^ 23 from rfl] at h
  generalize r.toNat = n at h
  unfold Jvm.FP.Core.decode Jvm.FP.Core.fieldE Jvm.FP.Core.fieldT
  rw [fp32_tails, fp32_exps]
  by_cases h1 : n / 2 ^ 23 % 256 = 256 - 1
  · rw [if_pos h1, if_pos (by omega)]
    intro q
    cases q
  · rw [if_neg h1]
    by_cases h2 : n / 2 ^ 23 % 256 = 0
    · rw [if_pos h2]
      intro q
      cases q
    · rw [if_neg h2]
      intro q
      cases q
theorem fp_self {d : Jvm.FP.Core.Datum} (h : d ≠ .nan) : Jvm.FP.Core.order d d = some .eq := by
  cases d with
  | nan => exact absurd rfl h
  | inf s => cases s <;> rfl
  | fin s c q =>
    show some (compare _ _) = some .eq
    simp
theorem fp_dcmp {r : UInt64} (h : vf_n64 r) : FP.dcmp r r = some .eq := fp_self (fp_n64 h)
theorem fp_f2d {r : UInt32} (h : vf_n32 r) : vf_n64 (FP.f2d r) := by
  have hd := fp_n32 h
  have e : FP.f2d r = Jvm.FP.Core.f2d r := by
    show (if Jvm.FP.Core.fIsNaN r then _ else _) = _
    have : Jvm.FP.Core.fIsNaN r = false := decide_eq_false hd
    rw [this]
    rfl
  rw [e]
  show vf_n64 (UInt64.ofNat (Jvm.FP.Core.encode fm64 (Jvm.FP.Core.round fm64 (Jvm.FP.Core.decode fm32 r.toNat))))
  refine fp64_enc ?_
  generalize Jvm.FP.Core.decode fm32 r.toNat = d at hd
  cases d with
  | nan => exact absurd rfl hd
  | inf s => exact trivial
  | fin s c q => exact fp64_ratio _ _ _ _
