/-! THE REFERENCE IS MADE -/
abbrev fsX40 : List Value := (.null :: .null :: .null :: .null :: .null :: .null :: .null :: .null :: .int 0 :: .int 0 :: .int 0 :: .int 0 :: .null :: .int 0 :: .int 0 :: .int 0 :: .int 0 :: .int 0 :: .int 0 :: .int 0 :: .int 0 :: .long 0 :: .null :: .int 0 :: .int 0 :: .int 0 :: .int 0 :: .int 0 :: .int 0 :: .int 0 :: .int 0 :: .int 0 :: .null :: .int 0 :: [])
theorem df_X4 : ∀ j, j < 34 → defaultValue (tyX4 j) = vp_V fsX40 j := by decide +kernel
theorem tm_4_194 : Cond.methodLink RX4 1 Lib.objectInit ∈ tbg := tb4 194 (by decide +kernel) (by decide +kernel)
theorem tm_5_66 : Cond.arrayClass .boolean ∈ tbg := tb5 66 (by decide +kernel) (by decide +kernel)
theorem dX4_init_0 : decode cX4_init 0 = .ok (.aload_n 0, 1) := by decide +kernel
theorem dX4_init_1 : decode cX4_init 1 = .ok (.invokespecial 1, 3) := by decide +kernel
theorem dX4_init_4 : decode cX4_init 4 = .ok (.aload_n 0, 1) := by decide +kernel
theorem dX4_init_5 : decode cX4_init 5 = .ok (.sipush 474, 3) := by decide +kernel
theorem dX4_init_8 : decode cX4_init 8 = .ok (.newarray .int, 2) := by decide +kernel
theorem dX4_init_10 : decode cX4_init 10 = .ok (.putfield 7, 3) := by decide +kernel
theorem dX4_init_13 : decode cX4_init 13 = .ok (.aload_n 0, 1) := by decide +kernel
theorem dX4_init_14 : decode cX4_init 14 = .ok (.sipush 474, 3) := by decide +kernel
theorem dX4_init_17 : decode cX4_init 17 = .ok (.newarray .int, 2) := by decide +kernel
theorem dX4_init_19 : decode cX4_init 19 = .ok (.putfield 13, 3) := by decide +kernel
theorem dX4_init_22 : decode cX4_init 22 = .ok (.aload_n 0, 1) := by decide +kernel
theorem dX4_init_23 : decode cX4_init 23 = .ok (.sipush 474, 3) := by decide +kernel
theorem dX4_init_26 : decode cX4_init 26 = .ok (.newarray .int, 2) := by decide +kernel
theorem dX4_init_28 : decode cX4_init 28 = .ok (.putfield 16, 3) := by decide +kernel
theorem dX4_init_31 : decode cX4_init 31 = .ok (.aload_n 0, 1) := by decide +kernel
theorem dX4_init_32 : decode cX4_init 32 = .ok (.sipush 948, 3) := by decide +kernel
theorem dX4_init_35 : decode cX4_init 35 = .ok (.newarray .int, 2) := by decide +kernel
theorem dX4_init_37 : decode cX4_init 37 = .ok (.putfield 19, 3) := by decide +kernel
theorem dX4_init_40 : decode cX4_init 40 = .ok (.aload_n 0, 1) := by decide +kernel
theorem dX4_init_41 : decode cX4_init 41 = .ok (.iconst 2, 1) := by decide +kernel
theorem dX4_init_42 : decode cX4_init 42 = .ok (.newarray .boolean, 2) := by decide +kernel
theorem dX4_init_44 : decode cX4_init 44 = .ok (.putfield 22, 3) := by decide +kernel
theorem dX4_init_47 : decode cX4_init 47 = .ok (.aload_n 0, 1) := by decide +kernel
theorem dX4_init_48 : decode cX4_init 48 = .ok (.iconst 4, 1) := by decide +kernel
theorem dX4_init_49 : decode cX4_init 49 = .ok (.newarray .int, 2) := by decide +kernel
theorem dX4_init_51 : decode cX4_init 51 = .ok (.dup, 1) := by decide +kernel
theorem dX4_init_52 : decode cX4_init 52 = .ok (.iconst 0, 1) := by decide +kernel
theorem dX4_init_53 : decode cX4_init 53 = .ok (.iconst 5, 1) := by decide +kernel
theorem dX4_init_54 : decode cX4_init 54 = .ok (.iastore, 1) := by decide +kernel
theorem dX4_init_55 : decode cX4_init 55 = .ok (.dup, 1) := by decide +kernel
theorem dX4_init_56 : decode cX4_init 56 = .ok (.iconst 1, 1) := by decide +kernel
theorem dX4_init_57 : decode cX4_init 57 = .ok (.bipush 10, 2) := by decide +kernel
theorem dX4_init_59 : decode cX4_init 59 = .ok (.iastore, 1) := by decide +kernel
theorem dX4_init_60 : decode cX4_init 60 = .ok (.dup, 1) := by decide +kernel
theorem dX4_init_61 : decode cX4_init 61 = .ok (.iconst 2, 1) := by decide +kernel
theorem dX4_init_62 : decode cX4_init 62 = .ok (.iconst 4, 1) := by decide +kernel
theorem dX4_init_63 : decode cX4_init 63 = .ok (.iastore, 1) := by decide +kernel
theorem dX4_init_64 : decode cX4_init 64 = .ok (.dup, 1) := by decide +kernel
theorem dX4_init_65 : decode cX4_init 65 = .ok (.iconst 3, 1) := by decide +kernel
theorem dX4_init_66 : decode cX4_init 66 = .ok (.iconst 3, 1) := by decide +kernel
theorem dX4_init_67 : decode cX4_init 67 = .ok (.iastore, 1) := by decide +kernel
theorem dX4_init_68 : decode cX4_init 68 = .ok (.putfield 26, 3) := by decide +kernel
theorem dX4_init_71 : decode cX4_init 71 = .ok (.aload_n 0, 1) := by decide +kernel
theorem dX4_init_72 : decode cX4_init 72 = .ok (.iconst 4, 1) := by decide +kernel
theorem dX4_init_73 : decode cX4_init 73 = .ok (.newarray .int, 2) := by decide +kernel
theorem dX4_init_75 : decode cX4_init 75 = .ok (.dup, 1) := by decide +kernel
theorem dX4_init_76 : decode cX4_init 76 = .ok (.iconst 0, 1) := by decide +kernel
theorem dX4_init_77 : decode cX4_init 77 = .ok (.iconst 0, 1) := by decide +kernel
theorem dX4_init_78 : decode cX4_init 78 = .ok (.iastore, 1) := by decide +kernel
theorem dX4_init_79 : decode cX4_init 79 = .ok (.dup, 1) := by decide +kernel
theorem dX4_init_80 : decode cX4_init 80 = .ok (.iconst 1, 1) := by decide +kernel
theorem dX4_init_81 : decode cX4_init 81 = .ok (.iconst 0, 1) := by decide +kernel
theorem dX4_init_82 : decode cX4_init 82 = .ok (.iastore, 1) := by decide +kernel
theorem dX4_init_83 : decode cX4_init 83 = .ok (.dup, 1) := by decide +kernel
theorem dX4_init_84 : decode cX4_init 84 = .ok (.iconst 2, 1) := by decide +kernel
theorem dX4_init_85 : decode cX4_init 85 = .ok (.iconst 1, 1) := by decide +kernel
theorem dX4_init_86 : decode cX4_init 86 = .ok (.iastore, 1) := by decide +kernel
theorem dX4_init_87 : decode cX4_init 87 = .ok (.dup, 1) := by decide +kernel
theorem dX4_init_88 : decode cX4_init 88 = .ok (.iconst 3, 1) := by decide +kernel
theorem dX4_init_89 : decode cX4_init 89 = .ok (.iconst 1, 1) := by decide +kernel
theorem dX4_init_90 : decode cX4_init 90 = .ok (.iastore, 1) := by decide +kernel
theorem dX4_init_91 : decode cX4_init 91 = .ok (.putfield 29, 3) := by decide +kernel
theorem dX4_init_94 : decode cX4_init 94 = .ok (.aload_n 0, 1) := by decide +kernel
theorem dX4_init_95 : decode cX4_init 95 = .ok (.iconst 4, 1) := by decide +kernel
theorem dX4_init_96 : decode cX4_init 96 = .ok (.newarray .int, 2) := by decide +kernel
theorem dX4_init_98 : decode cX4_init 98 = .ok (.dup, 1) := by decide +kernel
theorem dX4_init_99 : decode cX4_init 99 = .ok (.iconst 0, 1) := by decide +kernel
theorem dX4_init_100 : decode cX4_init 100 = .ok (.bipush 50, 2) := by decide +kernel
theorem dX4_init_102 : decode cX4_init 102 = .ok (.iastore, 1) := by decide +kernel
theorem dX4_init_103 : decode cX4_init 103 = .ok (.dup, 1) := by decide +kernel
theorem dX4_init_104 : decode cX4_init 104 = .ok (.iconst 1, 1) := by decide +kernel
theorem dX4_init_105 : decode cX4_init 105 = .ok (.bipush 99, 2) := by decide +kernel
theorem dX4_init_107 : decode cX4_init 107 = .ok (.iastore, 1) := by decide +kernel
theorem dX4_init_108 : decode cX4_init 108 = .ok (.dup, 1) := by decide +kernel
theorem dX4_init_109 : decode cX4_init 109 = .ok (.iconst 2, 1) := by decide +kernel
theorem dX4_init_110 : decode cX4_init 110 = .ok (.bipush 9, 2) := by decide +kernel
theorem dX4_init_112 : decode cX4_init 112 = .ok (.iastore, 1) := by decide +kernel
theorem dX4_init_113 : decode cX4_init 113 = .ok (.dup, 1) := by decide +kernel
theorem dX4_init_114 : decode cX4_init 114 = .ok (.iconst 3, 1) := by decide +kernel
theorem dX4_init_115 : decode cX4_init 115 = .ok (.bipush 9, 2) := by decide +kernel
theorem dX4_init_117 : decode cX4_init 117 = .ok (.iastore, 1) := by decide +kernel
theorem dX4_init_118 : decode cX4_init 118 = .ok (.putfield 32, 3) := by decide +kernel
theorem dX4_init_121 : decode cX4_init 121 = .ok (.aload_n 0, 1) := by decide +kernel
theorem dX4_init_122 : decode cX4_init 122 = .ok (.sipush 800, 3) := by decide +kernel
theorem dX4_init_125 : decode cX4_init 125 = .ok (.newarray .int, 2) := by decide +kernel
theorem dX4_init_127 : decode cX4_init 127 = .ok (.putfield 35, 3) := by decide +kernel
theorem dX4_init_130 : decode cX4_init 130 = .ok (.aload_n 0, 1) := by decide +kernel
theorem dX4_init_131 : decode cX4_init 131 = .ok (.iconst (-1), 1) := by decide +kernel
theorem dX4_init_132 : decode cX4_init 132 = .ok (.putfield 38, 3) := by decide +kernel
theorem dX4_init_135 : decode cX4_init 135 = .ok (.aload_n 0, 1) := by decide +kernel
theorem dX4_init_136 : decode cX4_init 136 = .ok (.bipush 40, 2) := by decide +kernel
theorem dX4_init_138 : decode cX4_init 138 = .ok (.newarray .int, 2) := by decide +kernel
theorem dX4_init_140 : decode cX4_init 140 = .ok (.putfield 42, 3) := by decide +kernel
theorem dX4_init_143 : decode cX4_init 143 = .ok (.aload_n 0, 1) := by decide +kernel
theorem dX4_init_144 : decode cX4_init 144 = .ok (.bipush 64, 2) := by decide +kernel
theorem dX4_init_146 : decode cX4_init 146 = .ok (.newarray .int, 2) := by decide +kernel
theorem dX4_init_148 : decode cX4_init 148 = .ok (.putfield 45, 3) := by decide +kernel
theorem dX4_init_151 : decode cX4_init 151 = .ok (.aload_n 0, 1) := by decide +kernel
theorem dX4_init_152 : decode cX4_init 152 = .ok (.bipush 32, 2) := by decide +kernel
theorem dX4_init_154 : decode cX4_init 154 = .ok (.invokevirtual 48, 3) := by decide +kernel
theorem dX4_init_157 : decode cX4_init 157 = .ok (.aload_n 0, 1) := by decide +kernel
theorem dX4_init_158 : decode cX4_init 158 = .ok (.invokevirtual 52, 3) := by decide +kernel
theorem dX4_init_161 : decode cX4_init 161 = .ok (.return_, 1) := by decide +kernel
theorem r_iald {p : Program} {l : Launch} {e : Env} {R : Room} {s : State} {m : MethodId} {args : Array Value} {below : List Frame} {meth : Method} {c : Code} {H : Heap} {locs : List Loc} {cells slots : Nat} {Q : State → Prop} {cc : ByteArray} {pc nL : Nat} {ls : Array Slot} {rest : List Value} {G : zG} {own : String} {ret : Option FieldType} {Wl : va_W} {a : Nat} (C0 : Cx G own cc nL ret p s m args meth c) (Z : Zr G s Wl H locs) {i0 N : Nat} {f : Nat → Int32} (he : Wl[i0]? = some (a, .inl (gcA G 0, N, .inl f))) {i : Int32} (hin : vp_in i N) (hdg : decode cc pc = .ok (.iaload, 1))
    (kk : W p l e R s m args below meth c H locs cells slots Q (F0 m (pc + 1) ls (.int (f i.toNatClampNeg) :: rest))) : W p l e R s m args below meth c H locs cells slots Q (F0 m pc ls (.int i :: .ref a :: rest)) := by
  obtain ⟨hx, hb, -, -, -, hown, hts, K, -⟩ := C0
  exact va_iald hx hb K.1 Z.1 i0 0 he rfl hin hdg kk
theorem upd_z (k : Nat) : upd (fun _ : Nat => (0 : Int32)) k 0 = fun _ => 0 := by
  funext j
  unfold upd
  split <;> rfl
theorem upd_g (g : Nat → Int32) (i : Nat) : upd (fun j => if j < i then g j else 0) i (g i) = fun j => if j < i + 1 then g j else 0 := by
  funext j
  show (if j = i then g i else (if j < i then g j else 0)) = _
  by_cases h : j = i
  · subst h
    rw [if_pos rfl, if_pos (by omega)]
  · rw [if_neg h]
    by_cases h2 : j < i
    · rw [if_pos h2, if_pos (by omega)]
    · rw [if_neg h2, if_neg (by omega)]
set_option maxRecDepth 100000 in
set_option maxHeartbeats 4000000 in
theorem kr_X4_clear (l : Launch) {G : zG} (hg : 129 ≤ gn G) {a st fv : Nat} {x1 x2 x3 x4 : Value} {xs : List Value} {n : Int32} {g : Nat → Int32} {Y : va_W} : Mr l yX4_clear cX4_clear 3 none 0 0 0 0 G [.ref a, .int n] (eO a 4 (.ref st :: x1 :: x2 :: x3 :: x4 :: .ref fv :: xs) :: eA (gcA G 0) st 474 (fun _ => 0) :: eA (gcA G 0) fv 4 g :: Y) (QvR G (fun W1 => W1 = eO a 4 (.ref st :: x1 :: x2 :: x3 :: x4 :: .ref fv :: xs) :: eA (gcA G 0) st 474 (fun j => if j < 4 then g j else if j = 4 then n else 0) :: eA (gcA G 0) fv 4 g :: Y)) := by
  refine r_ofW hg (by decide) (Nat.le_of_ble_eq_true rfl) ?_
  intro p e s m args below meth c ls C0 Z hl
  have hx := C0.1
  have hb := C0.2.1
  replace hl : lv_has ls 3 [(0, .ref a), (1, .int n)] := hl
  generalize s.heap = H at Z ⊢
  generalize ([] : List Loc) = locs at Z ⊢
  have L2 : ∀ (k i : Nat) (H : Heap) (locs : List Loc) (ls : Array Slot), i + k = 4 → Zr G s (eO a 4 (.ref st :: x1 :: x2 :: x3 :: x4 :: .ref fv :: xs) :: eA (gcA G 0) st 474 (fun j => if j < i then g j else 0) :: eA (gcA G 0) fv 4 g :: Y) H locs → lv_has ls 3 [(0, .ref a), (1, .int n), (2, .int (nI i))] → W p l e { frames := 0, cells := 0, slots := 0, locals := 0 } s m args below meth c H locs 0 0 (MQ below (QvR G (fun W1 => W1 = eO a 4 (.ref st :: x1 :: x2 :: x3 :: x4 :: .ref fv :: xs) :: eA (gcA G 0) st 474 (fun j => if j < 4 then g j else if j = 4 then n else 0) :: eA (gcA G 0) fv 4 g :: Y)) args s 0 0 (zA G)) (F0 m 24 ls []) := by
    intro k
    induction k with
    | zero =>
      intro i H locs ls hi Z hl
      have e4 : i = 4 := by omega
      subst e4
      refine lv_iload_n hx hb dX4_clear_24 rfl (lv_at hl 2 rfl) ?_
      refine lv_iconst (v := 4) hx hb dX4_clear_25 (by decide) ?_
      refine lv_icmp_ge (tgt := 47) hx hb dX4_clear_26 (by decide) (fun c2 => ?_) (fun c2 => absurd (by decide) c2)
      refine lv_aload_n hx hb dX4_clear_47 rfl (lv_at hl 0 rfl) ?_
      refine r_get C0 Z in_X4 rfl 0 (by decide) rfl tm_4_203 (i0 := 0) rfl (x := .ref st) rfl dX4_clear_48 ?_
      refine lv_iconst (v := 4) hx hb dX4_clear_51 (by decide) ?_
      refine lv_iload_n hx hb dX4_clear_52 rfl (lv_at hl 1 rfl) ?_
      refine r_iast C0 Z (i0 := 1) (N := 474) rfl in_4_474 dX4_clear_53 (fun H locs Z => ?_)
      refine r_vret C0 (Z.cv ?_) rfl dX4_clear_54
      refine Cv.cons rfl (Eqv.of rfl) (Cv.cons rfl (Eqv.i (fun j hj => ?_)) (Cv.rf _))
      show (if j = ix 4 then n else if j < 4 then g j else 0) = _
      rw [nc_4]
      by_cases h4 : j = 4
      · subst h4
        rfl
      · rw [if_neg h4, if_neg h4]
    | succ k hk =>
      intro i H locs ls hi Z hl
      refine lv_iload_n hx hb dX4_clear_24 rfl (lv_at hl 2 rfl) ?_
      refine lv_iconst (v := 4) hx hb dX4_clear_25 (by decide) ?_
      refine lv_icmp_ge (tgt := 47) hx hb dX4_clear_26 (by decide) (fun c2 => absurd (show nI 4 ≤ nI i from c2) (nI_ge (by omega) (by decide))) (fun c2 => ?_)
      refine lv_aload_n hx hb dX4_clear_29 rfl (lv_at hl 0 rfl) ?_
      refine r_get C0 Z in_X4 rfl 0 (by decide) rfl tm_4_203 (i0 := 0) rfl (x := .ref st) rfl dX4_clear_30 ?_
      refine lv_iload_n hx hb dX4_clear_33 rfl (lv_at hl 2 rfl) ?_
      refine lv_aload_n hx hb dX4_clear_34 rfl (lv_at hl 0 rfl) ?_
      refine r_get C0 Z in_X4 rfl 5 (by decide) rfl tm_4_208 (i0 := 0) rfl (x := .ref fv) rfl dX4_clear_35 ?_
      refine lv_iload_n hx hb dX4_clear_38 rfl (lv_at hl 2 rfl) ?_
      refine r_iald C0 Z (i0 := 2) (N := 4) rfl (vp_in_nI (by omega) (by decide)) dX4_clear_39 ?_
      refine r_iast C0 Z (i0 := 1) (N := 474) rfl (vp_in_nI (by omega) (by decide)) dX4_clear_40 (fun H locs Z => ?_)
      replace Z : Zr G s (eO a 4 (.ref st :: x1 :: x2 :: x3 :: x4 :: .ref fv :: xs) :: eA (gcA G 0) st 474 (upd (fun j => if j < i then g j else 0) (nI i).toNatClampNeg (g (nI i).toNatClampNeg)) :: eA (gcA G 0) fv 4 g :: Y) H locs := Z
      rw [show (nI i).toNatClampNeg = i from nI_clamp (by omega), upd_g] at Z
      refine lv_iinc (v := nI i + 1) (lv' := [(2, .int (nI i + 1)), (0, .ref a), (1, .int n)]) hx hb dX4_clear_41 hl (k := 2) rfl rfl (by decide) rfl (fun ls hl => ?_)
      refine lv_goto (tgt := 24) hx hb dX4_clear_44 (by decide) ?_
      rw [← nI_succ] at hl
      exact hk (i + 1) H locs ls (by omega) Z (lv_sub hl [1, 2, 0] rfl)
  have L1 : ∀ (k i : Nat) (H : Heap) (locs : List Loc) (ls : Array Slot), i + k = 474 → Zr G s (eO a 4 (.ref st :: x1 :: x2 :: x3 :: x4 :: .ref fv :: xs) :: eA (gcA G 0) st 474 (fun _ => 0) :: eA (gcA G 0) fv 4 g :: Y) H locs → lv_has ls 3 [(0, .ref a), (1, .int n), (2, .int (nI i))] → W p l e { frames := 0, cells := 0, slots := 0, locals := 0 } s m args below meth c H locs 0 0 (MQ below (QvR G (fun W1 => W1 = eO a 4 (.ref st :: x1 :: x2 :: x3 :: x4 :: .ref fv :: xs) :: eA (gcA G 0) st 474 (fun j => if j < 4 then g j else if j = 4 then n else 0) :: eA (gcA G 0) fv 4 g :: Y)) args s 0 0 (zA G)) (F0 m 2 ls []) := by
    intro k
    induction k with
    | zero =>
      intro i H locs ls hi Z hl
      have e4 : i = 474 := by omega
      subst e4
      refine lv_iload_n hx hb dX4_clear_2 rfl (lv_at hl 2 rfl) ?_
      refine lv_sipush (v := 474) hx hb dX4_clear_3 (by decide) ?_
      refine lv_icmp_ge (tgt := 22) hx hb dX4_clear_6 (by decide) (fun c2 => ?_) (fun c2 => absurd (by decide) c2)
      refine lv_iconst (v := 0) hx hb dX4_clear_22 (by decide) ?_
      refine lv_istore_n (lv' := [(2, .int 0), (0, .ref a), (1, .int n)]) hx hb dX4_clear_23 rfl hl (by decide) rfl (fun ls hl => ?_)
      exact L2 4 0 H locs ls rfl (Z.cv (Cv.of (congrArg (fun f => eO a 4 (.ref st :: x1 :: x2 :: x3 :: x4 :: .ref fv :: xs) :: eA (gcA G 0) st 474 f :: eA (gcA G 0) fv 4 g :: Y) (funext fun j => (if_neg (Nat.not_lt_zero j)).symm)))) (lv_sub hl [1, 2, 0] rfl)
    | succ k hk =>
      intro i H locs ls hi Z hl
      refine lv_iload_n hx hb dX4_clear_2 rfl (lv_at hl 2 rfl) ?_
      refine lv_sipush (v := 474) hx hb dX4_clear_3 (by decide) ?_
      refine lv_icmp_ge (tgt := 22) hx hb dX4_clear_6 (by decide) (fun c2 => absurd (show nI 474 ≤ nI i from c2) (nI_ge (by omega) (by decide))) (fun c2 => ?_)
      refine lv_aload_n hx hb dX4_clear_9 rfl (lv_at hl 0 rfl) ?_
      refine r_get C0 Z in_X4 rfl 0 (by decide) rfl tm_4_203 (i0 := 0) rfl (x := .ref st) rfl dX4_clear_10 ?_
      refine lv_iload_n hx hb dX4_clear_13 rfl (lv_at hl 2 rfl) ?_
      refine lv_iconst (v := 0) hx hb dX4_clear_14 (by decide) ?_
      refine r_iast C0 Z (i0 := 1) (N := 474) rfl (vp_in_nI (by omega) (by decide)) dX4_clear_15 (fun H locs Z => ?_)
      replace Z : Zr G s (eO a 4 (.ref st :: x1 :: x2 :: x3 :: x4 :: .ref fv :: xs) :: eA (gcA G 0) st 474 (upd (fun _ => 0) (nI i).toNatClampNeg 0) :: eA (gcA G 0) fv 4 g :: Y) H locs := Z
      rw [upd_z] at Z
      refine lv_iinc (v := nI i + 1) (lv' := [(2, .int (nI i + 1)), (0, .ref a), (1, .int n)]) hx hb dX4_clear_16 hl (k := 2) rfl rfl (by decide) rfl (fun ls hl => ?_)
      refine lv_goto (tgt := 2) hx hb dX4_clear_19 (by decide) ?_
      rw [← nI_succ] at hl
      exact hk (i + 1) H locs ls (by omega) Z (lv_sub hl [1, 2, 0] rfl)
  refine lv_iconst (v := 0) hx hb dX4_clear_0 (by decide) ?_
  refine lv_istore_n (lv' := [(2, .int 0), (0, .ref a), (1, .int n)]) hx hb dX4_clear_1 rfl hl (by decide) rfl (fun ls hl => ?_)
  exact L1 474 0 H locs ls rfl Z (lv_sub hl [1, 2, 0] rfl)
set_option maxRecDepth 100000 in
set_option maxHeartbeats 4000000 in
theorem kr_X4_clearDraft (l : Launch) {G : zG} (hg : 129 ≤ gn G) {a : Nat} {fs : List Value} (hfs : fs.length = 34) {Y : va_W} : Mr l yX4_clearDraft cX4_clearDraft 1 none 0 0 0 0 G [.ref a] (eO a 4 fs :: Y) (QvR G (fun W1 => W1 = eO a 4 (((fs.set 8 (.int 0)).set 9 (.int 1)).set 10 (.int 1)) :: Y)) := by
  refine r_ofW hg (by decide) (Nat.le_of_ble_eq_true rfl) ?_
  intro p e s m args below meth c ls C0 Z hl
  have hx := C0.1
  have hb := C0.2.1
  replace hl : lv_has ls 1 [(0, .ref a)] := hl
  generalize s.heap = H at Z ⊢
  generalize ([] : List Loc) = locs at Z ⊢
  refine lv_aload_n hx hb dX4_clearDraft_0 rfl (lv_at hl 0 rfl) ?_
  refine lv_iconst (v := 0) hx hb dX4_clearDraft_1 (by decide) ?_
  refine r_put C0 Z in_X4 tyX4_ok nmX4 rfl 8 (by decide) rfl rfl tm_4_211 (x := .int 0) rfl rfl (by simp [hfs]) dX4_clearDraft_2 (fun H locs Z => ?_)
  refine lv_aload_n hx hb dX4_clearDraft_5 rfl (lv_at hl 0 rfl) ?_
  refine lv_iconst (v := 1) hx hb dX4_clearDraft_6 (by decide) ?_
  refine r_put C0 Z in_X4 tyX4_ok nmX4 rfl 9 (by decide) rfl rfl tm_4_212 (x := .int 1) rfl rfl (by simp [hfs]) dX4_clearDraft_7 (fun H locs Z => ?_)
  refine lv_aload_n hx hb dX4_clearDraft_10 rfl (lv_at hl 0 rfl) ?_
  refine lv_iconst (v := 1) hx hb dX4_clearDraft_11 (by decide) ?_
  refine r_put C0 Z in_X4 tyX4_ok nmX4 rfl 10 (by decide) rfl rfl tm_4_213 (x := .int 1) rfl rfl (by simp [hfs]) dX4_clearDraft_12 (fun H locs Z => ?_)
  exact r_vret C0 Z rfl dX4_clearDraft_15
set_option maxRecDepth 100000 in
set_option maxHeartbeats 4000000 in
theorem k_X4_init (l : Launch) {G : zG} (hg : 129 ≤ gn G) {a : Nat} {Y : va_W} : Mr l yX4_init cX4_init 1 none 1 30 11 3288 G [.ref a] (eO a 4 fsX40 :: Y) (QvR G (fun W1 => ∃ (q8 q17 q26 q35 q42 q49 q73 q96 q125 q138 q146 : Nat), W1 = eO a 4 (.ref q8 :: .ref q17 :: .ref q26 :: .ref q35 :: .ref q42 :: .ref q49 :: .ref q73 :: .ref q96 :: .int 0 :: .int 1 :: .int 1 :: .int 0 :: .ref q125 :: .int 0 :: .int 0 :: .int 0 :: .int 0 :: .int 0 :: .int 0 :: .int 0 :: .int (-1) :: .long 0 :: .ref q138 :: .int 0 :: .int 0 :: .int 0 :: .int 0 :: .int 0 :: .int 0 :: .int 0 :: .int 0 :: .int 0 :: .ref q146 :: .int 0 :: []) :: eA (gcA G 0) q8 474 (fun j => if j < 4 then (upd (upd (upd (upd (fun _ => 0) (ix 0) 5) (ix 1) 10) (ix 2) 4) (ix 3) 3) j else if j = 4 then 32 else 0) :: eA (gcA G 0) q49 4 (upd (upd (upd (upd (fun _ => 0) (ix 0) 5) (ix 1) 10) (ix 2) 4) (ix 3) 3) :: eA (gcA G 0) q146 64 (fun _ => 0) :: eA (gcA G 0) q138 40 (fun _ => 0) :: eA (gcA G 0) q125 800 (fun _ => 0) :: eA (gcA G 0) q96 4 (upd (upd (upd (upd (fun _ => 0) (ix 0) 50) (ix 1) 99) (ix 2) 9) (ix 3) 9) :: eA (gcA G 0) q73 4 (upd (upd (upd (upd (fun _ => 0) (ix 0) 0) (ix 1) 0) (ix 2) 1) (ix 3) 1) :: eA (gcA G 2) q42 2 (fun _ => 0) :: eA (gcA G 0) q35 948 (fun _ => 0) :: eA (gcA G 0) q26 474 (fun _ => 0) :: eA (gcA G 0) q17 474 (fun _ => 0) :: Y)) := by
  refine r_ofI hg (by decide) (Nat.le_of_ble_eq_true rfl) ?_
  intro p e s m args below meth c ls hin2 C0 Z hl
  have hx := C0.1
  have hb := C0.2.1
  replace hl : lv_has ls 1 [(0, .ref a)] := hl
  replace hin2 : meth.name = "<init>" := hin2
  generalize s.heap = H at Z ⊢
  generalize ([] : List Loc) = locs at Z ⊢
  refine lv_aload_n hx hb dX4_init_0 rfl (lv_at hl 0 rfl) ?_
  refine r_objInit C0 hl.1 tm_4_194 tm_1_24 tm_1_25 (Nat.le_of_ble_eq_true rfl) (Nat.le_of_ble_eq_true rfl) dX4_init_1 ?_
  refine lv_aload_n hx hb dX4_init_4 rfl (lv_at hl 0 rfl) ?_
  refine lv_sipush (v := 474) hx hb dX4_init_5 (by decide) ?_
  refine r_newa (X := [eO a 4 (.null :: .null :: .null :: .null :: .null :: .null :: .null :: .null :: .int 0 :: .int 0 :: .int 0 :: .int 0 :: .null :: .int 0 :: .int 0 :: .int 0 :: .int 0 :: .int 0 :: .int 0 :: .int 0 :: .int 0 :: .long 0 :: .null :: .int 0 :: .int 0 :: .int 0 :: .int 0 :: .int 0 :: .int 0 :: .int 0 :: .int 0 :: .int 0 :: .null :: .int 0 :: [])]) (Y := Y) (ty := .int) (t0 := 0) (atype := .int) (N' := 474) (a0 := (474, .inl (fun _ => 0))) C0 Z rfl tm_1_98 rfl (fun _ => rfl) (by decide) (by decide) (Nat.le_of_ble_eq_true rfl) (Nat.le_of_ble_eq_true rfl) (Nat.le_of_ble_eq_true rfl) dX4_init_8 (fun q8 H Z => ?_)
  replace Z : Zr G s (eO a 4 (.null :: .null :: .null :: .null :: .null :: .null :: .null :: .null :: .int 0 :: .int 0 :: .int 0 :: .int 0 :: .null :: .int 0 :: .int 0 :: .int 0 :: .int 0 :: .int 0 :: .int 0 :: .int 0 :: .int 0 :: .long 0 :: .null :: .int 0 :: .int 0 :: .int 0 :: .int 0 :: .int 0 :: .int 0 :: .int 0 :: .int 0 :: .int 0 :: .null :: .int 0 :: []) :: eA (gcA G 0) q8 474 (fun _ => 0) :: Y) H locs := Z
  refine W.widen (k := 1) (n := 474) (Nat.le_of_ble_eq_true rfl) (Nat.le_of_ble_eq_true rfl) ?_
  refine r_putF C0 hin2 Z in_X4 tyX4_ok nmX4 rfl 0 (by decide) rfl rfl rfl tm_4_203 (x := .ref q8) rfl rfl (Nat.le_of_ble_eq_true rfl) dX4_init_10 (fun H locs Z => ?_)
  replace Z : Zr G s (eO a 4 (.ref q8 :: .null :: .null :: .null :: .null :: .null :: .null :: .null :: .int 0 :: .int 0 :: .int 0 :: .int 0 :: .null :: .int 0 :: .int 0 :: .int 0 :: .int 0 :: .int 0 :: .int 0 :: .int 0 :: .int 0 :: .long 0 :: .null :: .int 0 :: .int 0 :: .int 0 :: .int 0 :: .int 0 :: .int 0 :: .int 0 :: .int 0 :: .int 0 :: .null :: .int 0 :: []) :: eA (gcA G 0) q8 474 (fun _ => 0) :: Y) H locs := Z
  refine lv_aload_n hx hb dX4_init_13 rfl (lv_at hl 0 rfl) ?_
  refine lv_sipush (v := 474) hx hb dX4_init_14 (by decide) ?_
  refine r_newa (X := [eO a 4 (.ref q8 :: .null :: .null :: .null :: .null :: .null :: .null :: .null :: .int 0 :: .int 0 :: .int 0 :: .int 0 :: .null :: .int 0 :: .int 0 :: .int 0 :: .int 0 :: .int 0 :: .int 0 :: .int 0 :: .int 0 :: .long 0 :: .null :: .int 0 :: .int 0 :: .int 0 :: .int 0 :: .int 0 :: .int 0 :: .int 0 :: .int 0 :: .int 0 :: .null :: .int 0 :: [])]) (Y := eA (gcA G 0) q8 474 (fun _ => 0) :: Y) (ty := .int) (t0 := 0) (atype := .int) (N' := 474) (a0 := (474, .inl (fun _ => 0))) C0 Z rfl tm_1_98 rfl (fun _ => rfl) (by decide) (by decide) (Nat.le_of_ble_eq_true rfl) (Nat.le_of_ble_eq_true rfl) (Nat.le_of_ble_eq_true rfl) dX4_init_17 (fun q17 H Z => ?_)
  replace Z : Zr G s (eO a 4 (.ref q8 :: .null :: .null :: .null :: .null :: .null :: .null :: .null :: .int 0 :: .int 0 :: .int 0 :: .int 0 :: .null :: .int 0 :: .int 0 :: .int 0 :: .int 0 :: .int 0 :: .int 0 :: .int 0 :: .int 0 :: .long 0 :: .null :: .int 0 :: .int 0 :: .int 0 :: .int 0 :: .int 0 :: .int 0 :: .int 0 :: .int 0 :: .int 0 :: .null :: .int 0 :: []) :: eA (gcA G 0) q17 474 (fun _ => 0) :: eA (gcA G 0) q8 474 (fun _ => 0) :: Y) H locs := Z
  refine W.widen (k := 2) (n := 948) (Nat.le_of_ble_eq_true rfl) (Nat.le_of_ble_eq_true rfl) ?_
  refine r_putF C0 hin2 Z in_X4 tyX4_ok nmX4 rfl 1 (by decide) rfl rfl rfl tm_4_204 (x := .ref q17) rfl rfl (Nat.le_of_ble_eq_true rfl) dX4_init_19 (fun H locs Z => ?_)
  replace Z : Zr G s (eO a 4 (.ref q8 :: .ref q17 :: .null :: .null :: .null :: .null :: .null :: .null :: .int 0 :: .int 0 :: .int 0 :: .int 0 :: .null :: .int 0 :: .int 0 :: .int 0 :: .int 0 :: .int 0 :: .int 0 :: .int 0 :: .int 0 :: .long 0 :: .null :: .int 0 :: .int 0 :: .int 0 :: .int 0 :: .int 0 :: .int 0 :: .int 0 :: .int 0 :: .int 0 :: .null :: .int 0 :: []) :: eA (gcA G 0) q17 474 (fun _ => 0) :: eA (gcA G 0) q8 474 (fun _ => 0) :: Y) H locs := Z
  refine lv_aload_n hx hb dX4_init_22 rfl (lv_at hl 0 rfl) ?_
  refine lv_sipush (v := 474) hx hb dX4_init_23 (by decide) ?_
  refine r_newa (X := [eO a 4 (.ref q8 :: .ref q17 :: .null :: .null :: .null :: .null :: .null :: .null :: .int 0 :: .int 0 :: .int 0 :: .int 0 :: .null :: .int 0 :: .int 0 :: .int 0 :: .int 0 :: .int 0 :: .int 0 :: .int 0 :: .int 0 :: .long 0 :: .null :: .int 0 :: .int 0 :: .int 0 :: .int 0 :: .int 0 :: .int 0 :: .int 0 :: .int 0 :: .int 0 :: .null :: .int 0 :: [])]) (Y := eA (gcA G 0) q17 474 (fun _ => 0) :: eA (gcA G 0) q8 474 (fun _ => 0) :: Y) (ty := .int) (t0 := 0) (atype := .int) (N' := 474) (a0 := (474, .inl (fun _ => 0))) C0 Z rfl tm_1_98 rfl (fun _ => rfl) (by decide) (by decide) (Nat.le_of_ble_eq_true rfl) (Nat.le_of_ble_eq_true rfl) (Nat.le_of_ble_eq_true rfl) dX4_init_26 (fun q26 H Z => ?_)
  replace Z : Zr G s (eO a 4 (.ref q8 :: .ref q17 :: .null :: .null :: .null :: .null :: .null :: .null :: .int 0 :: .int 0 :: .int 0 :: .int 0 :: .null :: .int 0 :: .int 0 :: .int 0 :: .int 0 :: .int 0 :: .int 0 :: .int 0 :: .int 0 :: .long 0 :: .null :: .int 0 :: .int 0 :: .int 0 :: .int 0 :: .int 0 :: .int 0 :: .int 0 :: .int 0 :: .int 0 :: .null :: .int 0 :: []) :: eA (gcA G 0) q26 474 (fun _ => 0) :: eA (gcA G 0) q17 474 (fun _ => 0) :: eA (gcA G 0) q8 474 (fun _ => 0) :: Y) H locs := Z
  refine W.widen (k := 3) (n := 1422) (Nat.le_of_ble_eq_true rfl) (Nat.le_of_ble_eq_true rfl) ?_
  refine r_putF C0 hin2 Z in_X4 tyX4_ok nmX4 rfl 2 (by decide) rfl rfl rfl tm_4_205 (x := .ref q26) rfl rfl (Nat.le_of_ble_eq_true rfl) dX4_init_28 (fun H locs Z => ?_)
  replace Z : Zr G s (eO a 4 (.ref q8 :: .ref q17 :: .ref q26 :: .null :: .null :: .null :: .null :: .null :: .int 0 :: .int 0 :: .int 0 :: .int 0 :: .null :: .int 0 :: .int 0 :: .int 0 :: .int 0 :: .int 0 :: .int 0 :: .int 0 :: .int 0 :: .long 0 :: .null :: .int 0 :: .int 0 :: .int 0 :: .int 0 :: .int 0 :: .int 0 :: .int 0 :: .int 0 :: .int 0 :: .null :: .int 0 :: []) :: eA (gcA G 0) q26 474 (fun _ => 0) :: eA (gcA G 0) q17 474 (fun _ => 0) :: eA (gcA G 0) q8 474 (fun _ => 0) :: Y) H locs := Z
  refine lv_aload_n hx hb dX4_init_31 rfl (lv_at hl 0 rfl) ?_
  refine lv_sipush (v := 948) hx hb dX4_init_32 (by decide) ?_
  refine r_newa (X := [eO a 4 (.ref q8 :: .ref q17 :: .ref q26 :: .null :: .null :: .null :: .null :: .null :: .int 0 :: .int 0 :: .int 0 :: .int 0 :: .null :: .int 0 :: .int 0 :: .int 0 :: .int 0 :: .int 0 :: .int 0 :: .int 0 :: .int 0 :: .long 0 :: .null :: .int 0 :: .int 0 :: .int 0 :: .int 0 :: .int 0 :: .int 0 :: .int 0 :: .int 0 :: .int 0 :: .null :: .int 0 :: [])]) (Y := eA (gcA G 0) q26 474 (fun _ => 0) :: eA (gcA G 0) q17 474 (fun _ => 0) :: eA (gcA G 0) q8 474 (fun _ => 0) :: Y) (ty := .int) (t0 := 0) (atype := .int) (N' := 948) (a0 := (948, .inl (fun _ => 0))) C0 Z rfl tm_1_98 rfl (fun _ => rfl) (by decide) (by decide) (Nat.le_of_ble_eq_true rfl) (Nat.le_of_ble_eq_true rfl) (Nat.le_of_ble_eq_true rfl) dX4_init_35 (fun q35 H Z => ?_)
  replace Z : Zr G s (eO a 4 (.ref q8 :: .ref q17 :: .ref q26 :: .null :: .null :: .null :: .null :: .null :: .int 0 :: .int 0 :: .int 0 :: .int 0 :: .null :: .int 0 :: .int 0 :: .int 0 :: .int 0 :: .int 0 :: .int 0 :: .int 0 :: .int 0 :: .long 0 :: .null :: .int 0 :: .int 0 :: .int 0 :: .int 0 :: .int 0 :: .int 0 :: .int 0 :: .int 0 :: .int 0 :: .null :: .int 0 :: []) :: eA (gcA G 0) q35 948 (fun _ => 0) :: eA (gcA G 0) q26 474 (fun _ => 0) :: eA (gcA G 0) q17 474 (fun _ => 0) :: eA (gcA G 0) q8 474 (fun _ => 0) :: Y) H locs := Z
  refine W.widen (k := 4) (n := 2370) (Nat.le_of_ble_eq_true rfl) (Nat.le_of_ble_eq_true rfl) ?_
  refine r_putF C0 hin2 Z in_X4 tyX4_ok nmX4 rfl 3 (by decide) rfl rfl rfl tm_4_206 (x := .ref q35) rfl rfl (Nat.le_of_ble_eq_true rfl) dX4_init_37 (fun H locs Z => ?_)
  replace Z : Zr G s (eO a 4 (.ref q8 :: .ref q17 :: .ref q26 :: .ref q35 :: .null :: .null :: .null :: .null :: .int 0 :: .int 0 :: .int 0 :: .int 0 :: .null :: .int 0 :: .int 0 :: .int 0 :: .int 0 :: .int 0 :: .int 0 :: .int 0 :: .int 0 :: .long 0 :: .null :: .int 0 :: .int 0 :: .int 0 :: .int 0 :: .int 0 :: .int 0 :: .int 0 :: .int 0 :: .int 0 :: .null :: .int 0 :: []) :: eA (gcA G 0) q35 948 (fun _ => 0) :: eA (gcA G 0) q26 474 (fun _ => 0) :: eA (gcA G 0) q17 474 (fun _ => 0) :: eA (gcA G 0) q8 474 (fun _ => 0) :: Y) H locs := Z
  refine lv_aload_n hx hb dX4_init_40 rfl (lv_at hl 0 rfl) ?_
  refine lv_iconst (v := 2) hx hb dX4_init_41 (by decide) ?_
  refine r_newa (X := [eO a 4 (.ref q8 :: .ref q17 :: .ref q26 :: .ref q35 :: .null :: .null :: .null :: .null :: .int 0 :: .int 0 :: .int 0 :: .int 0 :: .null :: .int 0 :: .int 0 :: .int 0 :: .int 0 :: .int 0 :: .int 0 :: .int 0 :: .int 0 :: .long 0 :: .null :: .int 0 :: .int 0 :: .int 0 :: .int 0 :: .int 0 :: .int 0 :: .int 0 :: .int 0 :: .int 0 :: .null :: .int 0 :: [])]) (Y := eA (gcA G 0) q35 948 (fun _ => 0) :: eA (gcA G 0) q26 474 (fun _ => 0) :: eA (gcA G 0) q17 474 (fun _ => 0) :: eA (gcA G 0) q8 474 (fun _ => 0) :: Y) (ty := .boolean) (t0 := 2) (atype := .boolean) (N' := 2) (a0 := (2, .inl (fun _ => 0))) C0 Z rfl tm_5_66 rfl (fun _ => rfl) (by decide) (by decide) (Nat.le_of_ble_eq_true rfl) (Nat.le_of_ble_eq_true rfl) (Nat.le_of_ble_eq_true rfl) dX4_init_42 (fun q42 H Z => ?_)
  replace Z : Zr G s (eO a 4 (.ref q8 :: .ref q17 :: .ref q26 :: .ref q35 :: .null :: .null :: .null :: .null :: .int 0 :: .int 0 :: .int 0 :: .int 0 :: .null :: .int 0 :: .int 0 :: .int 0 :: .int 0 :: .int 0 :: .int 0 :: .int 0 :: .int 0 :: .long 0 :: .null :: .int 0 :: .int 0 :: .int 0 :: .int 0 :: .int 0 :: .int 0 :: .int 0 :: .int 0 :: .int 0 :: .null :: .int 0 :: []) :: eA (gcA G 2) q42 2 (fun _ => 0) :: eA (gcA G 0) q35 948 (fun _ => 0) :: eA (gcA G 0) q26 474 (fun _ => 0) :: eA (gcA G 0) q17 474 (fun _ => 0) :: eA (gcA G 0) q8 474 (fun _ => 0) :: Y) H locs := Z
  refine W.widen (k := 5) (n := 2372) (Nat.le_of_ble_eq_true rfl) (Nat.le_of_ble_eq_true rfl) ?_
  refine r_putF C0 hin2 Z in_X4 tyX4_ok nmX4 rfl 4 (by decide) rfl rfl rfl tm_4_207 (x := .ref q42) rfl rfl (Nat.le_of_ble_eq_true rfl) dX4_init_44 (fun H locs Z => ?_)
  replace Z : Zr G s (eO a 4 (.ref q8 :: .ref q17 :: .ref q26 :: .ref q35 :: .ref q42 :: .null :: .null :: .null :: .int 0 :: .int 0 :: .int 0 :: .int 0 :: .null :: .int 0 :: .int 0 :: .int 0 :: .int 0 :: .int 0 :: .int 0 :: .int 0 :: .int 0 :: .long 0 :: .null :: .int 0 :: .int 0 :: .int 0 :: .int 0 :: .int 0 :: .int 0 :: .int 0 :: .int 0 :: .int 0 :: .null :: .int 0 :: []) :: eA (gcA G 2) q42 2 (fun _ => 0) :: eA (gcA G 0) q35 948 (fun _ => 0) :: eA (gcA G 0) q26 474 (fun _ => 0) :: eA (gcA G 0) q17 474 (fun _ => 0) :: eA (gcA G 0) q8 474 (fun _ => 0) :: Y) H locs := Z
  refine lv_aload_n hx hb dX4_init_47 rfl (lv_at hl 0 rfl) ?_
  refine lv_iconst (v := 4) hx hb dX4_init_48 (by decide) ?_
  refine r_newa (X := [eO a 4 (.ref q8 :: .ref q17 :: .ref q26 :: .ref q35 :: .ref q42 :: .null :: .null :: .null :: .int 0 :: .int 0 :: .int 0 :: .int 0 :: .null :: .int 0 :: .int 0 :: .int 0 :: .int 0 :: .int 0 :: .int 0 :: .int 0 :: .int 0 :: .long 0 :: .null :: .int 0 :: .int 0 :: .int 0 :: .int 0 :: .int 0 :: .int 0 :: .int 0 :: .int 0 :: .int 0 :: .null :: .int 0 :: [])]) (Y := eA (gcA G 2) q42 2 (fun _ => 0) :: eA (gcA G 0) q35 948 (fun _ => 0) :: eA (gcA G 0) q26 474 (fun _ => 0) :: eA (gcA G 0) q17 474 (fun _ => 0) :: eA (gcA G 0) q8 474 (fun _ => 0) :: Y) (ty := .int) (t0 := 0) (atype := .int) (N' := 4) (a0 := (4, .inl (fun _ => 0))) C0 Z rfl tm_1_98 rfl (fun _ => rfl) (by decide) (by decide) (Nat.le_of_ble_eq_true rfl) (Nat.le_of_ble_eq_true rfl) (Nat.le_of_ble_eq_true rfl) dX4_init_49 (fun q49 H Z => ?_)
  replace Z : Zr G s (eO a 4 (.ref q8 :: .ref q17 :: .ref q26 :: .ref q35 :: .ref q42 :: .null :: .null :: .null :: .int 0 :: .int 0 :: .int 0 :: .int 0 :: .null :: .int 0 :: .int 0 :: .int 0 :: .int 0 :: .int 0 :: .int 0 :: .int 0 :: .int 0 :: .long 0 :: .null :: .int 0 :: .int 0 :: .int 0 :: .int 0 :: .int 0 :: .int 0 :: .int 0 :: .int 0 :: .int 0 :: .null :: .int 0 :: []) :: eA (gcA G 0) q49 4 (fun _ => 0) :: eA (gcA G 2) q42 2 (fun _ => 0) :: eA (gcA G 0) q35 948 (fun _ => 0) :: eA (gcA G 0) q26 474 (fun _ => 0) :: eA (gcA G 0) q17 474 (fun _ => 0) :: eA (gcA G 0) q8 474 (fun _ => 0) :: Y) H locs := Z
  refine W.widen (k := 6) (n := 2376) (Nat.le_of_ble_eq_true rfl) (Nat.le_of_ble_eq_true rfl) ?_
  refine lv_dup hx hb dX4_init_51 rfl ?_
  refine lv_iconst (v := 0) hx hb dX4_init_52 (by decide) ?_
  refine lv_iconst (v := 5) hx hb dX4_init_53 (by decide) ?_
  refine r_iast C0 Z (i0 := 1) (N := 4) rfl (i := 0) (x := 5) in_0_4 dX4_init_54 (fun H locs Z => ?_)
  replace Z : Zr G s (eO a 4 (.ref q8 :: .ref q17 :: .ref q26 :: .ref q35 :: .ref q42 :: .null :: .null :: .null :: .int 0 :: .int 0 :: .int 0 :: .int 0 :: .null :: .int 0 :: .int 0 :: .int 0 :: .int 0 :: .int 0 :: .int 0 :: .int 0 :: .int 0 :: .long 0 :: .null :: .int 0 :: .int 0 :: .int 0 :: .int 0 :: .int 0 :: .int 0 :: .int 0 :: .int 0 :: .int 0 :: .null :: .int 0 :: []) :: eA (gcA G 0) q49 4 (upd (fun _ => 0) (ix 0) 5) :: eA (gcA G 2) q42 2 (fun _ => 0) :: eA (gcA G 0) q35 948 (fun _ => 0) :: eA (gcA G 0) q26 474 (fun _ => 0) :: eA (gcA G 0) q17 474 (fun _ => 0) :: eA (gcA G 0) q8 474 (fun _ => 0) :: Y) H locs := Z
  refine lv_dup hx hb dX4_init_55 rfl ?_
  refine lv_iconst (v := 1) hx hb dX4_init_56 (by decide) ?_
  refine lv_bipush (v := 10) hx hb dX4_init_57 (by decide) ?_
  refine r_iast C0 Z (i0 := 1) (N := 4) rfl (i := 1) (x := 10) in_1_4 dX4_init_59 (fun H locs Z => ?_)
  replace Z : Zr G s (eO a 4 (.ref q8 :: .ref q17 :: .ref q26 :: .ref q35 :: .ref q42 :: .null :: .null :: .null :: .int 0 :: .int 0 :: .int 0 :: .int 0 :: .null :: .int 0 :: .int 0 :: .int 0 :: .int 0 :: .int 0 :: .int 0 :: .int 0 :: .int 0 :: .long 0 :: .null :: .int 0 :: .int 0 :: .int 0 :: .int 0 :: .int 0 :: .int 0 :: .int 0 :: .int 0 :: .int 0 :: .null :: .int 0 :: []) :: eA (gcA G 0) q49 4 (upd (upd (fun _ => 0) (ix 0) 5) (ix 1) 10) :: eA (gcA G 2) q42 2 (fun _ => 0) :: eA (gcA G 0) q35 948 (fun _ => 0) :: eA (gcA G 0) q26 474 (fun _ => 0) :: eA (gcA G 0) q17 474 (fun _ => 0) :: eA (gcA G 0) q8 474 (fun _ => 0) :: Y) H locs := Z
  refine lv_dup hx hb dX4_init_60 rfl ?_
  refine lv_iconst (v := 2) hx hb dX4_init_61 (by decide) ?_
  refine lv_iconst (v := 4) hx hb dX4_init_62 (by decide) ?_
  refine r_iast C0 Z (i0 := 1) (N := 4) rfl (i := 2) (x := 4) in_2_4 dX4_init_63 (fun H locs Z => ?_)
  replace Z : Zr G s (eO a 4 (.ref q8 :: .ref q17 :: .ref q26 :: .ref q35 :: .ref q42 :: .null :: .null :: .null :: .int 0 :: .int 0 :: .int 0 :: .int 0 :: .null :: .int 0 :: .int 0 :: .int 0 :: .int 0 :: .int 0 :: .int 0 :: .int 0 :: .int 0 :: .long 0 :: .null :: .int 0 :: .int 0 :: .int 0 :: .int 0 :: .int 0 :: .int 0 :: .int 0 :: .int 0 :: .int 0 :: .null :: .int 0 :: []) :: eA (gcA G 0) q49 4 (upd (upd (upd (fun _ => 0) (ix 0) 5) (ix 1) 10) (ix 2) 4) :: eA (gcA G 2) q42 2 (fun _ => 0) :: eA (gcA G 0) q35 948 (fun _ => 0) :: eA (gcA G 0) q26 474 (fun _ => 0) :: eA (gcA G 0) q17 474 (fun _ => 0) :: eA (gcA G 0) q8 474 (fun _ => 0) :: Y) H locs := Z
  refine lv_dup hx hb dX4_init_64 rfl ?_
  refine lv_iconst (v := 3) hx hb dX4_init_65 (by decide) ?_
  refine lv_iconst (v := 3) hx hb dX4_init_66 (by decide) ?_
  refine r_iast C0 Z (i0 := 1) (N := 4) rfl (i := 3) (x := 3) in_3_4 dX4_init_67 (fun H locs Z => ?_)
  replace Z : Zr G s (eO a 4 (.ref q8 :: .ref q17 :: .ref q26 :: .ref q35 :: .ref q42 :: .null :: .null :: .null :: .int 0 :: .int 0 :: .int 0 :: .int 0 :: .null :: .int 0 :: .int 0 :: .int 0 :: .int 0 :: .int 0 :: .int 0 :: .int 0 :: .int 0 :: .long 0 :: .null :: .int 0 :: .int 0 :: .int 0 :: .int 0 :: .int 0 :: .int 0 :: .int 0 :: .int 0 :: .int 0 :: .null :: .int 0 :: []) :: eA (gcA G 0) q49 4 (upd (upd (upd (upd (fun _ => 0) (ix 0) 5) (ix 1) 10) (ix 2) 4) (ix 3) 3) :: eA (gcA G 2) q42 2 (fun _ => 0) :: eA (gcA G 0) q35 948 (fun _ => 0) :: eA (gcA G 0) q26 474 (fun _ => 0) :: eA (gcA G 0) q17 474 (fun _ => 0) :: eA (gcA G 0) q8 474 (fun _ => 0) :: Y) H locs := Z
  refine r_putF C0 hin2 Z in_X4 tyX4_ok nmX4 rfl 5 (by decide) rfl rfl rfl tm_4_208 (x := .ref q49) rfl rfl (Nat.le_of_ble_eq_true rfl) dX4_init_68 (fun H locs Z => ?_)
  replace Z : Zr G s (eO a 4 (.ref q8 :: .ref q17 :: .ref q26 :: .ref q35 :: .ref q42 :: .ref q49 :: .null :: .null :: .int 0 :: .int 0 :: .int 0 :: .int 0 :: .null :: .int 0 :: .int 0 :: .int 0 :: .int 0 :: .int 0 :: .int 0 :: .int 0 :: .int 0 :: .long 0 :: .null :: .int 0 :: .int 0 :: .int 0 :: .int 0 :: .int 0 :: .int 0 :: .int 0 :: .int 0 :: .int 0 :: .null :: .int 0 :: []) :: eA (gcA G 0) q49 4 (upd (upd (upd (upd (fun _ => 0) (ix 0) 5) (ix 1) 10) (ix 2) 4) (ix 3) 3) :: eA (gcA G 2) q42 2 (fun _ => 0) :: eA (gcA G 0) q35 948 (fun _ => 0) :: eA (gcA G 0) q26 474 (fun _ => 0) :: eA (gcA G 0) q17 474 (fun _ => 0) :: eA (gcA G 0) q8 474 (fun _ => 0) :: Y) H locs := Z
  refine lv_aload_n hx hb dX4_init_71 rfl (lv_at hl 0 rfl) ?_
  refine lv_iconst (v := 4) hx hb dX4_init_72 (by decide) ?_
  refine r_newa (X := [eO a 4 (.ref q8 :: .ref q17 :: .ref q26 :: .ref q35 :: .ref q42 :: .ref q49 :: .null :: .null :: .int 0 :: .int 0 :: .int 0 :: .int 0 :: .null :: .int 0 :: .int 0 :: .int 0 :: .int 0 :: .int 0 :: .int 0 :: .int 0 :: .int 0 :: .long 0 :: .null :: .int 0 :: .int 0 :: .int 0 :: .int 0 :: .int 0 :: .int 0 :: .int 0 :: .int 0 :: .int 0 :: .null :: .int 0 :: [])]) (Y := eA (gcA G 0) q49 4 (upd (upd (upd (upd (fun _ => 0) (ix 0) 5) (ix 1) 10) (ix 2) 4) (ix 3) 3) :: eA (gcA G 2) q42 2 (fun _ => 0) :: eA (gcA G 0) q35 948 (fun _ => 0) :: eA (gcA G 0) q26 474 (fun _ => 0) :: eA (gcA G 0) q17 474 (fun _ => 0) :: eA (gcA G 0) q8 474 (fun _ => 0) :: Y) (ty := .int) (t0 := 0) (atype := .int) (N' := 4) (a0 := (4, .inl (fun _ => 0))) C0 Z rfl tm_1_98 rfl (fun _ => rfl) (by decide) (by decide) (Nat.le_of_ble_eq_true rfl) (Nat.le_of_ble_eq_true rfl) (Nat.le_of_ble_eq_true rfl) dX4_init_73 (fun q73 H Z => ?_)
  replace Z : Zr G s (eO a 4 (.ref q8 :: .ref q17 :: .ref q26 :: .ref q35 :: .ref q42 :: .ref q49 :: .null :: .null :: .int 0 :: .int 0 :: .int 0 :: .int 0 :: .null :: .int 0 :: .int 0 :: .int 0 :: .int 0 :: .int 0 :: .int 0 :: .int 0 :: .int 0 :: .long 0 :: .null :: .int 0 :: .int 0 :: .int 0 :: .int 0 :: .int 0 :: .int 0 :: .int 0 :: .int 0 :: .int 0 :: .null :: .int 0 :: []) :: eA (gcA G 0) q73 4 (fun _ => 0) :: eA (gcA G 0) q49 4 (upd (upd (upd (upd (fun _ => 0) (ix 0) 5) (ix 1) 10) (ix 2) 4) (ix 3) 3) :: eA (gcA G 2) q42 2 (fun _ => 0) :: eA (gcA G 0) q35 948 (fun _ => 0) :: eA (gcA G 0) q26 474 (fun _ => 0) :: eA (gcA G 0) q17 474 (fun _ => 0) :: eA (gcA G 0) q8 474 (fun _ => 0) :: Y) H locs := Z
  refine W.widen (k := 7) (n := 2380) (Nat.le_of_ble_eq_true rfl) (Nat.le_of_ble_eq_true rfl) ?_
  refine lv_dup hx hb dX4_init_75 rfl ?_
  refine lv_iconst (v := 0) hx hb dX4_init_76 (by decide) ?_
  refine lv_iconst (v := 0) hx hb dX4_init_77 (by decide) ?_
  refine r_iast C0 Z (i0 := 1) (N := 4) rfl (i := 0) (x := 0) in_0_4 dX4_init_78 (fun H locs Z => ?_)
  replace Z : Zr G s (eO a 4 (.ref q8 :: .ref q17 :: .ref q26 :: .ref q35 :: .ref q42 :: .ref q49 :: .null :: .null :: .int 0 :: .int 0 :: .int 0 :: .int 0 :: .null :: .int 0 :: .int 0 :: .int 0 :: .int 0 :: .int 0 :: .int 0 :: .int 0 :: .int 0 :: .long 0 :: .null :: .int 0 :: .int 0 :: .int 0 :: .int 0 :: .int 0 :: .int 0 :: .int 0 :: .int 0 :: .int 0 :: .null :: .int 0 :: []) :: eA (gcA G 0) q73 4 (upd (fun _ => 0) (ix 0) 0) :: eA (gcA G 0) q49 4 (upd (upd (upd (upd (fun _ => 0) (ix 0) 5) (ix 1) 10) (ix 2) 4) (ix 3) 3) :: eA (gcA G 2) q42 2 (fun _ => 0) :: eA (gcA G 0) q35 948 (fun _ => 0) :: eA (gcA G 0) q26 474 (fun _ => 0) :: eA (gcA G 0) q17 474 (fun _ => 0) :: eA (gcA G 0) q8 474 (fun _ => 0) :: Y) H locs := Z
  refine lv_dup hx hb dX4_init_79 rfl ?_
  refine lv_iconst (v := 1) hx hb dX4_init_80 (by decide) ?_
  refine lv_iconst (v := 0) hx hb dX4_init_81 (by decide) ?_
  refine r_iast C0 Z (i0 := 1) (N := 4) rfl (i := 1) (x := 0) in_1_4 dX4_init_82 (fun H locs Z => ?_)
  replace Z : Zr G s (eO a 4 (.ref q8 :: .ref q17 :: .ref q26 :: .ref q35 :: .ref q42 :: .ref q49 :: .null :: .null :: .int 0 :: .int 0 :: .int 0 :: .int 0 :: .null :: .int 0 :: .int 0 :: .int 0 :: .int 0 :: .int 0 :: .int 0 :: .int 0 :: .int 0 :: .long 0 :: .null :: .int 0 :: .int 0 :: .int 0 :: .int 0 :: .int 0 :: .int 0 :: .int 0 :: .int 0 :: .int 0 :: .null :: .int 0 :: []) :: eA (gcA G 0) q73 4 (upd (upd (fun _ => 0) (ix 0) 0) (ix 1) 0) :: eA (gcA G 0) q49 4 (upd (upd (upd (upd (fun _ => 0) (ix 0) 5) (ix 1) 10) (ix 2) 4) (ix 3) 3) :: eA (gcA G 2) q42 2 (fun _ => 0) :: eA (gcA G 0) q35 948 (fun _ => 0) :: eA (gcA G 0) q26 474 (fun _ => 0) :: eA (gcA G 0) q17 474 (fun _ => 0) :: eA (gcA G 0) q8 474 (fun _ => 0) :: Y) H locs := Z
  refine lv_dup hx hb dX4_init_83 rfl ?_
  refine lv_iconst (v := 2) hx hb dX4_init_84 (by decide) ?_
  refine lv_iconst (v := 1) hx hb dX4_init_85 (by decide) ?_
  refine r_iast C0 Z (i0 := 1) (N := 4) rfl (i := 2) (x := 1) in_2_4 dX4_init_86 (fun H locs Z => ?_)
  replace Z : Zr G s (eO a 4 (.ref q8 :: .ref q17 :: .ref q26 :: .ref q35 :: .ref q42 :: .ref q49 :: .null :: .null :: .int 0 :: .int 0 :: .int 0 :: .int 0 :: .null :: .int 0 :: .int 0 :: .int 0 :: .int 0 :: .int 0 :: .int 0 :: .int 0 :: .int 0 :: .long 0 :: .null :: .int 0 :: .int 0 :: .int 0 :: .int 0 :: .int 0 :: .int 0 :: .int 0 :: .int 0 :: .int 0 :: .null :: .int 0 :: []) :: eA (gcA G 0) q73 4 (upd (upd (upd (fun _ => 0) (ix 0) 0) (ix 1) 0) (ix 2) 1) :: eA (gcA G 0) q49 4 (upd (upd (upd (upd (fun _ => 0) (ix 0) 5) (ix 1) 10) (ix 2) 4) (ix 3) 3) :: eA (gcA G 2) q42 2 (fun _ => 0) :: eA (gcA G 0) q35 948 (fun _ => 0) :: eA (gcA G 0) q26 474 (fun _ => 0) :: eA (gcA G 0) q17 474 (fun _ => 0) :: eA (gcA G 0) q8 474 (fun _ => 0) :: Y) H locs := Z
  refine lv_dup hx hb dX4_init_87 rfl ?_
  refine lv_iconst (v := 3) hx hb dX4_init_88 (by decide) ?_
  refine lv_iconst (v := 1) hx hb dX4_init_89 (by decide) ?_
  refine r_iast C0 Z (i0 := 1) (N := 4) rfl (i := 3) (x := 1) in_3_4 dX4_init_90 (fun H locs Z => ?_)
  replace Z : Zr G s (eO a 4 (.ref q8 :: .ref q17 :: .ref q26 :: .ref q35 :: .ref q42 :: .ref q49 :: .null :: .null :: .int 0 :: .int 0 :: .int 0 :: .int 0 :: .null :: .int 0 :: .int 0 :: .int 0 :: .int 0 :: .int 0 :: .int 0 :: .int 0 :: .int 0 :: .long 0 :: .null :: .int 0 :: .int 0 :: .int 0 :: .int 0 :: .int 0 :: .int 0 :: .int 0 :: .int 0 :: .int 0 :: .null :: .int 0 :: []) :: eA (gcA G 0) q73 4 (upd (upd (upd (upd (fun _ => 0) (ix 0) 0) (ix 1) 0) (ix 2) 1) (ix 3) 1) :: eA (gcA G 0) q49 4 (upd (upd (upd (upd (fun _ => 0) (ix 0) 5) (ix 1) 10) (ix 2) 4) (ix 3) 3) :: eA (gcA G 2) q42 2 (fun _ => 0) :: eA (gcA G 0) q35 948 (fun _ => 0) :: eA (gcA G 0) q26 474 (fun _ => 0) :: eA (gcA G 0) q17 474 (fun _ => 0) :: eA (gcA G 0) q8 474 (fun _ => 0) :: Y) H locs := Z
  refine r_putF C0 hin2 Z in_X4 tyX4_ok nmX4 rfl 6 (by decide) rfl rfl rfl tm_4_209 (x := .ref q73) rfl rfl (Nat.le_of_ble_eq_true rfl) dX4_init_91 (fun H locs Z => ?_)
  replace Z : Zr G s (eO a 4 (.ref q8 :: .ref q17 :: .ref q26 :: .ref q35 :: .ref q42 :: .ref q49 :: .ref q73 :: .null :: .int 0 :: .int 0 :: .int 0 :: .int 0 :: .null :: .int 0 :: .int 0 :: .int 0 :: .int 0 :: .int 0 :: .int 0 :: .int 0 :: .int 0 :: .long 0 :: .null :: .int 0 :: .int 0 :: .int 0 :: .int 0 :: .int 0 :: .int 0 :: .int 0 :: .int 0 :: .int 0 :: .null :: .int 0 :: []) :: eA (gcA G 0) q73 4 (upd (upd (upd (upd (fun _ => 0) (ix 0) 0) (ix 1) 0) (ix 2) 1) (ix 3) 1) :: eA (gcA G 0) q49 4 (upd (upd (upd (upd (fun _ => 0) (ix 0) 5) (ix 1) 10) (ix 2) 4) (ix 3) 3) :: eA (gcA G 2) q42 2 (fun _ => 0) :: eA (gcA G 0) q35 948 (fun _ => 0) :: eA (gcA G 0) q26 474 (fun _ => 0) :: eA (gcA G 0) q17 474 (fun _ => 0) :: eA (gcA G 0) q8 474 (fun _ => 0) :: Y) H locs := Z
  refine lv_aload_n hx hb dX4_init_94 rfl (lv_at hl 0 rfl) ?_
  refine lv_iconst (v := 4) hx hb dX4_init_95 (by decide) ?_
  refine r_newa (X := [eO a 4 (.ref q8 :: .ref q17 :: .ref q26 :: .ref q35 :: .ref q42 :: .ref q49 :: .ref q73 :: .null :: .int 0 :: .int 0 :: .int 0 :: .int 0 :: .null :: .int 0 :: .int 0 :: .int 0 :: .int 0 :: .int 0 :: .int 0 :: .int 0 :: .int 0 :: .long 0 :: .null :: .int 0 :: .int 0 :: .int 0 :: .int 0 :: .int 0 :: .int 0 :: .int 0 :: .int 0 :: .int 0 :: .null :: .int 0 :: [])]) (Y := eA (gcA G 0) q73 4 (upd (upd (upd (upd (fun _ => 0) (ix 0) 0) (ix 1) 0) (ix 2) 1) (ix 3) 1) :: eA (gcA G 0) q49 4 (upd (upd (upd (upd (fun _ => 0) (ix 0) 5) (ix 1) 10) (ix 2) 4) (ix 3) 3) :: eA (gcA G 2) q42 2 (fun _ => 0) :: eA (gcA G 0) q35 948 (fun _ => 0) :: eA (gcA G 0) q26 474 (fun _ => 0) :: eA (gcA G 0) q17 474 (fun _ => 0) :: eA (gcA G 0) q8 474 (fun _ => 0) :: Y) (ty := .int) (t0 := 0) (atype := .int) (N' := 4) (a0 := (4, .inl (fun _ => 0))) C0 Z rfl tm_1_98 rfl (fun _ => rfl) (by decide) (by decide) (Nat.le_of_ble_eq_true rfl) (Nat.le_of_ble_eq_true rfl) (Nat.le_of_ble_eq_true rfl) dX4_init_96 (fun q96 H Z => ?_)
  replace Z : Zr G s (eO a 4 (.ref q8 :: .ref q17 :: .ref q26 :: .ref q35 :: .ref q42 :: .ref q49 :: .ref q73 :: .null :: .int 0 :: .int 0 :: .int 0 :: .int 0 :: .null :: .int 0 :: .int 0 :: .int 0 :: .int 0 :: .int 0 :: .int 0 :: .int 0 :: .int 0 :: .long 0 :: .null :: .int 0 :: .int 0 :: .int 0 :: .int 0 :: .int 0 :: .int 0 :: .int 0 :: .int 0 :: .int 0 :: .null :: .int 0 :: []) :: eA (gcA G 0) q96 4 (fun _ => 0) :: eA (gcA G 0) q73 4 (upd (upd (upd (upd (fun _ => 0) (ix 0) 0) (ix 1) 0) (ix 2) 1) (ix 3) 1) :: eA (gcA G 0) q49 4 (upd (upd (upd (upd (fun _ => 0) (ix 0) 5) (ix 1) 10) (ix 2) 4) (ix 3) 3) :: eA (gcA G 2) q42 2 (fun _ => 0) :: eA (gcA G 0) q35 948 (fun _ => 0) :: eA (gcA G 0) q26 474 (fun _ => 0) :: eA (gcA G 0) q17 474 (fun _ => 0) :: eA (gcA G 0) q8 474 (fun _ => 0) :: Y) H locs := Z
  refine W.widen (k := 8) (n := 2384) (Nat.le_of_ble_eq_true rfl) (Nat.le_of_ble_eq_true rfl) ?_
  refine lv_dup hx hb dX4_init_98 rfl ?_
  refine lv_iconst (v := 0) hx hb dX4_init_99 (by decide) ?_
  refine lv_bipush (v := 50) hx hb dX4_init_100 (by decide) ?_
  refine r_iast C0 Z (i0 := 1) (N := 4) rfl (i := 0) (x := 50) in_0_4 dX4_init_102 (fun H locs Z => ?_)
  replace Z : Zr G s (eO a 4 (.ref q8 :: .ref q17 :: .ref q26 :: .ref q35 :: .ref q42 :: .ref q49 :: .ref q73 :: .null :: .int 0 :: .int 0 :: .int 0 :: .int 0 :: .null :: .int 0 :: .int 0 :: .int 0 :: .int 0 :: .int 0 :: .int 0 :: .int 0 :: .int 0 :: .long 0 :: .null :: .int 0 :: .int 0 :: .int 0 :: .int 0 :: .int 0 :: .int 0 :: .int 0 :: .int 0 :: .int 0 :: .null :: .int 0 :: []) :: eA (gcA G 0) q96 4 (upd (fun _ => 0) (ix 0) 50) :: eA (gcA G 0) q73 4 (upd (upd (upd (upd (fun _ => 0) (ix 0) 0) (ix 1) 0) (ix 2) 1) (ix 3) 1) :: eA (gcA G 0) q49 4 (upd (upd (upd (upd (fun _ => 0) (ix 0) 5) (ix 1) 10) (ix 2) 4) (ix 3) 3) :: eA (gcA G 2) q42 2 (fun _ => 0) :: eA (gcA G 0) q35 948 (fun _ => 0) :: eA (gcA G 0) q26 474 (fun _ => 0) :: eA (gcA G 0) q17 474 (fun _ => 0) :: eA (gcA G 0) q8 474 (fun _ => 0) :: Y) H locs := Z
  refine lv_dup hx hb dX4_init_103 rfl ?_
  refine lv_iconst (v := 1) hx hb dX4_init_104 (by decide) ?_
  refine lv_bipush (v := 99) hx hb dX4_init_105 (by decide) ?_
  refine r_iast C0 Z (i0 := 1) (N := 4) rfl (i := 1) (x := 99) in_1_4 dX4_init_107 (fun H locs Z => ?_)
  replace Z : Zr G s (eO a 4 (.ref q8 :: .ref q17 :: .ref q26 :: .ref q35 :: .ref q42 :: .ref q49 :: .ref q73 :: .null :: .int 0 :: .int 0 :: .int 0 :: .int 0 :: .null :: .int 0 :: .int 0 :: .int 0 :: .int 0 :: .int 0 :: .int 0 :: .int 0 :: .int 0 :: .long 0 :: .null :: .int 0 :: .int 0 :: .int 0 :: .int 0 :: .int 0 :: .int 0 :: .int 0 :: .int 0 :: .int 0 :: .null :: .int 0 :: []) :: eA (gcA G 0) q96 4 (upd (upd (fun _ => 0) (ix 0) 50) (ix 1) 99) :: eA (gcA G 0) q73 4 (upd (upd (upd (upd (fun _ => 0) (ix 0) 0) (ix 1) 0) (ix 2) 1) (ix 3) 1) :: eA (gcA G 0) q49 4 (upd (upd (upd (upd (fun _ => 0) (ix 0) 5) (ix 1) 10) (ix 2) 4) (ix 3) 3) :: eA (gcA G 2) q42 2 (fun _ => 0) :: eA (gcA G 0) q35 948 (fun _ => 0) :: eA (gcA G 0) q26 474 (fun _ => 0) :: eA (gcA G 0) q17 474 (fun _ => 0) :: eA (gcA G 0) q8 474 (fun _ => 0) :: Y) H locs := Z
  refine lv_dup hx hb dX4_init_108 rfl ?_
  refine lv_iconst (v := 2) hx hb dX4_init_109 (by decide) ?_
  refine lv_bipush (v := 9) hx hb dX4_init_110 (by decide) ?_
  refine r_iast C0 Z (i0 := 1) (N := 4) rfl (i := 2) (x := 9) in_2_4 dX4_init_112 (fun H locs Z => ?_)
  replace Z : Zr G s (eO a 4 (.ref q8 :: .ref q17 :: .ref q26 :: .ref q35 :: .ref q42 :: .ref q49 :: .ref q73 :: .null :: .int 0 :: .int 0 :: .int 0 :: .int 0 :: .null :: .int 0 :: .int 0 :: .int 0 :: .int 0 :: .int 0 :: .int 0 :: .int 0 :: .int 0 :: .long 0 :: .null :: .int 0 :: .int 0 :: .int 0 :: .int 0 :: .int 0 :: .int 0 :: .int 0 :: .int 0 :: .int 0 :: .null :: .int 0 :: []) :: eA (gcA G 0) q96 4 (upd (upd (upd (fun _ => 0) (ix 0) 50) (ix 1) 99) (ix 2) 9) :: eA (gcA G 0) q73 4 (upd (upd (upd (upd (fun _ => 0) (ix 0) 0) (ix 1) 0) (ix 2) 1) (ix 3) 1) :: eA (gcA G 0) q49 4 (upd (upd (upd (upd (fun _ => 0) (ix 0) 5) (ix 1) 10) (ix 2) 4) (ix 3) 3) :: eA (gcA G 2) q42 2 (fun _ => 0) :: eA (gcA G 0) q35 948 (fun _ => 0) :: eA (gcA G 0) q26 474 (fun _ => 0) :: eA (gcA G 0) q17 474 (fun _ => 0) :: eA (gcA G 0) q8 474 (fun _ => 0) :: Y) H locs := Z
  refine lv_dup hx hb dX4_init_113 rfl ?_
  refine lv_iconst (v := 3) hx hb dX4_init_114 (by decide) ?_
  refine lv_bipush (v := 9) hx hb dX4_init_115 (by decide) ?_
  refine r_iast C0 Z (i0 := 1) (N := 4) rfl (i := 3) (x := 9) in_3_4 dX4_init_117 (fun H locs Z => ?_)
  replace Z : Zr G s (eO a 4 (.ref q8 :: .ref q17 :: .ref q26 :: .ref q35 :: .ref q42 :: .ref q49 :: .ref q73 :: .null :: .int 0 :: .int 0 :: .int 0 :: .int 0 :: .null :: .int 0 :: .int 0 :: .int 0 :: .int 0 :: .int 0 :: .int 0 :: .int 0 :: .int 0 :: .long 0 :: .null :: .int 0 :: .int 0 :: .int 0 :: .int 0 :: .int 0 :: .int 0 :: .int 0 :: .int 0 :: .int 0 :: .null :: .int 0 :: []) :: eA (gcA G 0) q96 4 (upd (upd (upd (upd (fun _ => 0) (ix 0) 50) (ix 1) 99) (ix 2) 9) (ix 3) 9) :: eA (gcA G 0) q73 4 (upd (upd (upd (upd (fun _ => 0) (ix 0) 0) (ix 1) 0) (ix 2) 1) (ix 3) 1) :: eA (gcA G 0) q49 4 (upd (upd (upd (upd (fun _ => 0) (ix 0) 5) (ix 1) 10) (ix 2) 4) (ix 3) 3) :: eA (gcA G 2) q42 2 (fun _ => 0) :: eA (gcA G 0) q35 948 (fun _ => 0) :: eA (gcA G 0) q26 474 (fun _ => 0) :: eA (gcA G 0) q17 474 (fun _ => 0) :: eA (gcA G 0) q8 474 (fun _ => 0) :: Y) H locs := Z
  refine r_putF C0 hin2 Z in_X4 tyX4_ok nmX4 rfl 7 (by decide) rfl rfl rfl tm_4_210 (x := .ref q96) rfl rfl (Nat.le_of_ble_eq_true rfl) dX4_init_118 (fun H locs Z => ?_)
  replace Z : Zr G s (eO a 4 (.ref q8 :: .ref q17 :: .ref q26 :: .ref q35 :: .ref q42 :: .ref q49 :: .ref q73 :: .ref q96 :: .int 0 :: .int 0 :: .int 0 :: .int 0 :: .null :: .int 0 :: .int 0 :: .int 0 :: .int 0 :: .int 0 :: .int 0 :: .int 0 :: .int 0 :: .long 0 :: .null :: .int 0 :: .int 0 :: .int 0 :: .int 0 :: .int 0 :: .int 0 :: .int 0 :: .int 0 :: .int 0 :: .null :: .int 0 :: []) :: eA (gcA G 0) q96 4 (upd (upd (upd (upd (fun _ => 0) (ix 0) 50) (ix 1) 99) (ix 2) 9) (ix 3) 9) :: eA (gcA G 0) q73 4 (upd (upd (upd (upd (fun _ => 0) (ix 0) 0) (ix 1) 0) (ix 2) 1) (ix 3) 1) :: eA (gcA G 0) q49 4 (upd (upd (upd (upd (fun _ => 0) (ix 0) 5) (ix 1) 10) (ix 2) 4) (ix 3) 3) :: eA (gcA G 2) q42 2 (fun _ => 0) :: eA (gcA G 0) q35 948 (fun _ => 0) :: eA (gcA G 0) q26 474 (fun _ => 0) :: eA (gcA G 0) q17 474 (fun _ => 0) :: eA (gcA G 0) q8 474 (fun _ => 0) :: Y) H locs := Z
  refine lv_aload_n hx hb dX4_init_121 rfl (lv_at hl 0 rfl) ?_
  refine lv_sipush (v := 800) hx hb dX4_init_122 (by decide) ?_
  refine r_newa (X := [eO a 4 (.ref q8 :: .ref q17 :: .ref q26 :: .ref q35 :: .ref q42 :: .ref q49 :: .ref q73 :: .ref q96 :: .int 0 :: .int 0 :: .int 0 :: .int 0 :: .null :: .int 0 :: .int 0 :: .int 0 :: .int 0 :: .int 0 :: .int 0 :: .int 0 :: .int 0 :: .long 0 :: .null :: .int 0 :: .int 0 :: .int 0 :: .int 0 :: .int 0 :: .int 0 :: .int 0 :: .int 0 :: .int 0 :: .null :: .int 0 :: [])]) (Y := eA (gcA G 0) q96 4 (upd (upd (upd (upd (fun _ => 0) (ix 0) 50) (ix 1) 99) (ix 2) 9) (ix 3) 9) :: eA (gcA G 0) q73 4 (upd (upd (upd (upd (fun _ => 0) (ix 0) 0) (ix 1) 0) (ix 2) 1) (ix 3) 1) :: eA (gcA G 0) q49 4 (upd (upd (upd (upd (fun _ => 0) (ix 0) 5) (ix 1) 10) (ix 2) 4) (ix 3) 3) :: eA (gcA G 2) q42 2 (fun _ => 0) :: eA (gcA G 0) q35 948 (fun _ => 0) :: eA (gcA G 0) q26 474 (fun _ => 0) :: eA (gcA G 0) q17 474 (fun _ => 0) :: eA (gcA G 0) q8 474 (fun _ => 0) :: Y) (ty := .int) (t0 := 0) (atype := .int) (N' := 800) (a0 := (800, .inl (fun _ => 0))) C0 Z rfl tm_1_98 rfl (fun _ => rfl) (by decide) (by decide) (Nat.le_of_ble_eq_true rfl) (Nat.le_of_ble_eq_true rfl) (Nat.le_of_ble_eq_true rfl) dX4_init_125 (fun q125 H Z => ?_)
  replace Z : Zr G s (eO a 4 (.ref q8 :: .ref q17 :: .ref q26 :: .ref q35 :: .ref q42 :: .ref q49 :: .ref q73 :: .ref q96 :: .int 0 :: .int 0 :: .int 0 :: .int 0 :: .null :: .int 0 :: .int 0 :: .int 0 :: .int 0 :: .int 0 :: .int 0 :: .int 0 :: .int 0 :: .long 0 :: .null :: .int 0 :: .int 0 :: .int 0 :: .int 0 :: .int 0 :: .int 0 :: .int 0 :: .int 0 :: .int 0 :: .null :: .int 0 :: []) :: eA (gcA G 0) q125 800 (fun _ => 0) :: eA (gcA G 0) q96 4 (upd (upd (upd (upd (fun _ => 0) (ix 0) 50) (ix 1) 99) (ix 2) 9) (ix 3) 9) :: eA (gcA G 0) q73 4 (upd (upd (upd (upd (fun _ => 0) (ix 0) 0) (ix 1) 0) (ix 2) 1) (ix 3) 1) :: eA (gcA G 0) q49 4 (upd (upd (upd (upd (fun _ => 0) (ix 0) 5) (ix 1) 10) (ix 2) 4) (ix 3) 3) :: eA (gcA G 2) q42 2 (fun _ => 0) :: eA (gcA G 0) q35 948 (fun _ => 0) :: eA (gcA G 0) q26 474 (fun _ => 0) :: eA (gcA G 0) q17 474 (fun _ => 0) :: eA (gcA G 0) q8 474 (fun _ => 0) :: Y) H locs := Z
  refine W.widen (k := 9) (n := 3184) (Nat.le_of_ble_eq_true rfl) (Nat.le_of_ble_eq_true rfl) ?_
  refine r_putF C0 hin2 Z in_X4 tyX4_ok nmX4 rfl 12 (by decide) rfl rfl rfl tm_4_215 (x := .ref q125) rfl rfl (Nat.le_of_ble_eq_true rfl) dX4_init_127 (fun H locs Z => ?_)
  replace Z : Zr G s (eO a 4 (.ref q8 :: .ref q17 :: .ref q26 :: .ref q35 :: .ref q42 :: .ref q49 :: .ref q73 :: .ref q96 :: .int 0 :: .int 0 :: .int 0 :: .int 0 :: .ref q125 :: .int 0 :: .int 0 :: .int 0 :: .int 0 :: .int 0 :: .int 0 :: .int 0 :: .int 0 :: .long 0 :: .null :: .int 0 :: .int 0 :: .int 0 :: .int 0 :: .int 0 :: .int 0 :: .int 0 :: .int 0 :: .int 0 :: .null :: .int 0 :: []) :: eA (gcA G 0) q125 800 (fun _ => 0) :: eA (gcA G 0) q96 4 (upd (upd (upd (upd (fun _ => 0) (ix 0) 50) (ix 1) 99) (ix 2) 9) (ix 3) 9) :: eA (gcA G 0) q73 4 (upd (upd (upd (upd (fun _ => 0) (ix 0) 0) (ix 1) 0) (ix 2) 1) (ix 3) 1) :: eA (gcA G 0) q49 4 (upd (upd (upd (upd (fun _ => 0) (ix 0) 5) (ix 1) 10) (ix 2) 4) (ix 3) 3) :: eA (gcA G 2) q42 2 (fun _ => 0) :: eA (gcA G 0) q35 948 (fun _ => 0) :: eA (gcA G 0) q26 474 (fun _ => 0) :: eA (gcA G 0) q17 474 (fun _ => 0) :: eA (gcA G 0) q8 474 (fun _ => 0) :: Y) H locs := Z
  refine lv_aload_n hx hb dX4_init_130 rfl (lv_at hl 0 rfl) ?_
  refine lv_iconst (v := (-1)) hx hb dX4_init_131 (by decide) ?_
  refine r_put C0 Z in_X4 tyX4_ok nmX4 rfl 20 (by decide) rfl rfl tm_4_223 (x := .int (-1)) rfl rfl (Nat.le_of_ble_eq_true rfl) dX4_init_132 (fun H locs Z => ?_)
  replace Z : Zr G s (eO a 4 (.ref q8 :: .ref q17 :: .ref q26 :: .ref q35 :: .ref q42 :: .ref q49 :: .ref q73 :: .ref q96 :: .int 0 :: .int 0 :: .int 0 :: .int 0 :: .ref q125 :: .int 0 :: .int 0 :: .int 0 :: .int 0 :: .int 0 :: .int 0 :: .int 0 :: .int (-1) :: .long 0 :: .null :: .int 0 :: .int 0 :: .int 0 :: .int 0 :: .int 0 :: .int 0 :: .int 0 :: .int 0 :: .int 0 :: .null :: .int 0 :: []) :: eA (gcA G 0) q125 800 (fun _ => 0) :: eA (gcA G 0) q96 4 (upd (upd (upd (upd (fun _ => 0) (ix 0) 50) (ix 1) 99) (ix 2) 9) (ix 3) 9) :: eA (gcA G 0) q73 4 (upd (upd (upd (upd (fun _ => 0) (ix 0) 0) (ix 1) 0) (ix 2) 1) (ix 3) 1) :: eA (gcA G 0) q49 4 (upd (upd (upd (upd (fun _ => 0) (ix 0) 5) (ix 1) 10) (ix 2) 4) (ix 3) 3) :: eA (gcA G 2) q42 2 (fun _ => 0) :: eA (gcA G 0) q35 948 (fun _ => 0) :: eA (gcA G 0) q26 474 (fun _ => 0) :: eA (gcA G 0) q17 474 (fun _ => 0) :: eA (gcA G 0) q8 474 (fun _ => 0) :: Y) H locs := Z
  refine lv_aload_n hx hb dX4_init_135 rfl (lv_at hl 0 rfl) ?_
  refine lv_bipush (v := 40) hx hb dX4_init_136 (by decide) ?_
  refine r_newa (X := [eO a 4 (.ref q8 :: .ref q17 :: .ref q26 :: .ref q35 :: .ref q42 :: .ref q49 :: .ref q73 :: .ref q96 :: .int 0 :: .int 0 :: .int 0 :: .int 0 :: .ref q125 :: .int 0 :: .int 0 :: .int 0 :: .int 0 :: .int 0 :: .int 0 :: .int 0 :: .int (-1) :: .long 0 :: .null :: .int 0 :: .int 0 :: .int 0 :: .int 0 :: .int 0 :: .int 0 :: .int 0 :: .int 0 :: .int 0 :: .null :: .int 0 :: [])]) (Y := eA (gcA G 0) q125 800 (fun _ => 0) :: eA (gcA G 0) q96 4 (upd (upd (upd (upd (fun _ => 0) (ix 0) 50) (ix 1) 99) (ix 2) 9) (ix 3) 9) :: eA (gcA G 0) q73 4 (upd (upd (upd (upd (fun _ => 0) (ix 0) 0) (ix 1) 0) (ix 2) 1) (ix 3) 1) :: eA (gcA G 0) q49 4 (upd (upd (upd (upd (fun _ => 0) (ix 0) 5) (ix 1) 10) (ix 2) 4) (ix 3) 3) :: eA (gcA G 2) q42 2 (fun _ => 0) :: eA (gcA G 0) q35 948 (fun _ => 0) :: eA (gcA G 0) q26 474 (fun _ => 0) :: eA (gcA G 0) q17 474 (fun _ => 0) :: eA (gcA G 0) q8 474 (fun _ => 0) :: Y) (ty := .int) (t0 := 0) (atype := .int) (N' := 40) (a0 := (40, .inl (fun _ => 0))) C0 Z rfl tm_1_98 rfl (fun _ => rfl) (by decide) (by decide) (Nat.le_of_ble_eq_true rfl) (Nat.le_of_ble_eq_true rfl) (Nat.le_of_ble_eq_true rfl) dX4_init_138 (fun q138 H Z => ?_)
  replace Z : Zr G s (eO a 4 (.ref q8 :: .ref q17 :: .ref q26 :: .ref q35 :: .ref q42 :: .ref q49 :: .ref q73 :: .ref q96 :: .int 0 :: .int 0 :: .int 0 :: .int 0 :: .ref q125 :: .int 0 :: .int 0 :: .int 0 :: .int 0 :: .int 0 :: .int 0 :: .int 0 :: .int (-1) :: .long 0 :: .null :: .int 0 :: .int 0 :: .int 0 :: .int 0 :: .int 0 :: .int 0 :: .int 0 :: .int 0 :: .int 0 :: .null :: .int 0 :: []) :: eA (gcA G 0) q138 40 (fun _ => 0) :: eA (gcA G 0) q125 800 (fun _ => 0) :: eA (gcA G 0) q96 4 (upd (upd (upd (upd (fun _ => 0) (ix 0) 50) (ix 1) 99) (ix 2) 9) (ix 3) 9) :: eA (gcA G 0) q73 4 (upd (upd (upd (upd (fun _ => 0) (ix 0) 0) (ix 1) 0) (ix 2) 1) (ix 3) 1) :: eA (gcA G 0) q49 4 (upd (upd (upd (upd (fun _ => 0) (ix 0) 5) (ix 1) 10) (ix 2) 4) (ix 3) 3) :: eA (gcA G 2) q42 2 (fun _ => 0) :: eA (gcA G 0) q35 948 (fun _ => 0) :: eA (gcA G 0) q26 474 (fun _ => 0) :: eA (gcA G 0) q17 474 (fun _ => 0) :: eA (gcA G 0) q8 474 (fun _ => 0) :: Y) H locs := Z
  refine W.widen (k := 10) (n := 3224) (Nat.le_of_ble_eq_true rfl) (Nat.le_of_ble_eq_true rfl) ?_
  refine r_putF C0 hin2 Z in_X4 tyX4_ok nmX4 rfl 22 (by decide) rfl rfl rfl tm_4_225 (x := .ref q138) rfl rfl (Nat.le_of_ble_eq_true rfl) dX4_init_140 (fun H locs Z => ?_)
  replace Z : Zr G s (eO a 4 (.ref q8 :: .ref q17 :: .ref q26 :: .ref q35 :: .ref q42 :: .ref q49 :: .ref q73 :: .ref q96 :: .int 0 :: .int 0 :: .int 0 :: .int 0 :: .ref q125 :: .int 0 :: .int 0 :: .int 0 :: .int 0 :: .int 0 :: .int 0 :: .int 0 :: .int (-1) :: .long 0 :: .ref q138 :: .int 0 :: .int 0 :: .int 0 :: .int 0 :: .int 0 :: .int 0 :: .int 0 :: .int 0 :: .int 0 :: .null :: .int 0 :: []) :: eA (gcA G 0) q138 40 (fun _ => 0) :: eA (gcA G 0) q125 800 (fun _ => 0) :: eA (gcA G 0) q96 4 (upd (upd (upd (upd (fun _ => 0) (ix 0) 50) (ix 1) 99) (ix 2) 9) (ix 3) 9) :: eA (gcA G 0) q73 4 (upd (upd (upd (upd (fun _ => 0) (ix 0) 0) (ix 1) 0) (ix 2) 1) (ix 3) 1) :: eA (gcA G 0) q49 4 (upd (upd (upd (upd (fun _ => 0) (ix 0) 5) (ix 1) 10) (ix 2) 4) (ix 3) 3) :: eA (gcA G 2) q42 2 (fun _ => 0) :: eA (gcA G 0) q35 948 (fun _ => 0) :: eA (gcA G 0) q26 474 (fun _ => 0) :: eA (gcA G 0) q17 474 (fun _ => 0) :: eA (gcA G 0) q8 474 (fun _ => 0) :: Y) H locs := Z
  refine lv_aload_n hx hb dX4_init_143 rfl (lv_at hl 0 rfl) ?_
  refine lv_bipush (v := 64) hx hb dX4_init_144 (by decide) ?_
  refine r_newa (X := [eO a 4 (.ref q8 :: .ref q17 :: .ref q26 :: .ref q35 :: .ref q42 :: .ref q49 :: .ref q73 :: .ref q96 :: .int 0 :: .int 0 :: .int 0 :: .int 0 :: .ref q125 :: .int 0 :: .int 0 :: .int 0 :: .int 0 :: .int 0 :: .int 0 :: .int 0 :: .int (-1) :: .long 0 :: .ref q138 :: .int 0 :: .int 0 :: .int 0 :: .int 0 :: .int 0 :: .int 0 :: .int 0 :: .int 0 :: .int 0 :: .null :: .int 0 :: [])]) (Y := eA (gcA G 0) q138 40 (fun _ => 0) :: eA (gcA G 0) q125 800 (fun _ => 0) :: eA (gcA G 0) q96 4 (upd (upd (upd (upd (fun _ => 0) (ix 0) 50) (ix 1) 99) (ix 2) 9) (ix 3) 9) :: eA (gcA G 0) q73 4 (upd (upd (upd (upd (fun _ => 0) (ix 0) 0) (ix 1) 0) (ix 2) 1) (ix 3) 1) :: eA (gcA G 0) q49 4 (upd (upd (upd (upd (fun _ => 0) (ix 0) 5) (ix 1) 10) (ix 2) 4) (ix 3) 3) :: eA (gcA G 2) q42 2 (fun _ => 0) :: eA (gcA G 0) q35 948 (fun _ => 0) :: eA (gcA G 0) q26 474 (fun _ => 0) :: eA (gcA G 0) q17 474 (fun _ => 0) :: eA (gcA G 0) q8 474 (fun _ => 0) :: Y) (ty := .int) (t0 := 0) (atype := .int) (N' := 64) (a0 := (64, .inl (fun _ => 0))) C0 Z rfl tm_1_98 rfl (fun _ => rfl) (by decide) (by decide) (Nat.le_of_ble_eq_true rfl) (Nat.le_of_ble_eq_true rfl) (Nat.le_of_ble_eq_true rfl) dX4_init_146 (fun q146 H Z => ?_)
  replace Z : Zr G s (eO a 4 (.ref q8 :: .ref q17 :: .ref q26 :: .ref q35 :: .ref q42 :: .ref q49 :: .ref q73 :: .ref q96 :: .int 0 :: .int 0 :: .int 0 :: .int 0 :: .ref q125 :: .int 0 :: .int 0 :: .int 0 :: .int 0 :: .int 0 :: .int 0 :: .int 0 :: .int (-1) :: .long 0 :: .ref q138 :: .int 0 :: .int 0 :: .int 0 :: .int 0 :: .int 0 :: .int 0 :: .int 0 :: .int 0 :: .int 0 :: .null :: .int 0 :: []) :: eA (gcA G 0) q146 64 (fun _ => 0) :: eA (gcA G 0) q138 40 (fun _ => 0) :: eA (gcA G 0) q125 800 (fun _ => 0) :: eA (gcA G 0) q96 4 (upd (upd (upd (upd (fun _ => 0) (ix 0) 50) (ix 1) 99) (ix 2) 9) (ix 3) 9) :: eA (gcA G 0) q73 4 (upd (upd (upd (upd (fun _ => 0) (ix 0) 0) (ix 1) 0) (ix 2) 1) (ix 3) 1) :: eA (gcA G 0) q49 4 (upd (upd (upd (upd (fun _ => 0) (ix 0) 5) (ix 1) 10) (ix 2) 4) (ix 3) 3) :: eA (gcA G 2) q42 2 (fun _ => 0) :: eA (gcA G 0) q35 948 (fun _ => 0) :: eA (gcA G 0) q26 474 (fun _ => 0) :: eA (gcA G 0) q17 474 (fun _ => 0) :: eA (gcA G 0) q8 474 (fun _ => 0) :: Y) H locs := Z
  refine W.widen (k := 11) (n := 3288) (Nat.le_of_ble_eq_true rfl) (Nat.le_of_ble_eq_true rfl) ?_
  refine r_putF C0 hin2 Z in_X4 tyX4_ok nmX4 rfl 32 (by decide) rfl rfl rfl tm_4_235 (x := .ref q146) rfl rfl (Nat.le_of_ble_eq_true rfl) dX4_init_148 (fun H locs Z => ?_)
  replace Z : Zr G s (eO a 4 (.ref q8 :: .ref q17 :: .ref q26 :: .ref q35 :: .ref q42 :: .ref q49 :: .ref q73 :: .ref q96 :: .int 0 :: .int 0 :: .int 0 :: .int 0 :: .ref q125 :: .int 0 :: .int 0 :: .int 0 :: .int 0 :: .int 0 :: .int 0 :: .int 0 :: .int (-1) :: .long 0 :: .ref q138 :: .int 0 :: .int 0 :: .int 0 :: .int 0 :: .int 0 :: .int 0 :: .int 0 :: .int 0 :: .int 0 :: .ref q146 :: .int 0 :: []) :: eA (gcA G 0) q146 64 (fun _ => 0) :: eA (gcA G 0) q138 40 (fun _ => 0) :: eA (gcA G 0) q125 800 (fun _ => 0) :: eA (gcA G 0) q96 4 (upd (upd (upd (upd (fun _ => 0) (ix 0) 50) (ix 1) 99) (ix 2) 9) (ix 3) 9) :: eA (gcA G 0) q73 4 (upd (upd (upd (upd (fun _ => 0) (ix 0) 0) (ix 1) 0) (ix 2) 1) (ix 3) 1) :: eA (gcA G 0) q49 4 (upd (upd (upd (upd (fun _ => 0) (ix 0) 5) (ix 1) 10) (ix 2) 4) (ix 3) 3) :: eA (gcA G 2) q42 2 (fun _ => 0) :: eA (gcA G 0) q35 948 (fun _ => 0) :: eA (gcA G 0) q26 474 (fun _ => 0) :: eA (gcA G 0) q17 474 (fun _ => 0) :: eA (gcA G 0) q8 474 (fun _ => 0) :: Y) H locs := Z
  replace Z : Zr G s (eA (gcA G 0) q49 4 (upd (upd (upd (upd (fun _ => 0) (ix 0) 5) (ix 1) 10) (ix 2) 4) (ix 3) 3) :: eO a 4 (.ref q8 :: .ref q17 :: .ref q26 :: .ref q35 :: .ref q42 :: .ref q49 :: .ref q73 :: .ref q96 :: .int 0 :: .int 0 :: .int 0 :: .int 0 :: .ref q125 :: .int 0 :: .int 0 :: .int 0 :: .int 0 :: .int 0 :: .int 0 :: .int 0 :: .int (-1) :: .long 0 :: .ref q138 :: .int 0 :: .int 0 :: .int 0 :: .int 0 :: .int 0 :: .int 0 :: .int 0 :: .int 0 :: .int 0 :: .ref q146 :: .int 0 :: []) :: eA (gcA G 0) q146 64 (fun _ => 0) :: eA (gcA G 0) q138 40 (fun _ => 0) :: eA (gcA G 0) q125 800 (fun _ => 0) :: eA (gcA G 0) q96 4 (upd (upd (upd (upd (fun _ => 0) (ix 0) 50) (ix 1) 99) (ix 2) 9) (ix 3) 9) :: eA (gcA G 0) q73 4 (upd (upd (upd (upd (fun _ => 0) (ix 0) 0) (ix 1) 0) (ix 2) 1) (ix 3) 1) :: eA (gcA G 2) q42 2 (fun _ => 0) :: eA (gcA G 0) q35 948 (fun _ => 0) :: eA (gcA G 0) q26 474 (fun _ => 0) :: eA (gcA G 0) q17 474 (fun _ => 0) :: eA (gcA G 0) q8 474 (fun _ => 0) :: Y) H locs := Z.front (X := [eO a 4 (.ref q8 :: .ref q17 :: .ref q26 :: .ref q35 :: .ref q42 :: .ref q49 :: .ref q73 :: .ref q96 :: .int 0 :: .int 0 :: .int 0 :: .int 0 :: .ref q125 :: .int 0 :: .int 0 :: .int 0 :: .int 0 :: .int 0 :: .int 0 :: .int 0 :: .int (-1) :: .long 0 :: .ref q138 :: .int 0 :: .int 0 :: .int 0 :: .int 0 :: .int 0 :: .int 0 :: .int 0 :: .int 0 :: .int 0 :: .ref q146 :: .int 0 :: []), eA (gcA G 0) q146 64 (fun _ => 0), eA (gcA G 0) q138 40 (fun _ => 0), eA (gcA G 0) q125 800 (fun _ => 0), eA (gcA G 0) q96 4 (upd (upd (upd (upd (fun _ => 0) (ix 0) 50) (ix 1) 99) (ix 2) 9) (ix 3) 9), eA (gcA G 0) q73 4 (upd (upd (upd (upd (fun _ => 0) (ix 0) 0) (ix 1) 0) (ix 2) 1) (ix 3) 1)])
  replace Z : Zr G s (eA (gcA G 0) q8 474 (fun _ => 0) :: eA (gcA G 0) q49 4 (upd (upd (upd (upd (fun _ => 0) (ix 0) 5) (ix 1) 10) (ix 2) 4) (ix 3) 3) :: eO a 4 (.ref q8 :: .ref q17 :: .ref q26 :: .ref q35 :: .ref q42 :: .ref q49 :: .ref q73 :: .ref q96 :: .int 0 :: .int 0 :: .int 0 :: .int 0 :: .ref q125 :: .int 0 :: .int 0 :: .int 0 :: .int 0 :: .int 0 :: .int 0 :: .int 0 :: .int (-1) :: .long 0 :: .ref q138 :: .int 0 :: .int 0 :: .int 0 :: .int 0 :: .int 0 :: .int 0 :: .int 0 :: .int 0 :: .int 0 :: .ref q146 :: .int 0 :: []) :: eA (gcA G 0) q146 64 (fun _ => 0) :: eA (gcA G 0) q138 40 (fun _ => 0) :: eA (gcA G 0) q125 800 (fun _ => 0) :: eA (gcA G 0) q96 4 (upd (upd (upd (upd (fun _ => 0) (ix 0) 50) (ix 1) 99) (ix 2) 9) (ix 3) 9) :: eA (gcA G 0) q73 4 (upd (upd (upd (upd (fun _ => 0) (ix 0) 0) (ix 1) 0) (ix 2) 1) (ix 3) 1) :: eA (gcA G 2) q42 2 (fun _ => 0) :: eA (gcA G 0) q35 948 (fun _ => 0) :: eA (gcA G 0) q26 474 (fun _ => 0) :: eA (gcA G 0) q17 474 (fun _ => 0) :: Y) H locs := Z.front (X := [eA (gcA G 0) q49 4 (upd (upd (upd (upd (fun _ => 0) (ix 0) 5) (ix 1) 10) (ix 2) 4) (ix 3) 3), eO a 4 (.ref q8 :: .ref q17 :: .ref q26 :: .ref q35 :: .ref q42 :: .ref q49 :: .ref q73 :: .ref q96 :: .int 0 :: .int 0 :: .int 0 :: .int 0 :: .ref q125 :: .int 0 :: .int 0 :: .int 0 :: .int 0 :: .int 0 :: .int 0 :: .int 0 :: .int (-1) :: .long 0 :: .ref q138 :: .int 0 :: .int 0 :: .int 0 :: .int 0 :: .int 0 :: .int 0 :: .int 0 :: .int 0 :: .int 0 :: .ref q146 :: .int 0 :: []), eA (gcA G 0) q146 64 (fun _ => 0), eA (gcA G 0) q138 40 (fun _ => 0), eA (gcA G 0) q125 800 (fun _ => 0), eA (gcA G 0) q96 4 (upd (upd (upd (upd (fun _ => 0) (ix 0) 50) (ix 1) 99) (ix 2) 9) (ix 3) 9), eA (gcA G 0) q73 4 (upd (upd (upd (upd (fun _ => 0) (ix 0) 0) (ix 1) 0) (ix 2) 1) (ix 3) 1), eA (gcA G 2) q42 2 (fun _ => 0), eA (gcA G 0) q35 948 (fun _ => 0), eA (gcA G 0) q26 474 (fun _ => 0), eA (gcA G 0) q17 474 (fun _ => 0)])
  replace Z : Zr G s (eO a 4 (.ref q8 :: .ref q17 :: .ref q26 :: .ref q35 :: .ref q42 :: .ref q49 :: .ref q73 :: .ref q96 :: .int 0 :: .int 0 :: .int 0 :: .int 0 :: .ref q125 :: .int 0 :: .int 0 :: .int 0 :: .int 0 :: .int 0 :: .int 0 :: .int 0 :: .int (-1) :: .long 0 :: .ref q138 :: .int 0 :: .int 0 :: .int 0 :: .int 0 :: .int 0 :: .int 0 :: .int 0 :: .int 0 :: .int 0 :: .ref q146 :: .int 0 :: []) :: eA (gcA G 0) q8 474 (fun _ => 0) :: eA (gcA G 0) q49 4 (upd (upd (upd (upd (fun _ => 0) (ix 0) 5) (ix 1) 10) (ix 2) 4) (ix 3) 3) :: eA (gcA G 0) q146 64 (fun _ => 0) :: eA (gcA G 0) q138 40 (fun _ => 0) :: eA (gcA G 0) q125 800 (fun _ => 0) :: eA (gcA G 0) q96 4 (upd (upd (upd (upd (fun _ => 0) (ix 0) 50) (ix 1) 99) (ix 2) 9) (ix 3) 9) :: eA (gcA G 0) q73 4 (upd (upd (upd (upd (fun _ => 0) (ix 0) 0) (ix 1) 0) (ix 2) 1) (ix 3) 1) :: eA (gcA G 2) q42 2 (fun _ => 0) :: eA (gcA G 0) q35 948 (fun _ => 0) :: eA (gcA G 0) q26 474 (fun _ => 0) :: eA (gcA G 0) q17 474 (fun _ => 0) :: Y) H locs := Z.front (X := [eA (gcA G 0) q8 474 (fun _ => 0), eA (gcA G 0) q49 4 (upd (upd (upd (upd (fun _ => 0) (ix 0) 5) (ix 1) 10) (ix 2) 4) (ix 3) 3)])
  refine lv_aload_n hx hb dX4_init_151 rfl (lv_at hl 0 rfl) ?_
  refine lv_bipush (v := 32) hx hb dX4_init_152 (by decide) ?_
  refine r_callVv C0 Z hl.1 (As := [.int 32]) (rest := []) (q0 := 0) (kr_X4_clear l hg) (gv_X4_clear tm_4_195) rfl ds_X4_clear ⟨(Nat.le_of_ble_eq_true rfl), (Nat.le_of_ble_eq_true rfl)⟩ (ci := 4) rfl rfl rfl rfl (Nat.le_of_ble_eq_true rfl) ⟨(Nat.le_of_ble_eq_true rfl), (Nat.le_of_ble_eq_true rfl)⟩ dX4_init_154 (fun u H locs hu Z => ?_)
  subst hu
  replace Z : Zr G s (eO a 4 (.ref q8 :: .ref q17 :: .ref q26 :: .ref q35 :: .ref q42 :: .ref q49 :: .ref q73 :: .ref q96 :: .int 0 :: .int 0 :: .int 0 :: .int 0 :: .ref q125 :: .int 0 :: .int 0 :: .int 0 :: .int 0 :: .int 0 :: .int 0 :: .int 0 :: .int (-1) :: .long 0 :: .ref q138 :: .int 0 :: .int 0 :: .int 0 :: .int 0 :: .int 0 :: .int 0 :: .int 0 :: .int 0 :: .int 0 :: .ref q146 :: .int 0 :: []) :: eA (gcA G 0) q8 474 (fun j => if j < 4 then (upd (upd (upd (upd (fun _ => 0) (ix 0) 5) (ix 1) 10) (ix 2) 4) (ix 3) 3) j else if j = 4 then 32 else 0) :: eA (gcA G 0) q49 4 (upd (upd (upd (upd (fun _ => 0) (ix 0) 5) (ix 1) 10) (ix 2) 4) (ix 3) 3) :: eA (gcA G 0) q146 64 (fun _ => 0) :: eA (gcA G 0) q138 40 (fun _ => 0) :: eA (gcA G 0) q125 800 (fun _ => 0) :: eA (gcA G 0) q96 4 (upd (upd (upd (upd (fun _ => 0) (ix 0) 50) (ix 1) 99) (ix 2) 9) (ix 3) 9) :: eA (gcA G 0) q73 4 (upd (upd (upd (upd (fun _ => 0) (ix 0) 0) (ix 1) 0) (ix 2) 1) (ix 3) 1) :: eA (gcA G 2) q42 2 (fun _ => 0) :: eA (gcA G 0) q35 948 (fun _ => 0) :: eA (gcA G 0) q26 474 (fun _ => 0) :: eA (gcA G 0) q17 474 (fun _ => 0) :: Y) H locs := Z
  refine lv_aload_n hx hb dX4_init_157 rfl (lv_at hl 0 rfl) ?_
  refine r_callVv C0 Z hl.1 (As := []) (rest := []) (q0 := 0) (kr_X4_clearDraft l hg rfl) (gv_X4_clearDraft tm_4_199) rfl ds_X4_clearDraft ⟨(Nat.le_of_ble_eq_true rfl), (Nat.le_of_ble_eq_true rfl)⟩ (ci := 4) rfl rfl rfl rfl (Nat.le_of_ble_eq_true rfl) ⟨(Nat.le_of_ble_eq_true rfl), (Nat.le_of_ble_eq_true rfl)⟩ dX4_init_158 (fun u H locs hu Z => ?_)
  subst hu
  refine W.widen (k := 11) (n := 3288) (Nat.le_of_ble_eq_true rfl) (Nat.le_of_ble_eq_true rfl) ?_
  exact r_vret C0 Z ⟨q8, q17, q26, q35, q42, q49, q73, q96, q125, q138, q146, rfl⟩ dX4_init_161
