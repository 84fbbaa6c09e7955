theorem tm_1_200 : Cond.methodLink RL 225 yL_builds ∈ tbg := tb1 200 (by decide +kernel) (by decide +kernel)
theorem tm_1_202 : Cond.instanceMethod yL_builds ∈ tbg := tb1 202 (by decide +kernel) (by decide +kernel)
theorem tm_1_203 : Cond.code yL_builds cL_builds 4 (some .boolean) ∈ tbg := tb1 203 (by decide +kernel) (by decide +kernel)
theorem tm_2_89 : Cond.methodLink RL 228 yL_books ∈ tbg := tb2 89 (by decide +kernel) (by decide +kernel)
theorem tm_2_91 : Cond.instanceMethod yL_books ∈ tbg := tb2 91 (by decide +kernel) (by decide +kernel)
theorem tm_2_92 : Cond.code yL_books cL_books 13 (some .boolean) ∈ tbg := tb2 92 (by decide +kernel) (by decide +kernel)
theorem tm_3_17 : Cond.methodLink RL 231 yL_acts ∈ tbg := tb3 17 (by decide +kernel) (by decide +kernel)
theorem tm_3_19 : Cond.instanceMethod yL_acts ∈ tbg := tb3 19 (by decide +kernel) (by decide +kernel)
theorem tm_3_20 : Cond.code yL_acts cL_acts 15 (some .boolean) ∈ tbg := tb3 20 rfl (by decide +kernel)
theorem tm_3_160 : Cond.methodLink RL 234 yL_areApart ∈ tbg := tb3 160 (by decide +kernel) (by decide +kernel)
theorem tm_3_162 : Cond.instanceMethod yL_areApart ∈ tbg := tb3 162 (by decide +kernel) (by decide +kernel)
theorem tm_3_163 : Cond.code yL_areApart cL_areApart 5 (some .boolean) ∈ tbg := tb3 163 (by decide +kernel) (by decide +kernel)
theorem tm_3_164 : Cond.methodLink RL 237 yL_passes ∈ tbg := tb3 164 (by decide +kernel) (by decide +kernel)
theorem tm_3_166 : Cond.instanceMethod yL_passes ∈ tbg := tb3 166 (by decide +kernel) (by decide +kernel)
theorem tm_3_167 : Cond.code yL_passes cL_passes 10 (some .boolean) ∈ tbg := tb3 167 (by decide +kernel) (by decide +kernel)
theorem tm_3_211 : Cond.methodLink RL 240 yL_sums ∈ tbg := tb3 211 (by decide +kernel) (by decide +kernel)
theorem tm_3_213 : Cond.instanceMethod yL_sums ∈ tbg := tb3 213 (by decide +kernel) (by decide +kernel)
theorem tm_3_214 : Cond.code yL_sums cL_sums 11 (some .boolean) ∈ tbg := tb3 214 (by decide +kernel) (by decide +kernel)
theorem tm_3_236 : Cond.methodLink RL 243 yL_lines ∈ tbg := tb3 236 (by decide +kernel) (by decide +kernel)
theorem tm_3_238 : Cond.instanceMethod yL_lines ∈ tbg := tb3 238 (by decide +kernel) (by decide +kernel)
theorem tm_3_239 : Cond.code yL_lines cL_lines 4 (some .boolean) ∈ tbg := tb3 239 (by decide +kernel) (by decide +kernel)
theorem tm_4_22 : Cond.methodLink RL 246 yL_foretells ∈ tbg := tb4 22 (by decide +kernel) (by decide +kernel)
theorem tm_4_24 : Cond.instanceMethod yL_foretells ∈ tbg := tb4 24 (by decide +kernel) (by decide +kernel)
theorem tm_4_25 : Cond.code yL_foretells cL_foretells 10 (some .boolean) ∈ tbg := tb4 25 (by decide +kernel) (by decide +kernel)
theorem tm_4_52 : Cond.methodLink RL 249 yX3_clean ∈ tbg := tb4 52 (by decide +kernel) (by decide +kernel)
theorem tm_4_53 : Cond.instanceMethod yX3_clean ∈ tbg := tb4 53 (by decide +kernel) (by decide +kernel)
theorem tm_4_54 : Cond.selects RX3 yX3_clean yX3_clean ∈ tbg := tb4 54 (by decide +kernel) (by decide +kernel)
theorem tm_4_55 : Cond.code yX3_clean cX3_clean 1 (some .int) ∈ tbg := tb4 55 (by decide +kernel) (by decide +kernel)
theorem gv_L_acts {own : String} {idx : Nat} (h : Cond.methodLink own idx yL_acts ∈ tbg) : GoodIn tbg (wsV own idx RL yL_acts (.code yL_acts cL_acts 15 (some .boolean) :: tbg)) := z_goodV h tm_3_19 (tb0 (by decide +kernel) (by decide +kernel)) tm_1_0 tm_3_20
theorem ds_L_acts : dsc yL_acts 0 := ⟨by decide +kernel, by decide +kernel, by decide +kernel⟩
theorem gv_L_areApart {own : String} {idx : Nat} (h : Cond.methodLink own idx yL_areApart ∈ tbg) : GoodIn tbg (wsV own idx RL yL_areApart (.code yL_areApart cL_areApart 5 (some .boolean) :: tbg)) := z_goodV h tm_3_162 (tb0 (by decide +kernel) (by decide +kernel)) tm_1_0 tm_3_163
theorem ds_L_areApart : dsc yL_areApart 0 := ⟨by decide +kernel, by decide +kernel, by decide +kernel⟩
theorem gv_L_books {own : String} {idx : Nat} (h : Cond.methodLink own idx yL_books ∈ tbg) : GoodIn tbg (wsV own idx RL yL_books (.code yL_books cL_books 13 (some .boolean) :: tbg)) := z_goodV h tm_2_91 (tb0 (by decide +kernel) (by decide +kernel)) tm_1_0 tm_2_92
theorem ds_L_books : dsc yL_books 0 := ⟨by decide +kernel, by decide +kernel, by decide +kernel⟩
theorem gv_L_builds {own : String} {idx : Nat} (h : Cond.methodLink own idx yL_builds ∈ tbg) : GoodIn tbg (wsV own idx RL yL_builds (.code yL_builds cL_builds 4 (some .boolean) :: tbg)) := z_goodV h tm_1_202 (tb0 (by decide +kernel) (by decide +kernel)) tm_1_0 tm_1_203
theorem ds_L_builds : dsc yL_builds 0 := ⟨by decide +kernel, by decide +kernel, by decide +kernel⟩
theorem gv_L_foretells {own : String} {idx : Nat} (h : Cond.methodLink own idx yL_foretells ∈ tbg) : GoodIn tbg (wsV own idx RL yL_foretells (.code yL_foretells cL_foretells 10 (some .boolean) :: tbg)) := z_goodV h tm_4_24 (tb0 (by decide +kernel) (by decide +kernel)) tm_1_0 tm_4_25
theorem ds_L_foretells : dsc yL_foretells 0 := ⟨by decide +kernel, by decide +kernel, by decide +kernel⟩
theorem gv_L_lines {own : String} {idx : Nat} (h : Cond.methodLink own idx yL_lines ∈ tbg) : GoodIn tbg (wsV own idx RL yL_lines (.code yL_lines cL_lines 4 (some .boolean) :: tbg)) := z_goodV h tm_3_238 (tb0 (by decide +kernel) (by decide +kernel)) tm_1_0 tm_3_239
theorem ds_L_lines : dsc yL_lines 0 := ⟨by decide +kernel, by decide +kernel, by decide +kernel⟩
theorem gv_L_passes {own : String} {idx : Nat} (h : Cond.methodLink own idx yL_passes ∈ tbg) : GoodIn tbg (wsV own idx RL yL_passes (.code yL_passes cL_passes 10 (some .boolean) :: tbg)) := z_goodV h tm_3_166 (tb0 (by decide +kernel) (by decide +kernel)) tm_1_0 tm_3_167
theorem ds_L_passes : dsc yL_passes 0 := ⟨by decide +kernel, by decide +kernel, by decide +kernel⟩
theorem gv_L_sums {own : String} {idx : Nat} (h : Cond.methodLink own idx yL_sums ∈ tbg) : GoodIn tbg (wsV own idx RL yL_sums (.code yL_sums cL_sums 11 (some .boolean) :: tbg)) := z_goodV h tm_3_213 (tb0 (by decide +kernel) (by decide +kernel)) tm_1_0 tm_3_214
theorem ds_L_sums : dsc yL_sums 0 := ⟨by decide +kernel, by decide +kernel, by decide +kernel⟩
theorem gv_X3_clean {own : String} {idx : Nat} (h : Cond.methodLink own idx yX3_clean ∈ tbg) : GoodIn tbg (wsV own idx RX3 yX3_clean (.code yX3_clean cX3_clean 1 (some .int) :: tbg)) := z_goodV h tm_4_53 tm_4_54 tm_1_1 tm_4_55
theorem ds_X3_clean : dsc yX3_clean 0 := ⟨by decide +kernel, by decide +kernel, by decide +kernel⟩
theorem dL_holds_0 : decode cL_holds 0 = .ok (.aload_n 0, 1) := by decide +kernel
theorem dL_holds_1 : decode cL_holds 1 = .ok (.aload_n 1, 1) := by decide +kernel
theorem dL_holds_2 : decode cL_holds 2 = .ok (.putfield 18, 3) := by decide +kernel
theorem dL_holds_5 : decode cL_holds 5 = .ok (.aload_n 0, 1) := by decide +kernel
theorem dL_holds_6 : decode cL_holds 6 = .ok (.invokevirtual 225, 3) := by decide +kernel
theorem dL_holds_9 : decode cL_holds 9 = .ok (.ifCond .ne 5, 3) := by decide +kernel
theorem dL_holds_12 : decode cL_holds 12 = .ok (.iconst 0, 1) := by decide +kernel
theorem dL_holds_13 : decode cL_holds 13 = .ok (.ireturn, 1) := by decide +kernel
theorem dL_holds_14 : decode cL_holds 14 = .ok (.iconst 0, 1) := by decide +kernel
theorem dL_holds_15 : decode cL_holds 15 = .ok (.istore_n 2, 1) := by decide +kernel
theorem dL_holds_16 : decode cL_holds 16 = .ok (.iload_n 2, 1) := by decide +kernel
theorem dL_holds_17 : decode cL_holds 17 = .ok (.bipush 55, 2) := by decide +kernel
theorem dL_holds_19 : decode cL_holds 19 = .ok (.if_icmp .ge 144, 3) := by decide +kernel
theorem dL_holds_22 : decode cL_holds 22 = .ok (.iload_n 2, 1) := by decide +kernel
theorem dL_holds_23 : decode cL_holds 23 = .ok (.bipush 6, 2) := by decide +kernel
theorem dL_holds_25 : decode cL_holds 25 = .ok (.if_icmp .lt 11, 3) := by decide +kernel
theorem dL_holds_28 : decode cL_holds 28 = .ok (.aload_n 0, 1) := by decide +kernel
theorem dL_holds_29 : decode cL_holds 29 = .ok (.iconst 3, 1) := by decide +kernel
theorem dL_holds_30 : decode cL_holds 30 = .ok (.invokevirtual 142, 3) := by decide +kernel
theorem dL_holds_33 : decode cL_holds 33 = .ok (.ifCond .ne 25, 3) := by decide +kernel
theorem dL_holds_36 : decode cL_holds 36 = .ok (.aload_n 0, 1) := by decide +kernel
theorem dL_holds_37 : decode cL_holds 37 = .ok (.invokevirtual 228, 3) := by decide +kernel
theorem dL_holds_40 : decode cL_holds 40 = .ok (.ifCond .eq 14, 3) := by decide +kernel
theorem dL_holds_43 : decode cL_holds 43 = .ok (.aload_n 0, 1) := by decide +kernel
theorem dL_holds_44 : decode cL_holds 44 = .ok (.invokevirtual 228, 3) := by decide +kernel
theorem dL_holds_47 : decode cL_holds 47 = .ok (.ifCond .eq 7, 3) := by decide +kernel
theorem dL_holds_50 : decode cL_holds 50 = .ok (.iconst 1, 1) := by decide +kernel
theorem dL_holds_51 : decode cL_holds 51 = .ok (.goto 11, 3) := by decide +kernel
theorem dL_holds_54 : decode cL_holds 54 = .ok (.iconst 0, 1) := by decide +kernel
theorem dL_holds_55 : decode cL_holds 55 = .ok (.goto 7, 3) := by decide +kernel
theorem dL_holds_58 : decode cL_holds 58 = .ok (.aload_n 0, 1) := by decide +kernel
theorem dL_holds_59 : decode cL_holds 59 = .ok (.invokevirtual 231, 3) := by decide +kernel
theorem dL_holds_62 : decode cL_holds 62 = .ok (.istore_n 3, 1) := by decide +kernel
theorem dL_holds_63 : decode cL_holds 63 = .ok (.iload_n 3, 1) := by decide +kernel
theorem dL_holds_64 : decode cL_holds 64 = .ok (.ifCond .eq 63, 3) := by decide +kernel
theorem dL_holds_67 : decode cL_holds 67 = .ok (.aload_n 0, 1) := by decide +kernel
theorem dL_holds_68 : decode cL_holds 68 = .ok (.invokevirtual 234, 3) := by decide +kernel
theorem dL_holds_71 : decode cL_holds 71 = .ok (.ifCond .eq 56, 3) := by decide +kernel
theorem dL_holds_74 : decode cL_holds 74 = .ok (.aload_n 0, 1) := by decide +kernel
theorem dL_holds_75 : decode cL_holds 75 = .ok (.iconst 2, 1) := by decide +kernel
theorem dL_holds_76 : decode cL_holds 76 = .ok (.invokevirtual 142, 3) := by decide +kernel
theorem dL_holds_79 : decode cL_holds 79 = .ok (.ifCond .ne 10, 3) := by decide +kernel
theorem dL_holds_82 : decode cL_holds 82 = .ok (.aload_n 0, 1) := by decide +kernel
theorem dL_holds_83 : decode cL_holds 83 = .ok (.invokevirtual 237, 3) := by decide +kernel
theorem dL_holds_86 : decode cL_holds 86 = .ok (.ifCond .eq 41, 3) := by decide +kernel
theorem dL_holds_89 : decode cL_holds 89 = .ok (.iload_n 2, 1) := by decide +kernel
theorem dL_holds_90 : decode cL_holds 90 = .ok (.bipush 7, 2) := by decide +kernel
theorem dL_holds_92 : decode cL_holds 92 = .ok (.irem, 1) := by decide +kernel
theorem dL_holds_93 : decode cL_holds 93 = .ok (.iconst 3, 1) := by decide +kernel
theorem dL_holds_94 : decode cL_holds 94 = .ok (.if_icmp .ne 17, 3) := by decide +kernel
theorem dL_holds_97 : decode cL_holds 97 = .ok (.aload_n 0, 1) := by decide +kernel
theorem dL_holds_98 : decode cL_holds 98 = .ok (.invokevirtual 240, 3) := by decide +kernel
theorem dL_holds_101 : decode cL_holds 101 = .ok (.ifCond .eq 26, 3) := by decide +kernel
theorem dL_holds_104 : decode cL_holds 104 = .ok (.aload_n 0, 1) := by decide +kernel
theorem dL_holds_105 : decode cL_holds 105 = .ok (.invokevirtual 243, 3) := by decide +kernel
theorem dL_holds_108 : decode cL_holds 108 = .ok (.ifCond .eq 19, 3) := by decide +kernel
theorem dL_holds_111 : decode cL_holds 111 = .ok (.iload_n 2, 1) := by decide +kernel
theorem dL_holds_112 : decode cL_holds 112 = .ok (.bipush 13, 2) := by decide +kernel
theorem dL_holds_114 : decode cL_holds 114 = .ok (.irem, 1) := by decide +kernel
theorem dL_holds_115 : decode cL_holds 115 = .ok (.bipush 9, 2) := by decide +kernel
theorem dL_holds_117 : decode cL_holds 117 = .ok (.if_icmp .ne 12, 3) := by decide +kernel
theorem dL_holds_120 : decode cL_holds 120 = .ok (.aload_n 0, 1) := by decide +kernel
theorem dL_holds_121 : decode cL_holds 121 = .ok (.invokevirtual 246, 3) := by decide +kernel
theorem dL_holds_124 : decode cL_holds 124 = .ok (.ifCond .ne 5, 3) := by decide +kernel
theorem dL_holds_127 : decode cL_holds 127 = .ok (.iconst 0, 1) := by decide +kernel
theorem dL_holds_128 : decode cL_holds 128 = .ok (.ireturn, 1) := by decide +kernel
theorem dL_holds_129 : decode cL_holds 129 = .ok (.iload_n 2, 1) := by decide +kernel
theorem dL_holds_130 : decode cL_holds 130 = .ok (.bipush 16, 2) := by decide +kernel
theorem dL_holds_132 : decode cL_holds 132 = .ok (.irem, 1) := by decide +kernel
theorem dL_holds_133 : decode cL_holds 133 = .ok (.bipush 15, 2) := by decide +kernel
theorem dL_holds_135 : decode cL_holds 135 = .ok (.if_icmp .ne 22, 3) := by decide +kernel
theorem dL_holds_138 : decode cL_holds 138 = .ok (.aload_n 0, 1) := by decide +kernel
theorem dL_holds_139 : decode cL_holds 139 = .ok (.getfield 10, 3) := by decide +kernel
theorem dL_holds_142 : decode cL_holds 142 = .ok (.invokevirtual 249, 3) := by decide +kernel
theorem dL_holds_145 : decode cL_holds 145 = .ok (.ifCond .lt 10, 3) := by decide +kernel
theorem dL_holds_148 : decode cL_holds 148 = .ok (.aload_n 0, 1) := by decide +kernel
theorem dL_holds_149 : decode cL_holds 149 = .ok (.invokevirtual 240, 3) := by decide +kernel
theorem dL_holds_152 : decode cL_holds 152 = .ok (.ifCond .ne 5, 3) := by decide +kernel
theorem dL_holds_155 : decode cL_holds 155 = .ok (.iconst 0, 1) := by decide +kernel
theorem dL_holds_156 : decode cL_holds 156 = .ok (.ireturn, 1) := by decide +kernel
theorem dL_holds_157 : decode cL_holds 157 = .ok (.iinc 2 1, 3) := by decide +kernel
theorem dL_holds_160 : decode cL_holds 160 = .ok (.goto (-144), 3) := by decide +kernel
theorem dL_holds_163 : decode cL_holds 163 = .ok (.aload_n 0, 1) := by decide +kernel
theorem dL_holds_164 : decode cL_holds 164 = .ok (.invokevirtual 240, 3) := by decide +kernel
theorem dL_holds_167 : decode cL_holds 167 = .ok (.ifCond .eq 36, 3) := by decide +kernel
theorem dL_holds_170 : decode cL_holds 170 = .ok (.aload_n 0, 1) := by decide +kernel
theorem dL_holds_171 : decode cL_holds 171 = .ok (.invokevirtual 234, 3) := by decide +kernel
theorem dL_holds_174 : decode cL_holds 174 = .ok (.ifCond .eq 29, 3) := by decide +kernel
theorem dL_holds_177 : decode cL_holds 177 = .ok (.aload_n 0, 1) := by decide +kernel
theorem dL_holds_178 : decode cL_holds 178 = .ok (.invokevirtual 246, 3) := by decide +kernel
theorem dL_holds_181 : decode cL_holds 181 = .ok (.ifCond .eq 22, 3) := by decide +kernel
theorem dL_holds_184 : decode cL_holds 184 = .ok (.aload_n 0, 1) := by decide +kernel
theorem dL_holds_185 : decode cL_holds 185 = .ok (.getfield 10, 3) := by decide +kernel
theorem dL_holds_188 : decode cL_holds 188 = .ok (.sipush 201, 3) := by decide +kernel
theorem dL_holds_191 : decode cL_holds 191 = .ok (.invokestatic 205, 3) := by decide +kernel
theorem dL_holds_194 : decode cL_holds 194 = .ok (.bipush (-102), 2) := by decide +kernel
theorem dL_holds_196 : decode cL_holds 196 = .ok (.if_icmp .ne 7, 3) := by decide +kernel
theorem dL_holds_199 : decode cL_holds 199 = .ok (.iconst 1, 1) := by decide +kernel
theorem dL_holds_200 : decode cL_holds 200 = .ok (.goto 4, 3) := by decide +kernel
theorem dL_holds_203 : decode cL_holds 203 = .ok (.iconst 0, 1) := by decide +kernel
theorem dL_holds_204 : decode cL_holds 204 = .ok (.ireturn, 1) := by decide +kernel
/-! THE LAW: holds -/
theorem ext.tr {G G2 G3 : zG} (x : ext G G2) (y : ext G2 G3) : ext G G3 := by
  obtain ⟨⟨ad, n, rfl⟩, h, k⟩ := x
  obtain ⟨⟨ad2, n2, rfl⟩, h2, k2⟩ := y
  exact ⟨⟨ad2, n2, rfl⟩, h2, fun c hc => (k2 c hc).trans (k c hc)⟩
theorem VI_m {v : V3} {N r r' n m : Nat} {σ : Nat → Int32} (h : VI v N r σ n m) (hr : r ≤ r') (h2 : r' ≤ 420) : VI v N r' σ n m := by
  obtain ⟨a1, a2, a3, a4, a5, a6, a7, a8⟩ := h
  exact ⟨a1, OK_B a2 (by omega), GI_m a3 (by omega), by omega, a5, Nx_m a6 (by omega), a7, a8⟩
theorem VI_clean {v v' : V3} {N r n m : Nat} {σ : Nat → Int32} (h : VI v N r σ n m) (hL : LA v' 8 (upd (clnS σ n).1 6 (nI (clnS σ n).2)) (clnS σ n).2 m) (hF : Fr 8 v v') : ¬ nI n - nI (clnS σ n).2 < 0 ∧ ∃ (σ' : Nat → Int32) (n' : Nat), VI v' N r σ' n' m := by
  obtain ⟨a1, a2, a3, a4, a5, a6, a7, a8⟩ := h
  have K := cln_KI σ n
  have hn := a2.1.n40
  have hm := a2.1.m8
  have ok := KI_ok a2 K
  obtain ⟨k1, k2, k3, q, q1, q2, q3, q4⟩ := K
  have k7 : v' 7 = v 7 := hF 7 (by omega)
  have u : ∀ k, k < 74 → k ≠ 6 → upd (clnS σ n).1 6 (nI (clnS σ n).2) k = σ k := fun k hk h6 => by rw [pk_un h6]; exact k2 k hk
  have b : ∀ j f, j < (clnS σ n).2 → f < 10 → bf (upd (clnS σ n).1 6 (nI (clnS σ n).2)) j f = bf σ (q j) f := fun j f hj hf => by rw [bf_sc (by omega)]; exact q3 j hj f hf
  refine ⟨fun z => ?_, _, _, hL, ok, ⟨a3.1, ?_, fun i hi => ?_, fun i hi h0 => ?_, fun o ho => ?_⟩, ?_, by rw [k7]; exact a5, Nx_e a6 (by rw [k7]), ?_, SV_e a8 (hF 3 (by omega))⟩
  · rw [ti_lt, zero_I, ti_sub (by rw [ti_nI (by omega), ti_nI (by omega)]; omega) (by rw [ti_nI (by omega), ti_nI (by omega)]; omega), ti_nI (by omega), ti_nI (by omega)] at z
    omega
  · rw [u 0 (by omega) (by omega), u 2 (by omega) (by omega), u 3 (by omega) (by omega)]; exact a3.2.1
  · rw [b i 6 hi (by omega)]; exact a3.2.2.1 (q i) (q1 i hi)
  · rw [b i 7 hi (by omega)] at h0
    rw [b i 8 hi (by omega), b i 9 hi (by omega)]
    exact a3.2.2.2.1 (q i) (q1 i hi) h0
  · show (0 ≤ (upd (clnS σ n).1 6 (nI (clnS σ n).2) (10 + 8 * o + 2)).toInt ∧ (upd (clnS σ n).1 6 (nI (clnS σ n).2) (10 + 8 * o + 2)).toInt ≤ _) ∧ (0 ≤ (upd (clnS σ n).1 6 (nI (clnS σ n).2) (10 + 8 * o + 3)).toInt ∧ (upd (clnS σ n).1 6 (nI (clnS σ n).2) (10 + 8 * o + 3)).toInt ≤ _)
    rw [u _ (by omega) (by omega), u _ (by omega) (by omega)]
    exact a3.2.2.2.2 o ho
  · rw [u 7 (by omega) (by omega)]; exact a4
  · rw [k7, a7]
    exact (sO_c (fun o ho => u _ (by omega) (by omega))).symm
section ZH
variable {p : Program} {l : Launch} {e : Env} {R : Room} {s : State} {m : MethodId} {args : Array Value} {below : List Frame} {meth : Method} {c : Code} {H : Heap} {locs : List Loc} {cells slots : Nat} {Q : State → Prop}
variable {cc : ByteArray} {pc nL : Nat} {ls : Array Slot} {rest : List Value} {G G2 : zG} {v : V3} {own : String} {ret : Option FieldType} {Wl : va_W} {a : Nat}
theorem s_zret (C0 : Cx G own cc nL (some .boolean) p s m args meth c) (x : ext G G2) (Z : Zs G2 s v H locs) {Q : Int32 → Nat → V3 → Prop} {z : Int32} (h01 : z = 0 ∨ z = 1) (hQ : Q z (gn G2) v) (hdg : decode cc pc = .ok (.ireturn, 1)) : W p l e R s m args below meth c H locs cells slots (MQ below (QiS G Q) args s cells slots (zA G)) (F0 m pc ls [.int z]) := by
  obtain ⟨hx, hb, -, hr, hk, hown, hts, K, -⟩ := C0
  have hS : va_S (zA G) s.heap H locs := by rw [← x.zA]; exact Z.2.2
  exact W.zret hx hb hr (by rcases h01 with h | h <;> subst h <;> rfl) (fun t ht hW => ⟨⟨z, (G2, v), rfl, ⟨x, hQ⟩, ⟨by rw [ht]; exact Z.1, Z.2.1⟩⟩, hS.F ht⟩) hS.2.2 hdg hk
end ZH
set_option maxRecDepth 100000 in
set_option maxHeartbeats 8000000 in
theorem holds_loop {p : Program} (l : Launch) (hst : l.stackTraces = false) {e : Env} {s : State} {m : MethodId} {args : Array Value} {below : List Frame} {meth : Method} {c : Code} {G0 : zG} (C00 : Cx G0 RL cL_holds 4 (some .boolean) p s m args meth c) {mo : Nat} : ∀ (d : Nat), ∀ (k : Nat), k + d = 55 → ∀ (G : zG) (v : V3) (H : Heap) (locs : List Loc) (ls : Array Slot) (σ : Nat → Int32) (n : Nat), ext G0 G → Zs G s v H locs → VI v (gn G) (1 + 7 * k) σ n mo → lv_has ls 4 [(2, .int (nI k)), (0, .ref (gad G 7))] → W p l e { frames := 10, cells := 4200, slots := 42000, locals := 222 } s m args below meth c H locs (70 * k) (700 * k) (MQ below (QiS G0 (fun r _ _ => r = 1)) args s 4200 42000 (zA G0)) (F0 m 16 ls []) := by
  intro d
  induction d with
  | zero =>
    intro k hk G v H locs ls σ n x Z hV hl
    have C0 := x.cx C00
    have hx := C0.1
    have hb := C0.2.1
    obtain rfl : k = 55 := by omega
    refine lv_iload_n hx hb dL_holds_16 rfl (lv_at hl 0 rfl) ?_
    refine lv_bipush (v := 55) hx hb dL_holds_17 (by decide) ?_
    refine lv_icmp_ge (tgt := 163) hx hb dL_holds_19 (by decide) (fun _ => ?_) (fun q => absurd (Int32.le_rfl) q)
    refine lv_aload_n hx hb dL_holds_163 rfl (lv_at hl 1 rfl) ?_
    refine z_callVi C0 Z hl.1 (As := []) (rest := []) (k_L_sums l (cx_g C0) (us_sums (Q := fun z u => z = 1 ∧ VI u (gn G) (1 + 7 * 55) σ n mo) hV (by omega) (fun v' h => ⟨rfl, h⟩))) (gv_L_sums tm_3_211) rfl ds_L_sums ⟨(Nat.le_of_ble_eq_true rfl), (Nat.le_of_ble_eq_true rfl)⟩ (ci := 4) rfl (cx_lt C0 (by decide)) rfl rfl rfl (Nat.le_of_ble_eq_true rfl) ⟨by show _ ≤ 4200; omega, by show _ ≤ 42000; omega⟩ dL_holds_164 (fun z v H locs hw Z => ?_)
    obtain ⟨rfl, hV⟩ := hw
    refine lv_if_eq (tgt := 203) hx hb dL_holds_167 (by decide) (fun q => absurd q (by decide)) (fun _ => ?_)
    refine lv_aload_n hx hb dL_holds_170 rfl (lv_at hl 1 rfl) ?_
    refine z_callVi C0 Z hl.1 (As := []) (rest := []) (k_L_areApart l (cx_g C0) (us_apart (Q := fun z u => z = 1 ∧ VI u (gn G) (1 + 7 * 55) σ n mo) hV.1 hV.2.1.1 ⟨rfl, hV⟩)) (gv_L_areApart tm_3_160) rfl ds_L_areApart ⟨(Nat.le_of_ble_eq_true rfl), (Nat.le_of_ble_eq_true rfl)⟩ (ci := 4) rfl (cx_lt C0 (by decide)) rfl rfl rfl (Nat.le_of_ble_eq_true rfl) ⟨by show _ ≤ 4200; omega, by show _ ≤ 42000; omega⟩ dL_holds_171 (fun z v H locs hw Z => ?_)
    obtain ⟨rfl, hV⟩ := hw
    refine lv_if_eq (tgt := 203) hx hb dL_holds_174 (by decide) (fun q => absurd q (by decide)) (fun _ => ?_)
    refine lv_aload_n hx hb dL_holds_177 rfl (lv_at hl 1 rfl) ?_
    refine s_callVi C0 Z hl.1 (As := []) (rest := []) (k_L_foretells l hst (cx_g C0) (us_foretells (Q := fun z N u => z = 1 ∧ ∃ (σ' : Nat → Int32) (n' : Nat), VI u N ((1 + 7 * 55) + 1) σ' n' mo) hV (by omega) (fun v' N' σ' n' h => ⟨rfl, σ', n', h⟩))) (gv_L_foretells tm_4_22) rfl ds_L_foretells ⟨(Nat.le_of_ble_eq_true rfl), (Nat.le_of_ble_eq_true rfl)⟩ (ci := 4) rfl (cx_lt C0 (by decide)) rfl rfl rfl (Nat.le_of_ble_eq_true rfl) ⟨by show _ ≤ 4200; omega, by show _ ≤ 42000; omega⟩ dL_holds_178 (fun z G2 v H locs x2 hw Z => ?_)
    obtain ⟨rfl, σ, n, hV⟩ := hw
    rw [← x2.2.2 7 (by decide)] at hl
    replace x := x.tr x2
    replace C0 := x.cx C00
    refine lv_if_eq (tgt := 203) hx hb dL_holds_181 (by decide) (fun q => absurd q (by decide)) (fun _ => ?_)
    refine lv_aload_n hx hb dL_holds_184 rfl (lv_at hl 1 rfl) ?_
    refine z_get C0 Z in_L rfl 0 (by decide) rfl tm_1_181 (cx_lt C0 (by decide)) rfl rfl dL_holds_185 ?_
    refine lv_sipush (v := 201) hx hb dL_holds_188 (by decide) ?_
    refine z_callH C0 Z hl.1 (As := [.ref (gad G2 0), .int 201]) (rest := []) (k_L_passx l hst (cx_g C0) (us_passx (Q := fun z _ => z = -102) rfl)) (gv_L_pass tm_3_203) ds_L_pass ⟨(Nat.le_of_ble_eq_true rfl), (Nat.le_of_ble_eq_true rfl)⟩ rfl rfl (Nat.le_of_ble_eq_true rfl) ⟨by show _ ≤ 4200; omega, by show _ ≤ 42000; omega⟩ dL_holds_191 (fun z u H locs hw Z => ?_)
    subst hw
    refine lv_bipush (v := (-102)) hx hb dL_holds_194 (by decide) ?_
    refine lv_icmp_ne (tgt := 203) hx hb dL_holds_196 (by decide) (fun q => absurd rfl q) (fun _ => ?_)
    refine lv_iconst (v := 1) hx hb dL_holds_199 (by decide) ?_
    refine lv_goto (tgt := 204) hx hb dL_holds_200 (by decide) ?_
    refine W.widen (k := 4200) (n := 42000) (by omega) (by omega) ?_
    exact s_zret C00 x Z (Q := fun r _ _ => r = 1) (.inr rfl) rfl dL_holds_204
  | succ d ih =>
    intro k hk
    have s157 : ∀ (G : zG) (v : V3) (H : Heap) (locs : List Loc) (ls : Array Slot) (σ : Nat → Int32) (n r c1 n1 : Nat), ext G0 G → Zs G s v H locs → VI v (gn G) r σ n mo → r ≤ 1 + 7 * k + 7 → c1 ≤ 70 * k + 70 → n1 ≤ 700 * k + 700 → lv_has ls 4 [(2, .int (nI k)), (0, .ref (gad G 7))] → W p l e { frames := 10, cells := 4200, slots := 42000, locals := 222 } s m args below meth c H locs c1 n1 (MQ below (QiS G0 (fun r _ _ => r = 1)) args s 4200 42000 (zA G0)) (F0 m 157 ls []) := by
      intro G v H locs ls σ n r c1 n1 x Z hV hr hc1 hn1 hl
      have C0 := x.cx C00
      have hx := C0.1
      have hb := C0.2.1
      refine lv_iinc (v := nI (k + 1)) (lv' := [(2, .int (nI (k + 1))), (0, .ref (gad G 7))]) hx hb dL_holds_157 hl (k := 0) rfl (nI_1 k) (by decide) rfl (fun ls hl => ?_)
      refine lv_goto (tgt := 16) hx hb dL_holds_160 (by decide) ?_
      refine W.widen (k := 70 * (k + 1)) (n := 700 * (k + 1)) (by omega) (by omega) ?_
      exact ih (k + 1) (by omega) G v H locs ls σ n x Z (VI_m hV (by omega) (by omega)) hl
    have s129 : ∀ (G : zG) (v : V3) (H : Heap) (locs : List Loc) (ls : Array Slot) (σ : Nat → Int32) (n r c1 n1 : Nat), ext G0 G → Zs G s v H locs → VI v (gn G) r σ n mo → r ≤ 1 + 7 * k + 7 → c1 ≤ 70 * k + 70 → n1 ≤ 700 * k + 700 → lv_has ls 4 [(2, .int (nI k)), (0, .ref (gad G 7))] → W p l e { frames := 10, cells := 4200, slots := 42000, locals := 222 } s m args below meth c H locs c1 n1 (MQ below (QiS G0 (fun r _ _ => r = 1)) args s 4200 42000 (zA G0)) (F0 m 129 ls []) := by
      intro G v H locs ls σ n r c1 n1 x Z hV hr hc1 hn1 hl
      have C0 := x.cx C00
      have hx := C0.1
      have hb := C0.2.1
      refine lv_iload_n hx hb dL_holds_129 rfl (lv_at hl 0 rfl) ?_
      refine lv_bipush (v := 16) hx hb dL_holds_130 (by decide) ?_
      refine lv_irem hx hb dL_holds_132 (by decide) ?_
      refine lv_bipush (v := 15) hx hb dL_holds_133 (by decide) ?_
      refine lv_icmp_ne (tgt := 157) hx hb dL_holds_135 (by decide) (fun _ => ?_) (fun _ => ?_)
      · exact s157 G v H locs ls σ n r c1 n1 x Z hV hr hc1 hn1 hl
      · refine lv_aload_n hx hb dL_holds_138 rfl (lv_at hl 1 rfl) ?_
        refine z_get C0 Z in_L rfl 0 (by decide) rfl tm_1_181 (cx_lt C0 (by decide)) rfl rfl dL_holds_139 ?_
        refine z_callVi C0 Z hl.1 (As := []) (rest := []) (k_X3_clean l (cx_g C0) (us_clean (Q := fun z u => ¬ z < 0 ∧ ∃ (σ' : Nat → Int32) (n' : Nat), VI u (gn G) r σ' n' mo) hV.1 hV.2.1.1.n40 hV.2.1.1.m8 (fun v' hL' hF' => VI_clean hV hL' hF'))) (gv_X3_clean tm_4_52) rfl ds_X3_clean ⟨(Nat.le_of_ble_eq_true rfl), (Nat.le_of_ble_eq_true rfl)⟩ (ci := 3) rfl (cx_lt C0 (by decide)) rfl rfl rfl (Nat.le_of_ble_eq_true rfl) ⟨by show _ ≤ 4200; omega, by show _ ≤ 42000; omega⟩ dL_holds_142 (fun z v H locs hw Z => ?_)
        obtain ⟨hz, σ, n, hV⟩ := hw
        refine lv_if_lt (tgt := 155) hx hb dL_holds_145 (by decide) (fun q => absurd q hz) (fun _ => ?_)
        refine lv_aload_n hx hb dL_holds_148 rfl (lv_at hl 1 rfl) ?_
        refine z_callVi C0 Z hl.1 (As := []) (rest := []) (k_L_sums l (cx_g C0) (us_sums (Q := fun z u => z = 1 ∧ VI u (gn G) r σ n mo) hV (by omega) (fun v' h => ⟨rfl, h⟩))) (gv_L_sums tm_3_211) rfl ds_L_sums ⟨(Nat.le_of_ble_eq_true rfl), (Nat.le_of_ble_eq_true rfl)⟩ (ci := 4) rfl (cx_lt C0 (by decide)) rfl rfl rfl (Nat.le_of_ble_eq_true rfl) ⟨by show _ ≤ 4200; omega, by show _ ≤ 42000; omega⟩ dL_holds_149 (fun z v H locs hw Z => ?_)
        obtain ⟨rfl, hV⟩ := hw
        refine lv_if_ne (tgt := 157) hx hb dL_holds_152 (by decide) (fun _ => ?_) (fun q => absurd q (by decide))
        exact s157 G v H locs ls σ n r c1 n1 x Z hV hr hc1 hn1 hl
    have s111 : ∀ (G : zG) (v : V3) (H : Heap) (locs : List Loc) (ls : Array Slot) (σ : Nat → Int32) (n r c1 n1 : Nat), ext G0 G → Zs G s v H locs → VI v (gn G) r σ n mo → r ≤ 1 + 7 * k + 6 → c1 ≤ 70 * k + 16 → n1 ≤ 700 * k + 100 → lv_has ls 4 [(2, .int (nI k)), (0, .ref (gad G 7))] → W p l e { frames := 10, cells := 4200, slots := 42000, locals := 222 } s m args below meth c H locs c1 n1 (MQ below (QiS G0 (fun r _ _ => r = 1)) args s 4200 42000 (zA G0)) (F0 m 111 ls []) := by
      intro G v H locs ls σ n r c1 n1 x Z hV hr hc1 hn1 hl
      have C0 := x.cx C00
      have hx := C0.1
      have hb := C0.2.1
      refine lv_iload_n hx hb dL_holds_111 rfl (lv_at hl 0 rfl) ?_
      refine lv_bipush (v := 13) hx hb dL_holds_112 (by decide) ?_
      refine lv_irem hx hb dL_holds_114 (by decide) ?_
      refine lv_bipush (v := 9) hx hb dL_holds_115 (by decide) ?_
      refine lv_icmp_ne (tgt := 129) hx hb dL_holds_117 (by decide) (fun _ => ?_) (fun _ => ?_)
      · exact s129 G v H locs ls σ n r c1 n1 x Z hV (by omega) (by omega) (by omega) hl
      · refine lv_aload_n hx hb dL_holds_120 rfl (lv_at hl 1 rfl) ?_
        refine s_callVi C0 Z hl.1 (As := []) (rest := []) (k_L_foretells l hst (cx_g C0) (us_foretells (Q := fun z N u => z = 1 ∧ ∃ (σ' : Nat → Int32) (n' : Nat), VI u N (r + 1) σ' n' mo) hV (by omega) (fun v' N' σ' n' h => ⟨rfl, σ', n', h⟩))) (gv_L_foretells tm_4_22) rfl ds_L_foretells ⟨(Nat.le_of_ble_eq_true rfl), (Nat.le_of_ble_eq_true rfl)⟩ (ci := 4) rfl (cx_lt C0 (by decide)) rfl rfl rfl (Nat.le_of_ble_eq_true rfl) ⟨by show _ ≤ 4200; omega, by show _ ≤ 42000; omega⟩ dL_holds_121 (fun z G2 v H locs x2 hw Z => ?_)
        obtain ⟨rfl, σ, n, hV⟩ := hw
        rw [← x2.2.2 7 (by decide)] at hl
        refine lv_if_ne (tgt := 129) hx hb dL_holds_124 (by decide) (fun _ => ?_) (fun q => absurd q (by decide))
        exact s129 G2 v H locs ls σ n (r + 1) _ _ (x.tr x2) Z hV (by omega) (by omega) (by omega) hl
    have s89 : ∀ (G : zG) (v : V3) (H : Heap) (locs : List Loc) (ls : Array Slot) (σ : Nat → Int32) (n r c1 n1 : Nat), ext G0 G → Zs G s v H locs → VI v (gn G) r σ n mo → r ≤ 1 + 7 * k + 5 → c1 ≤ 70 * k + 16 → n1 ≤ 700 * k + 100 → lv_has ls 4 [(2, .int (nI k)), (0, .ref (gad G 7))] → W p l e { frames := 10, cells := 4200, slots := 42000, locals := 222 } s m args below meth c H locs c1 n1 (MQ below (QiS G0 (fun r _ _ => r = 1)) args s 4200 42000 (zA G0)) (F0 m 89 ls []) := by
      intro G v H locs ls σ n r c1 n1 x Z hV hr hc1 hn1 hl
      have C0 := x.cx C00
      have hx := C0.1
      have hb := C0.2.1
      refine lv_iload_n hx hb dL_holds_89 rfl (lv_at hl 0 rfl) ?_
      refine lv_bipush (v := 7) hx hb dL_holds_90 (by decide) ?_
      refine lv_irem hx hb dL_holds_92 (by decide) ?_
      refine lv_iconst (v := 3) hx hb dL_holds_93 (by decide) ?_
      refine lv_icmp_ne (tgt := 111) hx hb dL_holds_94 (by decide) (fun _ => ?_) (fun _ => ?_)
      · exact s111 G v H locs ls σ n r c1 n1 x Z hV (by omega) (by omega) (by omega) hl
      · refine lv_aload_n hx hb dL_holds_97 rfl (lv_at hl 1 rfl) ?_
        refine z_callVi C0 Z hl.1 (As := []) (rest := []) (k_L_sums l (cx_g C0) (us_sums (Q := fun z u => z = 1 ∧ VI u (gn G) r σ n mo) hV (by omega) (fun v' h => ⟨rfl, h⟩))) (gv_L_sums tm_3_211) rfl ds_L_sums ⟨(Nat.le_of_ble_eq_true rfl), (Nat.le_of_ble_eq_true rfl)⟩ (ci := 4) rfl (cx_lt C0 (by decide)) rfl rfl rfl (Nat.le_of_ble_eq_true rfl) ⟨by show _ ≤ 4200; omega, by show _ ≤ 42000; omega⟩ dL_holds_98 (fun z v H locs hw Z => ?_)
        obtain ⟨rfl, hV⟩ := hw
        refine lv_if_eq (tgt := 127) hx hb dL_holds_101 (by decide) (fun q => absurd q (by decide)) (fun _ => ?_)
        refine lv_aload_n hx hb dL_holds_104 rfl (lv_at hl 1 rfl) ?_
        refine z_callVi C0 Z hl.1 (As := []) (rest := []) (k_L_lines l (cx_g C0) (us_lines (Q := fun z u => z = 1 ∧ ∃ (σ' : Nat → Int32) (n' : Nat), VI u (gn G) (r + 1) σ' n' mo) hV (by omega) (fun v' σ' n' h => ⟨rfl, σ', n', h⟩))) (gv_L_lines tm_3_236) rfl ds_L_lines ⟨(Nat.le_of_ble_eq_true rfl), (Nat.le_of_ble_eq_true rfl)⟩ (ci := 4) rfl (cx_lt C0 (by decide)) rfl rfl rfl (Nat.le_of_ble_eq_true rfl) ⟨by show _ ≤ 4200; omega, by show _ ≤ 42000; omega⟩ dL_holds_105 (fun z v H locs hw Z => ?_)
        obtain ⟨rfl, σ, n, hV⟩ := hw
        refine lv_if_eq (tgt := 127) hx hb dL_holds_108 (by decide) (fun q => absurd q (by decide)) (fun _ => ?_)
        exact s111 G v H locs ls σ n (r + 1) c1 n1 x Z hV (by omega) (by omega) (by omega) hl
    have s62 : ∀ (G : zG) (v : V3) (H : Heap) (locs : List Loc) (ls : Array Slot) (σ : Nat → Int32) (n r c1 n1 : Nat), ext G0 G → Zs G s v H locs → VI v (gn G) r σ n mo → r ≤ 1 + 7 * k + 3 → c1 ≤ 70 * k + 16 → n1 ≤ 700 * k + 100 → lv_has ls 4 [(2, .int (nI k)), (0, .ref (gad G 7))] → W p l e { frames := 10, cells := 4200, slots := 42000, locals := 222 } s m args below meth c H locs c1 n1 (MQ below (QiS G0 (fun r _ _ => r = 1)) args s 4200 42000 (zA G0)) (F0 m 62 ls [.int 1]) := by
      intro G v H locs ls σ n r c1 n1 x Z hV hr hc1 hn1 hl
      have C0 := x.cx C00
      have hx := C0.1
      have hb := C0.2.1
      refine lv_istore_n (lv' := [(3, .int 1), (2, .int (nI k)), (0, .ref (gad G 7))]) hx hb dL_holds_62 rfl hl (by decide) rfl (fun ls hl => ?_)
      refine lv_iload_n hx hb dL_holds_63 rfl (lv_at hl 0 rfl) ?_
      refine lv_if_eq (tgt := 127) hx hb dL_holds_64 (by decide) (fun q => absurd q (by decide)) (fun _ => ?_)
      refine lv_aload_n hx hb dL_holds_67 rfl (lv_at hl 2 rfl) ?_
      refine z_callVi C0 Z hl.1 (As := []) (rest := []) (k_L_areApart l (cx_g C0) (us_apart (Q := fun z u => z = 1 ∧ VI u (gn G) r σ n mo) hV.1 hV.2.1.1 ⟨rfl, hV⟩)) (gv_L_areApart tm_3_160) rfl ds_L_areApart ⟨(Nat.le_of_ble_eq_true rfl), (Nat.le_of_ble_eq_true rfl)⟩ (ci := 4) rfl (cx_lt C0 (by decide)) rfl rfl rfl (Nat.le_of_ble_eq_true rfl) ⟨by show _ ≤ 4200; omega, by show _ ≤ 42000; omega⟩ dL_holds_68 (fun z v H locs hw Z => ?_)
      obtain ⟨rfl, hV⟩ := hw
      refine lv_if_eq (tgt := 127) hx hb dL_holds_71 (by decide) (fun q => absurd q (by decide)) (fun _ => ?_)
      refine lv_aload_n hx hb dL_holds_74 rfl (lv_at hl 2 rfl) ?_
      refine lv_iconst (v := 2) hx hb dL_holds_75 (by decide) ?_
      refine z_callVi C0 Z hl.1 (As := [.int 2]) (rest := []) (k_L_draw l (cx_g C0) (us_drawJ (K := 2) (Q := fun _ u => VI u (gn G) (r + 1) σ n mo) hV (by omega) (by omega) (fun y hy v' h => VI_g h (by omega) (by omega)))) (gv_L_draw tm_1_204) rfl ds_L_draw ⟨(Nat.le_of_ble_eq_true rfl), (Nat.le_of_ble_eq_true rfl)⟩ (ci := 4) rfl (cx_lt C0 (by decide)) rfl rfl rfl (Nat.le_of_ble_eq_true rfl) ⟨by show _ ≤ 4200; omega, by show _ ≤ 42000; omega⟩ dL_holds_76 (fun y w H locs hV Z => ?_)
      refine lv_if_ne (tgt := 89) hx hb dL_holds_79 (by decide) (fun _ => ?_) (fun _ => ?_)
      · exact s89 G w H locs ls σ n (r + 1) c1 n1 x Z hV (by omega) (by omega) (by omega) (lv_sub hl [1, 2] rfl)
      · refine lv_aload_n hx hb dL_holds_82 rfl (lv_at hl 2 rfl) ?_
        refine z_callVi C0 Z hl.1 (As := []) (rest := []) (k_L_passes l (cx_g C0) (us_passes (Q := fun z u => z = 1 ∧ ∃ (σ' : Nat → Int32) (n' : Nat), VI u (gn G) ((r + 1) + 1) σ' n' mo) hV (by omega) (fun v' σ' n' h => ⟨rfl, σ', n', h⟩))) (gv_L_passes tm_3_164) rfl ds_L_passes ⟨(Nat.le_of_ble_eq_true rfl), (Nat.le_of_ble_eq_true rfl)⟩ (ci := 4) rfl (cx_lt C0 (by decide)) rfl rfl rfl (Nat.le_of_ble_eq_true rfl) ⟨by show _ ≤ 4200; omega, by show _ ≤ 42000; omega⟩ dL_holds_83 (fun z v H locs hw Z => ?_)
        obtain ⟨rfl, σ, n, hV⟩ := hw
        refine lv_if_eq (tgt := 127) hx hb dL_holds_86 (by decide) (fun q => absurd q (by decide)) (fun _ => ?_)
        exact s89 G v H locs ls σ n (r + 1 + 1) c1 n1 x Z hV (by omega) (by omega) (by omega) (lv_sub hl [1, 2] rfl)
    have s36 : ∀ (G : zG) (v : V3) (H : Heap) (locs : List Loc) (ls : Array Slot) (σ : Nat → Int32) (n r c1 n1 : Nat), ext G0 G → Zs G s v H locs → VI v (gn G) r σ n mo → r ≤ 1 + 7 * k + 1 → c1 ≤ 70 * k → n1 ≤ 700 * k → lv_has ls 4 [(2, .int (nI k)), (0, .ref (gad G 7))] → W p l e { frames := 10, cells := 4200, slots := 42000, locals := 222 } s m args below meth c H locs c1 n1 (MQ below (QiS G0 (fun r _ _ => r = 1)) args s 4200 42000 (zA G0)) (F0 m 36 ls []) := by
      intro G v H locs ls σ n r c1 n1 x Z hV hr hc1 hn1 hl
      have C0 := x.cx C00
      have hx := C0.1
      have hb := C0.2.1
      refine lv_aload_n hx hb dL_holds_36 rfl (lv_at hl 1 rfl) ?_
      refine z_ycallVi C0 Z hl.1 (As := []) (rest := []) (k_L_books l hst (cx_g C0) (us_books (Q := fun z u => z = 1 ∧ ∃ (σ' : Nat → Int32) (n' : Nat), VI u (gn G) (r + 1) σ' n' mo) hV (by omega) (fun v' σ' n' h => ⟨rfl, σ', n', h⟩))) (gv_L_books tm_2_89) rfl ds_L_books ⟨(Nat.le_of_ble_eq_true rfl), (Nat.le_of_ble_eq_true rfl)⟩ (ci := 4) rfl (cx_lt C0 (by decide)) rfl rfl rfl (Nat.le_of_ble_eq_true rfl) ⟨by show _ ≤ 4200; omega, by show _ ≤ 42000; omega⟩ dL_holds_37 (fun z v H locs hw Z => ?_)
      obtain ⟨rfl, σ, n, hV⟩ := hw
      refine lv_if_eq (tgt := 54) hx hb dL_holds_40 (by decide) (fun q => absurd q (by decide)) (fun _ => ?_)
      refine lv_aload_n hx hb dL_holds_43 rfl (lv_at hl 1 rfl) ?_
      refine z_ycallVi C0 Z hl.1 (As := []) (rest := []) (k_L_books l hst (cx_g C0) (us_books (Q := fun z u => z = 1 ∧ ∃ (σ' : Nat → Int32) (n' : Nat), VI u (gn G) ((r + 1) + 1) σ' n' mo) hV (by omega) (fun v' σ' n' h => ⟨rfl, σ', n', h⟩))) (gv_L_books tm_2_89) rfl ds_L_books ⟨(Nat.le_of_ble_eq_true rfl), (Nat.le_of_ble_eq_true rfl)⟩ (ci := 4) rfl (cx_lt C0 (by decide)) rfl rfl rfl (Nat.le_of_ble_eq_true rfl) ⟨by show _ ≤ 4200; omega, by show _ ≤ 42000; omega⟩ dL_holds_44 (fun z v H locs hw Z => ?_)
      obtain ⟨rfl, σ, n, hV⟩ := hw
      refine lv_if_eq (tgt := 54) hx hb dL_holds_47 (by decide) (fun q => absurd q (by decide)) (fun _ => ?_)
      refine lv_iconst (v := 1) hx hb dL_holds_50 (by decide) ?_
      refine lv_goto (tgt := 62) hx hb dL_holds_51 (by decide) ?_
      exact s62 G v H locs ls σ n (r + 1 + 1) _ _ x Z hV (by omega) (by omega) (by omega) hl
    intro G v H locs ls σ n x Z hV hl
    have C0 := x.cx C00
    have hx := C0.1
    have hb := C0.2.1
    refine lv_iload_n hx hb dL_holds_16 rfl (lv_at hl 0 rfl) ?_
    refine lv_bipush (v := 55) hx hb dL_holds_17 (by decide) ?_
    refine lv_icmp_ge (tgt := 163) hx hb dL_holds_19 (by decide) (fun q => absurd (show nI 55 ≤ nI k from q) (nI_ge (by omega) (by omega))) (fun _ => ?_)
    refine lv_iload_n hx hb dL_holds_22 rfl (lv_at hl 0 rfl) ?_
    refine lv_bipush (v := 6) hx hb dL_holds_23 (by decide) ?_
    refine lv_icmp_lt (tgt := 36) hx hb dL_holds_25 (by decide) (fun _ => ?_) (fun _ => ?_)
    · exact s36 G v H locs ls σ n (1 + 7 * k) _ _ x Z hV (by omega) (Nat.le_refl _) (Nat.le_refl _) hl
    · refine lv_aload_n hx hb dL_holds_28 rfl (lv_at hl 1 rfl) ?_
      refine lv_iconst (v := 3) hx hb dL_holds_29 (by decide) ?_
      refine z_callVi C0 Z hl.1 (As := [.int 3]) (rest := []) (k_L_draw l (cx_g C0) (us_drawJ (K := 3) (Q := fun _ u => VI u (gn G) ((1 + 7 * k) + 1) σ n mo) hV (by omega) (by omega) (fun y hy v' h => VI_g h (by omega) (by omega)))) (gv_L_draw tm_1_204) rfl ds_L_draw ⟨(Nat.le_of_ble_eq_true rfl), (Nat.le_of_ble_eq_true rfl)⟩ (ci := 4) rfl (cx_lt C0 (by decide)) rfl rfl rfl (Nat.le_of_ble_eq_true rfl) ⟨by show _ ≤ 4200; omega, by show _ ≤ 42000; omega⟩ dL_holds_30 (fun y w H locs hV Z => ?_)
      refine lv_if_ne (tgt := 58) hx hb dL_holds_33 (by decide) (fun _ => ?_) (fun _ => ?_)
      · refine lv_aload_n hx hb dL_holds_58 rfl (lv_at hl 1 rfl) ?_
        refine z_ycallVi C0 Z hl.1 (As := []) (rest := []) (k_L_acts l hst (cx_g C0) (us_acts (Q := fun z u => z = 1 ∧ ∃ (σ' : Nat → Int32) (n' : Nat), VI u (gn G) ((1 + 7 * k + 1) + 1) σ' n' mo) hV (by omega) (fun v' σ' n' h => ⟨rfl, σ', n', h⟩))) (gv_L_acts tm_3_17) rfl ds_L_acts ⟨(Nat.le_of_ble_eq_true rfl), (Nat.le_of_ble_eq_true rfl)⟩ (ci := 4) rfl (cx_lt C0 (by decide)) rfl rfl rfl (Nat.le_of_ble_eq_true rfl) ⟨by show _ ≤ 4200; omega, by show _ ≤ 42000; omega⟩ dL_holds_59 (fun z v H locs hw Z => ?_)
        obtain ⟨rfl, σ, n, hV⟩ := hw
        exact s62 G v H locs ls σ n (1 + 7 * k + 1 + 1) _ _ x Z hV (by omega) (by omega) (by omega) hl
      · exact s36 G w H locs ls σ n (1 + 7 * k + 1) _ _ x Z hV (by omega) (Nat.le_refl _) (Nat.le_refl _) hl
/-- the state at the law's main method: a file as at first, without owners and bookings, the law's numbers 0 -/
def SP (v : V3) (N : Nat) (σ : Nat → Int32) : Prop := LA v 8 σ 0 0 ∧ ((σ 0 = 5 ∧ σ 1 = 10 ∧ σ 2 = 4 ∧ σ 3 = 3) ∧ σ 4 = nI 32 ∧ σ 7 = 0) ∧ v 7 2 = 0 ∧ v 7 3 = 0 ∧ SV v N
set_option maxRecDepth 100000 in
set_option maxHeartbeats 8000000 in
theorem k_L_holds (l : Launch) (hst : l.stackTraces = false) {G : zG} (hg : 116 ≤ gn G) {v : V3} {σ : Nat → Int32} (hp : SP v (gn G) σ) : My l yL_holds cL_holds 4 (some .boolean) 10 222 4200 42000 G [.ref (gad G 7), .ref (gk G 3)] v (QiS G (fun r _ _ => r = 1)) := by
  refine z_yofW hg (by decide) (Nat.le_of_ble_eq_true rfl) ?_
  intro p e s m args below meth c ls C0 Z hl
  have hx := C0.1
  have hb := C0.2.1
  replace hl : lv_has ls 4 [(0, .ref (gad G 7)), (1, .ref (gk G 3))] := hl
  generalize s.heap = H at Z ⊢
  generalize ([] : List Loc) = locs at Z ⊢
  refine lv_aload_n hx hb dL_holds_0 rfl (lv_at hl 0 rfl) ?_
  refine lv_aload_n hx hb dL_holds_1 rfl (lv_at hl 1 rfl) ?_
  have e1 : ent G (up2 v 7 1 1) 7 = .inr (4, [.ref (gad G 0), .ref (gk G 3), .int (v 7 2), .int (v 7 3), .int (v 7 4)]) := eL_1 (v := up2 v 7 1 1) (by show ¬ (1 : Int32) = 0; decide)
  refine z_put (v' := up2 v 7 1 1) (x := .ref (gk G 3)) C0 Z in_L tyL_ok nmL rfl 1 (by decide) rfl rfl tm_1_182 (cx_lt C0 (by decide)) rfl e1 (fun c' h => up2_off _ _ _ h) rfl rfl (Nat.le_of_ble_eq_true rfl) dL_holds_2 (fun H locs Z => ?_)
  refine lv_aload_n hx hb dL_holds_5 rfl (lv_at hl 0 rfl) ?_
  have hs := hp
  have k7 : ∀ j, j ≠ 1 → up2 v 7 1 1 7 j = v 7 j := fun j hj => by rw [up2_row, pk_un hj]
  have nx : Nx (up2 v 7 1 1) 0 := by unfold Nx; rw [k7 2 (by decide), hp.2.2.1]; decide
  have n3 : up2 v 7 1 1 7 3 = 0 := by rw [k7 3 (by decide)]; exact hp.2.2.2.1
  have nL : LA (up2 v 7 1 1) 8 σ 0 0 := LA_c hp.1 (by omega) (by omega) (fun c q1 _ _ _ => up2_off _ _ _ (by omega))
  have nS : SV (up2 v 7 1 1) (gn G) := SV_e hp.2.2.2.2 (up2_off _ _ _ (by decide))
  refine z_callVi C0 Z hl.1 (As := []) (rest := []) (k_L_builds l (cx_g C0) (us_builds (v := up2 v 7 1 1) (N := gn G) (Q := fun z u => z = 1 ∧ ∃ (σ' : Nat → Int32) (mo : Nat), VI u (gn G) 1 σ' 0 mo) nL hp.2.1 (by show ¬ (1 : Int32) = 0; decide) nx n3 nS (fun v' σ' mo h => ⟨rfl, σ', mo, h⟩))) (gv_L_builds tm_1_200) rfl ds_L_builds ⟨(Nat.le_of_ble_eq_true rfl), (Nat.le_of_ble_eq_true rfl)⟩ (ci := 4) rfl (cx_lt C0 (by decide)) rfl rfl rfl (Nat.le_of_ble_eq_true rfl) ⟨(Nat.le_of_ble_eq_true rfl), (Nat.le_of_ble_eq_true rfl)⟩ dL_holds_6 (fun z w H locs hw Z => ?_)
  obtain ⟨rfl, σ2, mo, hV⟩ := hw
  refine lv_if_ne (tgt := 14) hx hb dL_holds_9 (by decide) (fun _ => ?_) (fun q => absurd q (by decide))
  refine lv_iconst (v := 0) hx hb dL_holds_14 (by decide) ?_
  refine lv_istore_n (lv' := [(2, .int (nI 0)), (0, .ref (gad G 7)), (1, .ref (gk G 3))]) hx hb dL_holds_15 rfl hl (by decide) rfl (fun ls hl => ?_)
  exact holds_loop l hst C0 55 0 rfl G w H locs ls σ2 0 (ext.rf hg) Z hV (lv_sub hl [0, 1] rfl)
