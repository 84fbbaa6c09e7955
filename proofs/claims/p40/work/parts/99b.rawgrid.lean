/-! RAW WORLDS: an array of int arrays -/
section ZV
variable {p : Program} {l : Launch} {e : Env} {R : Room} {s : State} {m : MethodId} {args : Array Value} {below : List Frame} {meth : Method} {c : Code} {H : Heap} {locs : List Loc} {cells slots : Nat} {Q : State → Prop}
variable {cc : ByteArray} {pc nL : Nat} {ls : Array Slot} {rest : List Value} {G : zG} {own : String} {ret : Option FieldType} {X Y Wl : va_W} {a : Nat}
theorem rows_eq (r : Nat → Nat) (f : Nat → va_E) (e0 : va_E) (N : Nat) : va_pl ([] ++ (List.range N).map r) (vr_up f ((List.range N).map r) e0) = (List.range N).map (fun i => (r i, e0)) := by
  unfold va_pl
  rw [List.nil_append, List.map_map]
  apply List.map_congr_left
  intro i hi
  show (r i, vr_up f ((List.range N).map r) e0 (r i)) = (r i, e0)
  rw [vr_up_in (List.mem_map_of_mem hi)]
theorem r_mna (C0 : Cx G own cc nL ret p s m args meth c) (Z : Zr G s (X ++ Y) H locs) {index : Nat} (hclink : Cond.classLink own index ("[" ++ (FieldType.array .int).toString) ∈ tbg) (harr : Cond.arrayClass .int ∈ tbg) {n k : Int32} {N' K' : Nat} (hn : ¬ n < 0) (hk : ¬ k < 0) (hN : n.toNatClampNeg = N') (hM : k.toNatClampNeg = K') (hb1 : N' * 4 ≤ 536870912) (hb2 : K' * componentBytes .int ≤ 536870912) (hb3 : K' ≤ 536870912) (hcells : cells + (1 + N') ≤ R.cells) (hslots : slots + (N' + N' * K') ≤ R.slots) (hdg : decode cc pc = .ok (.multianewarray index 2, 4))
    (kk : ∀ (q : Nat) (r : Nat → Nat) (H1 : Heap), Zr G s ((X ++ ((q, .inl (gcA G 5, N', .inr (.inr (.inr (.inr (fun i => if i < N' then some (r i) else none)))))) :: (List.range N').map (fun i => (r i, .inl (gcA G 0, K', .inl (fun _ => 0)))))) ++ Y) H1 locs → W p l e R s m args below meth c H1 locs (cells + 1 + N') (slots + N' + N' * K') Q (F0 m (pc + 4) ls (.ref q :: rest))) : W p l e R s m args below meth c H locs cells slots Q (F0 m pc ls (.int k :: .int n :: rest)) := by
  obtain ⟨hx, hb, -, -, -, hown, hts, K, -⟩ := C0
  have hgb := K.2.2.1
  have hcy : s.vm.findClass (FieldType.array FieldType.int).toString = some (gcA G 0) := (K.1.2 0 _ rfl).2
  have e0 : (X ++ Y) ++ va_pl [] (fun _ => .inr (0, [])) = X ++ Y := List.append_nil _
  refine va_mna (X := X ++ Y) (L := []) (f := fun _ => .inr (0, [])) (z := (K', .inl (fun _ => 0))) hx hb hown (hts _ hclink) (show (Cond.arrayOver (.array .int)).before args s = true from K.2.2.2.2.2.2.2.2.2) (hts _ harr) hcy K.1 (by rw [e0]; exact Z.1) (by rw [e0]; exact Z.2.1) Z.2.2 (fun q hq => by show gb G ≤ q; omega) hn hk hN hM hb1 hb2 hb3 rfl rfl hcells hslots (fun c => arrV_new c K' _) hdg (fun q r cA H1 _ _ hK hP hD hS => ?_)
  have e : cA = gcA G 5 := ra_uniq (hK.2 4 (cA, .array .int) rfl).2 (K.1.2 2 _ rfl).2
  subst e
  rw [rows_eq, List.append_assoc (X ++ Y)] at hP hD
  exact kk q r H1 ⟨va_P.swap hP, va_D.swap hD, hS⟩
end ZV
