/-! MORE ROWS OVER THE STATE: constant places, Math, statics, copies -/
abbrev ix (x : Int32) : Nat := x.toNatClampNeg
def zabs (x : Int32) : Int32 := if 0 ≤ x then x else 0 - x
def zmax (x y : Int32) : Int32 := if x < y then y else x
def zmin (x y : Int32) : Int32 := if y < x then y else x
def zushr (x y : Int32) : Int32 := (x.toUInt32 >>> (y.toUInt32 &&& Int32.toUInt32 31)).toInt32
/-- an int array that is handed over -/
def isIA (G : zG) (c N : Nat) : Prop := c < gn G ∧ ∀ w : V3, ent G w c = .inl (gcA G 0, N, .inl (w c))
/-- n places of cell a over those of cell b -/
def cp2 (v : V3) (a b n : Nat) : V3 := fun c => if c = b then (fun j => if j < n then v a j else v b j) else v c
def cpT (v : V3) (b : Nat) (f : Nat → Int32) (n : Nat) : V3 := fun c => if c = b then (fun j => if j < n then f j else v b j) else v c
theorem z_nb {x : Int32} (h : x = 0 ∨ x = 1) : narrow .boolean (.int x) = .int x := by rcases h with h | h <;> subst h <;> rfl
theorem z_fb {x : Int32} (h : x = 0 ∨ x = 1) : fits .boolean (.int x) = true := by rcases h with h | h <;> subst h <;> rfl
section ZR2
variable {p : Program} {l : Launch} {e : Env} {R : Room} {s : State} {m : MethodId} {args : Array Value} {below : List Frame} {meth : Method} {c : Code} {H : Heap} {locs : List Loc} {cells slots : Nat} {Q : State → Prop}
variable {cc : ByteArray} {pc nL : Nat} {ls : Array Slot} {rest : List Value} {G : zG} {v : V3} {own : String} {ret : Option FieldType}
theorem cx_g (C0 : Cx G own cc nL ret p s m args meth c) : 116 ≤ gn G := C0.2.2.2.2.2.2.2.2
theorem cx_lt (C0 : Cx G own cc nL ret p s m args meth c) {k : Nat} (h : k < 116) : k < gn G := Nat.lt_of_lt_of_le h (cx_g C0)
theorem cx_own (C0 : Cx G own cc nL ret p s m args meth c) : s.vm.findClass own = some m.cls := C0.2.2.2.2.2.1
theorem cx_w (C0 : Cx G own cc nL ret p s m args meth c) {w : Cond} (h : w ∈ tbg) : w.before args s = true := C0.2.2.2.2.2.2.1 w h
theorem cx_K (C0 : Cx G own cc nL ret p s m args meth c) : KW G s := C0.2.2.2.2.2.2.2.1
theorem z_ialdk (C0 : Cx G own cc nL ret p s m args meth c) (Z : Zs G s v H locs) {c0 N j : Nat} {f : Nat → Int32} (hc0 : c0 < gn G) (he : ent G v c0 = .inl (gcA G 0, N, .inl f)) {i : Int32} (hin : vp_in i N) (hj : ix i = j) (hdg : decode cc pc = .ok (.iaload, 1))
    (kk : W p l e R s m args below meth c H locs cells slots Q (F0 m (pc + 1) ls (.int (f j) :: rest))) : W p l e R s m args below meth c H locs cells slots Q (F0 m pc ls (.int i :: .ref (gad G c0) :: rest)) := by
  subst hj
  exact z_iald C0 Z hc0 he hin hdg kk
theorem z_baldk (C0 : Cx G own cc nL ret p s m args meth c) (Z : Zs G s v H locs) {c0 N j : Nat} {f : Nat → Int32} (hc0 : c0 < gn G) (he : ent G v c0 = .inl (gcA G 1, N, .inl f)) {i : Int32} (hin : vp_in i N) (hj : ix i = j) (hdg : decode cc pc = .ok (.baload, 1))
    (kk : W p l e R s m args below meth c H locs cells slots Q (F0 m (pc + 1) ls (.int (f j) :: rest))) : W p l e R s m args below meth c H locs cells slots Q (F0 m pc ls (.int i :: .ref (gad G c0) :: rest)) := by
  subst hj
  exact z_bald C0 Z hc0 he hin hdg kk
theorem z_iastk (C0 : Cx G own cc nL ret p s m args meth c) (Z : Zs G s v H locs) {c0 N j : Nat} (hc0 : c0 < gn G) (he : ∀ w : V3, ent G w c0 = .inl (gcA G 0, N, .inl (w c0))) {i x : Int32} (hin : vp_in i N) (hj : ix i = j) (hdg : decode cc pc = .ok (.iastore, 1))
    (kk : ∀ (H1 : Heap) (locs1 : List Loc), Zs G s (up2 v c0 j x) H1 locs1 → W p l e R s m args below meth c H1 locs1 cells slots Q (F0 m (pc + 1) ls rest)) : W p l e R s m args below meth c H locs cells slots Q (F0 m pc ls (.int x :: .int i :: .ref (gad G c0) :: rest)) := by
  subst hj
  exact z_iast C0 Z hc0 he hin hdg kk
theorem z_abs (C0 : Cx G own cc nL ret p s m args meth c) (hl : ls.size = nL) {index : Nat} (hlink : Cond.methodLink own index Lib.Math.abs.name ∈ tbg) (hf : 1 ≤ R.frames) (hlo : (rest.map fun v => v.category).sum + 13 ≤ R.locals) (hc : cells ≤ R.cells) (hs : slots ≤ R.slots) {x : Int32} (hdg : decode cc pc = .ok (.invokestatic index, 3))
    (kk : W p l e R s m args below meth c H locs cells slots Q (F0 m (pc + 3) ls (.int (zabs x) :: rest))) : W p l e R s m args below meth c H locs cells slots Q (F0 m pc ls (.int x :: rest)) :=
  va_mabs C0.1 C0.2.1 (C0.2.2.1.trans hl.symm) (cx_own C0) (cx_w C0 hlink) (cx_w C0 tm_abs_s) (cx_w C0 tm_math) (cx_w C0 tm_abs_c) hf hlo hc hs hdg kk
theorem z_max (C0 : Cx G own cc nL ret p s m args meth c) (hl : ls.size = nL) {index : Nat} (hlink : Cond.methodLink own index Lib.Math.max.name ∈ tbg) (hf : 1 ≤ R.frames) (hlo : (rest.map fun v => v.category).sum + 13 ≤ R.locals) (hc : cells ≤ R.cells) (hs : slots ≤ R.slots) {x y : Int32} (hdg : decode cc pc = .ok (.invokestatic index, 3))
    (kk : W p l e R s m args below meth c H locs cells slots Q (F0 m (pc + 3) ls (.int (zmax x y) :: rest))) : W p l e R s m args below meth c H locs cells slots Q (F0 m pc ls (.int y :: .int x :: rest)) :=
  va_mmax C0.1 C0.2.1 (C0.2.2.1.trans hl.symm) (cx_own C0) (cx_w C0 hlink) (cx_w C0 tm_max_s) (cx_w C0 tm_math) (cx_w C0 tm_max_c) hf hlo hc hs hdg kk
theorem z_min (C0 : Cx G own cc nL ret p s m args meth c) (hl : ls.size = nL) {index : Nat} (hlink : Cond.methodLink own index Lib.Math.min.name ∈ tbg) (hf : 1 ≤ R.frames) (hlo : (rest.map fun v => v.category).sum + 13 ≤ R.locals) (hc : cells ≤ R.cells) (hs : slots ≤ R.slots) {x y : Int32} (hdg : decode cc pc = .ok (.invokestatic index, 3))
    (kk : W p l e R s m args below meth c H locs cells slots Q (F0 m (pc + 3) ls (.int (zmin x y) :: rest))) : W p l e R s m args below meth c H locs cells slots Q (F0 m pc ls (.int y :: .int x :: rest)) :=
  va_mmin C0.1 C0.2.1 (C0.2.2.1.trans hl.symm) (cx_own C0) (cx_w C0 hlink) (cx_w C0 tm_min_s) (cx_w C0 tm_math) (cx_w C0 tm_min_c) hf hlo hc hs hdg kk
end ZR2
