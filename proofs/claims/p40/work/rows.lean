section
/-! the grid rows stand on a part of the library that a first round doesn't read: met here first -/
abbrev gOuter := Jvm.Free.Multi.outerC
end
section
-- ===== PART A: goes FIRST, ahead of the names: the tables' words, and 'selects' of the private methods out of them =====
/-- a private method of a class that the tables say can be made, by its rows of tables_1 -/
def lw_okq (q : MethodName × Nat) : Prop := (q.1.cls ≠ "java/lang/invoke/MethodHandle" ∧ q.1.cls ≠ "java/lang/invoke/VarHandle") ∧ Cond.instantiable q.1.cls q.2 ∈ tables_1 ∧ Cond.privateMethod q.1 ∈ tables_1 ∧ Cond.instanceMethod q.1 ∈ tables_1
theorem lw_p0 : lw_okq (⟨"SpanLodgeLaw", "holds", "([I)Z"⟩, 5) := ⟨⟨by decide +kernel, by decide +kernel⟩, List.mem_of_getElem? (i := 14) (by decide +kernel), List.mem_of_getElem? (i := 197) (by decide +kernel), List.mem_of_getElem? (i := 198) (by decide +kernel)⟩
theorem lw_p1 : lw_okq (⟨"SpanLodgeLaw", "builds", "()Z"⟩, 5) := ⟨⟨by decide +kernel, by decide +kernel⟩, List.mem_of_getElem? (i := 14) (by decide +kernel), List.mem_of_getElem? (i := 201) (by decide +kernel), List.mem_of_getElem? (i := 202) (by decide +kernel)⟩
theorem lw_p2 : lw_okq (⟨"SpanLodgeLaw", "draw", "(I)I"⟩, 5) := ⟨⟨by decide +kernel, by decide +kernel⟩, List.mem_of_getElem? (i := 14) (by decide +kernel), List.mem_of_getElem? (i := 205) (by decide +kernel), List.mem_of_getElem? (i := 206) (by decide +kernel)⟩
theorem lw_p3 : lw_okq (⟨"java/lang/Throwable", "fillInStackTrace", "(I)Ljava/lang/Throwable;"⟩, 6) := ⟨⟨by decide +kernel, by decide +kernel⟩, List.mem_of_getElem? (i := 270) (by decide +kernel), List.mem_of_getElem? (i := 268) (by decide +kernel), List.mem_of_getElem? (i := 269) (by decide +kernel)⟩
theorem lw_p4 : lw_okq (⟨"SpanLodgeLaw", "books", "()Z"⟩, 5) := ⟨⟨by decide +kernel, by decide +kernel⟩, List.mem_of_getElem? (i := 14) (by decide +kernel), List.mem_of_getElem? (i := 330) (by decide +kernel), List.mem_of_getElem? (i := 331) (by decide +kernel)⟩
theorem lw_p5 : lw_okq (⟨"SpanLodge", "needSpan", "(II)V"⟩, 14) := ⟨⟨by decide +kernel, by decide +kernel⟩, List.mem_of_getElem? (i := 22) (by decide +kernel), List.mem_of_getElem? (i := 362) (by decide +kernel), List.mem_of_getElem? (i := 363) (by decide +kernel)⟩
theorem lw_p6 : lw_okq (⟨"SpanLodge", "needByte", "(I)V"⟩, 14) := ⟨⟨by decide +kernel, by decide +kernel⟩, List.mem_of_getElem? (i := 22) (by decide +kernel), List.mem_of_getElem? (i := 366) (by decide +kernel), List.mem_of_getElem? (i := 367) (by decide +kernel)⟩
theorem lw_p7 : lw_okq (⟨"SpanLodge", "needOwner", "(I)V"⟩, 14) := ⟨⟨by decide +kernel, by decide +kernel⟩, List.mem_of_getElem? (i := 22) (by decide +kernel), List.mem_of_getElem? (i := 395) (by decide +kernel), List.mem_of_getElem? (i := 396) (by decide +kernel)⟩
theorem lw_p8 : lw_okq (⟨"SpanLodge", "needBooking", "(I)V"⟩, 14) := ⟨⟨by decide +kernel, by decide +kernel⟩, List.mem_of_getElem? (i := 22) (by decide +kernel), List.mem_of_getElem? (i := 486) (by decide +kernel), List.mem_of_getElem? (i := 487) (by decide +kernel)⟩
theorem lw_p9 : lw_okq (⟨"SpanLodgeLaw", "acts", "()Z"⟩, 5) := ⟨⟨by decide +kernel, by decide +kernel⟩, List.mem_of_getElem? (i := 14) (by decide +kernel), List.mem_of_getElem? (i := 498) (by decide +kernel), List.mem_of_getElem? (i := 499) (by decide +kernel)⟩
theorem lw_p10 : lw_okq (⟨"SpanLodge$Ledger", "queueUp", "()I"⟩, 11) := ⟨⟨by decide +kernel, by decide +kernel⟩, List.mem_of_getElem? (i := 28) (by decide +kernel), List.mem_of_getElem? (i := 513) (by decide +kernel), List.mem_of_getElem? (i := 514) (by decide +kernel)⟩
theorem lw_p11 : lw_okq (⟨"SpanLodgeLaw", "nobodyCould", "()Z"⟩, 5) := ⟨⟨by decide +kernel, by decide +kernel⟩, List.mem_of_getElem? (i := 14) (by decide +kernel), List.mem_of_getElem? (i := 524) (by decide +kernel), List.mem_of_getElem? (i := 525) (by decide +kernel)⟩
theorem lw_p12 : lw_okq (⟨"SpanLodge$Broker", "priceOf", "(II)I"⟩, 2) := ⟨⟨by decide +kernel, by decide +kernel⟩, List.mem_of_getElem? (i := 98) (by decide +kernel), List.mem_of_getElem? (i := 572) (by decide +kernel), List.mem_of_getElem? (i := 573) (by decide +kernel)⟩
theorem lw_p13 : lw_okq (⟨"SpanLodge$Broker", "findBestSwap", "()V"⟩, 2) := ⟨⟨by decide +kernel, by decide +kernel⟩, List.mem_of_getElem? (i := 98) (by decide +kernel), List.mem_of_getElem? (i := 587) (by decide +kernel), List.mem_of_getElem? (i := 588) (by decide +kernel)⟩
theorem lw_p14 : lw_okq (⟨"SpanLodge$Broker", "keepBetter", "(IIII)V"⟩, 2) := ⟨⟨by decide +kernel, by decide +kernel⟩, List.mem_of_getElem? (i := 98) (by decide +kernel), List.mem_of_getElem? (i := 593) (by decide +kernel), List.mem_of_getElem? (i := 594) (by decide +kernel)⟩
theorem lw_p15 : lw_okq (⟨"SpanLodge$Broker", "findBestBuyout", "()V"⟩, 2) := ⟨⟨by decide +kernel, by decide +kernel⟩, List.mem_of_getElem? (i := 98) (by decide +kernel), List.mem_of_getElem? (i := 597) (by decide +kernel), List.mem_of_getElem? (i := 598) (by decide +kernel)⟩
def lw_privs_1 : List (MethodName × Nat) := [(⟨"SpanLodgeLaw", "holds", "([I)Z"⟩, 5), (⟨"SpanLodgeLaw", "builds", "()Z"⟩, 5), (⟨"SpanLodgeLaw", "draw", "(I)I"⟩, 5), (⟨"java/lang/Throwable", "fillInStackTrace", "(I)Ljava/lang/Throwable;"⟩, 6), (⟨"SpanLodgeLaw", "books", "()Z"⟩, 5), (⟨"SpanLodge", "needSpan", "(II)V"⟩, 14), (⟨"SpanLodge", "needByte", "(I)V"⟩, 14), (⟨"SpanLodge", "needOwner", "(I)V"⟩, 14), (⟨"SpanLodge", "needBooking", "(I)V"⟩, 14), (⟨"SpanLodgeLaw", "acts", "()Z"⟩, 5), (⟨"SpanLodge$Ledger", "queueUp", "()I"⟩, 11), (⟨"SpanLodgeLaw", "nobodyCould", "()Z"⟩, 5), (⟨"SpanLodge$Broker", "priceOf", "(II)I"⟩, 2), (⟨"SpanLodge$Broker", "findBestSwap", "()V"⟩, 2), (⟨"SpanLodge$Broker", "keepBetter", "(IIII)V"⟩, 2), (⟨"SpanLodge$Broker", "findBestBuyout", "()V"⟩, 2)]
theorem lw_r1 : ∀ q ∈ lw_privs_1, lw_okq q := List.forall_mem_cons.mpr ⟨lw_p0, List.forall_mem_cons.mpr ⟨lw_p1, List.forall_mem_cons.mpr ⟨lw_p2, List.forall_mem_cons.mpr ⟨lw_p3, List.forall_mem_cons.mpr ⟨lw_p4, List.forall_mem_cons.mpr ⟨lw_p5, List.forall_mem_cons.mpr ⟨lw_p6, List.forall_mem_cons.mpr ⟨lw_p7, List.forall_mem_cons.mpr ⟨lw_p8, List.forall_mem_cons.mpr ⟨lw_p9, List.forall_mem_cons.mpr ⟨lw_p10, List.forall_mem_cons.mpr ⟨lw_p11, List.forall_mem_cons.mpr ⟨lw_p12, List.forall_mem_cons.mpr ⟨lw_p13, List.forall_mem_cons.mpr ⟨lw_p14, List.forall_mem_cons.mpr ⟨lw_p15, fun _ h => absurd h List.not_mem_nil⟩⟩⟩⟩⟩⟩⟩⟩⟩⟩⟩⟩⟩⟩⟩⟩
theorem lw_p16 : lw_okq (⟨"SpanLodge$Broker", "countBargain", "(II)V"⟩, 2) := ⟨⟨by decide +kernel, by decide +kernel⟩, List.mem_of_getElem? (i := 98) (by decide +kernel), List.mem_of_getElem? (i := 614) (by decide +kernel), List.mem_of_getElem? (i := 615) (by decide +kernel)⟩
theorem lw_p17 : lw_okq (⟨"SpanLodgeLaw", "areApart", "()Z"⟩, 5) := ⟨⟨by decide +kernel, by decide +kernel⟩, List.mem_of_getElem? (i := 14) (by decide +kernel), List.mem_of_getElem? (i := 641) (by decide +kernel), List.mem_of_getElem? (i := 642) (by decide +kernel)⟩
theorem lw_p18 : lw_okq (⟨"SpanLodgeLaw", "passes", "()Z"⟩, 5) := ⟨⟨by decide +kernel, by decide +kernel⟩, List.mem_of_getElem? (i := 14) (by decide +kernel), List.mem_of_getElem? (i := 645) (by decide +kernel), List.mem_of_getElem? (i := 646) (by decide +kernel)⟩
theorem lw_p19 : lw_okq (⟨"SpanLodge$Ledger", "finishHeld", "()I"⟩, 11) := ⟨⟨by decide +kernel, by decide +kernel⟩, List.mem_of_getElem? (i := 28) (by decide +kernel), List.mem_of_getElem? (i := 671) (by decide +kernel), List.mem_of_getElem? (i := 672) (by decide +kernel)⟩
theorem lw_p20 : lw_okq (⟨"SpanLodge$Ledger", "bumpLate", "()I"⟩, 11) := ⟨⟨by decide +kernel, by decide +kernel⟩, List.mem_of_getElem? (i := 28) (by decide +kernel), List.mem_of_getElem? (i := 675) (by decide +kernel), List.mem_of_getElem? (i := 676) (by decide +kernel)⟩
theorem lw_p21 : lw_okq (⟨"SpanLodge$Ledger", "expireWaiting", "()V"⟩, 11) := ⟨⟨by decide +kernel, by decide +kernel⟩, List.mem_of_getElem? (i := 28) (by decide +kernel), List.mem_of_getElem? (i := 679) (by decide +kernel), List.mem_of_getElem? (i := 680) (by decide +kernel)⟩
theorem lw_p22 : lw_okq (⟨"SpanLodgeLaw", "sums", "()Z"⟩, 5) := ⟨⟨by decide +kernel, by decide +kernel⟩, List.mem_of_getElem? (i := 14) (by decide +kernel), List.mem_of_getElem? (i := 692) (by decide +kernel), List.mem_of_getElem? (i := 693) (by decide +kernel)⟩
theorem lw_p23 : lw_okq (⟨"SpanLodgeLaw", "lines", "()Z"⟩, 5) := ⟨⟨by decide +kernel, by decide +kernel⟩, List.mem_of_getElem? (i := 14) (by decide +kernel), List.mem_of_getElem? (i := 717) (by decide +kernel), List.mem_of_getElem? (i := 718) (by decide +kernel)⟩
theorem lw_p24 : lw_okq (⟨"SpanLodgeLaw", "foretells", "()Z"⟩, 5) := ⟨⟨by decide +kernel, by decide +kernel⟩, List.mem_of_getElem? (i := 14) (by decide +kernel), List.mem_of_getElem? (i := 743) (by decide +kernel), List.mem_of_getElem? (i := 744) (by decide +kernel)⟩
theorem lw_p25 : lw_okq (⟨"SpanLodge", "resetDraft", "()V"⟩, 14) := ⟨⟨by decide +kernel, by decide +kernel⟩, List.mem_of_getElem? (i := 22) (by decide +kernel), List.mem_of_getElem? (i := 769) (by decide +kernel), List.mem_of_getElem? (i := 770) (by decide +kernel)⟩
def lw_privs_2 : List (MethodName × Nat) := [(⟨"SpanLodge$Broker", "countBargain", "(II)V"⟩, 2), (⟨"SpanLodgeLaw", "areApart", "()Z"⟩, 5), (⟨"SpanLodgeLaw", "passes", "()Z"⟩, 5), (⟨"SpanLodge$Ledger", "finishHeld", "()I"⟩, 11), (⟨"SpanLodge$Ledger", "bumpLate", "()I"⟩, 11), (⟨"SpanLodge$Ledger", "expireWaiting", "()V"⟩, 11), (⟨"SpanLodgeLaw", "sums", "()Z"⟩, 5), (⟨"SpanLodgeLaw", "lines", "()Z"⟩, 5), (⟨"SpanLodgeLaw", "foretells", "()Z"⟩, 5), (⟨"SpanLodge", "resetDraft", "()V"⟩, 14)]
theorem lw_r2 : ∀ q ∈ lw_privs_2, lw_okq q := List.forall_mem_cons.mpr ⟨lw_p16, List.forall_mem_cons.mpr ⟨lw_p17, List.forall_mem_cons.mpr ⟨lw_p18, List.forall_mem_cons.mpr ⟨lw_p19, List.forall_mem_cons.mpr ⟨lw_p20, List.forall_mem_cons.mpr ⟨lw_p21, List.forall_mem_cons.mpr ⟨lw_p22, List.forall_mem_cons.mpr ⟨lw_p23, List.forall_mem_cons.mpr ⟨lw_p24, List.forall_mem_cons.mpr ⟨lw_p25, fun _ h => absurd h List.not_mem_nil⟩⟩⟩⟩⟩⟩⟩⟩⟩⟩
def lw_privs : List (MethodName × Nat) := lw_privs_1 ++ (lw_privs_2)
def lw_tbl : List Cond := k2_sels lw_privs ++ tables_1
theorem lw_privs_ok : ∀ q ∈ lw_privs, lw_okq q := by
  show ∀ q ∈ lw_privs_1 ++ (lw_privs_2), lw_okq q
  exact List.forall_mem_append.mpr ⟨lw_r1, lw_r2⟩
/-- the streams that the claim lets the run draw from -/
abbrev lw_cs : List Choice := [Jvm.Choice.named "NaN.bits"]
theorem lw_bits : nanBits ∈ lw_cs := by first | decide | exact List.mem_cons_self | simp [lw_cs, nanBits]

/-! ===== BEGIN words of one list among another's, by their places ===== -/
theorem goodIn_r {big : List Cond} (ws : List Cond) (ps : List Nat) (hp : ws = ps.filterMap (fun i => big[i]?)) (h : ws.all goodWord = true) : GoodIn big ws := by
  intro w hw
  have h1 := List.all_eq_true.mp h w hw
  rw [hp] at hw
  obtain ⟨i, -, hi⟩ := List.mem_filterMap.mp hw
  have hm : w ∈ big := by first | exact List.mem_of_getElem? hi | exact List.getElem?_mem hi
  exact ⟨hm, good_of_word h1⟩
theorem goodIn_app {big a b : List Cond} (ha : GoodIn big a) (hb : GoodIn big b) : GoodIn big (a ++ b) := fun w h => (List.mem_append.mp h).elim (ha w) (hb w)
theorem goodIn_ca {big a b : List Cond} {c : Cond} (ha : GoodIn big (c :: a)) (hb : GoodIn big b) : GoodIn big (c :: (a ++ b)) := fun w h => (List.mem_cons.mp h).elim (fun e => ha w (List.mem_cons.mpr (Or.inl e))) (fun h => (List.mem_append.mp h).elim (fun h => ha w (List.mem_cons.mpr (Or.inr h))) (hb w))
theorem goodIn_sub {big ws : List Cond} (hm : ∀ w ∈ ws, w ∈ big) (h : ws.all goodWord = true) : GoodIn big ws := fun w hw => ⟨hm w hw, good_of_word (List.all_eq_true.mp h w hw)⟩
/-! ===== END ===== -/



/-! ===== BEGIN exceptions that leave a method, and their catching by the caller (launches without stack traces) ===== -/
section VXA
/-! The laws vx_back, vx_callV, vx_callS, vx_callSW, vx_throw0, vx_throwS follow proofs of the library, with one case more: JvmDerived/Free/Laws.lean (Back.of_free), Shelf42/LK1.lean (callV, callS), Shelf/KitTraced.lean (throwNew0V, throwNewS). -/
/-- where a method has thrown q: the class by its name, the cell, what was written, the world -/
def vx_T (XC : String → State → State → Prop) (st : State) (q : Addr) (t : State) (mc ms : Nat) (free : Addr → Prop) : Prop :=
  ∃ (E : String) (ce : Cell) (L : List Loc), XC E st t ∧ t.heap[q]? = some ce ∧ ce.vm = .none ∧ st.vm.findClass E = some ce.cls ∧ st.WarmedH t.vm ∧ st.sameButNew ({ t with vm := st.vm } : State) L mc ms ∧ ∀ z ∈ L, free z.base
def vx_Q (Qc : Array Value → State → Outcome → State → Prop) (XC : String → State → State → Prop) (mc ms : Nat) (free : Addr → Prop) : Array Value → State → Outcome → State → Prop := fun a st o t =>
  (Qc a st o t ∧ ∃ L, FrameEnd st o t L mc ms ∧ ∀ q ∈ L, free q.base) ∨ ∃ q, o = .threw q ∧ vx_T XC st q t mc ms free
/-- a callee that returns or throws -/
def vx_Met (l : Launch) (y : MethodName) (ws : List Cond) (rm : Room) (Pc : Array Value → State → Prop) (Qc : Array Value → State → Outcome → State → Prop) (XC : String → State → State → Prop) (mc ms : Nat) (free : Addr → Prop) : Prop :=
  MetFree l y (headSpec ws rm) Pc (fun _ _ _ _ _ => True) (vx_Q Qc XC mc ms free)
def vx_Post (XC : String → State → State → Prop) (mc ms : Nat) (free : Addr → Prop) : Pt → Array Value → Addr → Pt → Prop := fun A a q B =>
  ∃ (g : JFrame) (mk : MethodId) (t : State) (L : List Loc) (E : String) (ce : Cell), B.U.heap = t.heap ∧ B.U.vm = t.vm ∧ XC E (A.U.calling g mk a) t ∧ t.heap[q]? = some ce ∧ ce.vm = .none ∧ A.U.vm.findClass E = some ce.cls ∧ B.locs = A.locs ++ L ∧ (∀ z ∈ L, free z.base) ∧ B.cells = A.cells + mc ∧ B.slots = A.slots + ms
def vx_Back (l : Launch) (R : Room) (p : Program) (e : Env) (below : List Frame) (s : State) (sargs : Array Value) (y : MethodName) (len W9 : Nat)
    (Pre : Pt → Array Value → Prop) (Post : Pt → Array Value → Option Value → Pt → Prop) (PostX : Pt → Array Value → Addr → Pt → Prop) : Prop :=
  ∀ (m : MethodId) (meth : Method) (c : Code) (A : Pt) (g : JFrame) (ig : Instr) (mk : MethodId) (a : Array Value),
    Stand p l e R s m sargs below meth c A.U A.locs A.cells A.slots → g.method = m → g.locals.size = c.maxLocals → decode c.code g.pc = .ok (ig, len) →
    2 * g.monitorRoom + (g.stack.map fun v => v.category).sum ≤ W9 → A.U.methodNamed? y = some mk → Pre A a →
    (∃ (v : Option Value) (B : Pt), Stand p l e R s m sargs below meth c B.U B.locs B.cells B.slots ∧ Post A a v B ∧
      Steps p.tables e below (doInvoke e (A.U.setTop g) [] mk a).1 (B.U.setTop { g with pc := g.pc + len, stack := v.toList ++ g.stack })) ∨
    (∃ (q : Addr) (B : Pt), Stand p l e R s m sargs below meth c B.U B.locs B.cells B.slots ∧ PostX A a q B ∧
      Steps p.tables e below (doInvoke e (A.U.setTop g) [] mk a).1 ((B.U.setTop g).pushFrame (.throwing q)))
section Payer
variable {l : Launch} {R : Room} {p : Program} {e : Env} {below : List Frame} {s : State} {sargs : Array Value} {y : MethodName} {len W9 : Nat}
theorem vx_back {ws : List Cond} {rm : Room} {Pc : Array Value → State → Prop} {Qc : Array Value → State → Outcome → State → Prop} {XC : String → State → State → Prop} {mc ms : Nat} {free : Addr → Prop} {bytes : ByteArray} {maxL : Nat} {ret : Option FieldType}
    (hM : vx_Met l y ws rm Pc Qc XC mc ms free) (hblind : FrameBlind Pc) (hrc : rm.cells = mc) (hrs : rm.slots = ms)
    (hframes : rm.frames + 1 ≤ R.frames) (hlocals : W9 + (maxL + 11) + rm.locals ≤ R.locals)
    (hws : ∀ w ∈ ws, ∀ a' U, s.WarmedH U.vm → w.before a' U = true) (hcode : Cond.code y bytes maxL ret ∈ ws) (hinit : ∀ a' U, s.WarmedH U.vm → (Cond.initialized y.cls).before a' U = true) :
    vx_Back l R p e below s sargs y len W9 (PreOf R mc ms Pc) (PostOf Qc mc ms free) (vx_Post XC mc ms free) := by
  intro m meth c A g ig mk a X hg hsize hdg hW hn hp
  have h1 : (headSpec ws rm).pre.before a A.U = true := atoms_intro fun w hw => hws w hw _ _ X.warmed
  have h2 : (Cond.code y bytes maxL ret).before a A.U = true := hws _ hcode _ _ X.warmed
  have h3 : (Cond.initialized y.cls).before a A.U = true := hinit _ _ X.warmed
  have h4 : A.cells + (headSpec ws rm).room.cells ≤ R.cells := by rw [show (headSpec ws rm).room.cells = mc from hrc]; exact hp.1
  have h5 : A.slots + (headSpec ws rm).room.slots ≤ R.slots := by rw [show (headSpec ws rm).room.slots = ms from hrs]; exact hp.2.1
  have hPc : Pc a (A.U.calling g mk a) := hblind _ _ _ _ hp.2.2
  obtain ⟨U, Ls, c0, s0⟩ := A
  dsimp only [Pt.U, Pt.locs, Pt.cells, Pt.slots] at h1 h2 h3 h4 h5 X hn hPc ⊢
  obtain ⟨methY, cY, hmY, hcY, -, hlY, -, -, -, -⟩ := Cond.code_spec hn h2
  obtain ⟨kY, hkY, -⟩ := className_of_methodNamed hn
  have hinitY : kY.init = .initialized := Cond.initialized_spec (findClass_of_methodNamed hn) hkY h3
  have h : At U g.method c below := by rw [hg]; exact X.here
  have hlocals9 : W9 + (maxL + 11) + (headSpec ws rm).room.locals ≤ R.locals := hlocals
  have happ : (headSpec ws rm).appliesLoose y e.platform (U.calling g mk a) = true :=
    Spec.appliesLoose_calling (g := g) h hdg hn hkY hinitY
      (X.room_calling (g := g) (R' := (headSpec ws rm).room) hsize hmY hcY hframes (by rw [hlY]; omega) h4 h5) h1
  obtain ⟨mid, hmid⟩ := h.above
  have hfr : (U.setTop g).frames = (.java g :: mid) ++ below := by rw [State.frames_setTop' g h.top, hmid]; rfl
  obtain ⟨o, s₂, hsteps, -, hend, hq⟩ := Steps.callFree hM p X.admits X.cas X.clock (acts := []) hfr happ hPc trivial
  have hq' : vx_Q Qc XC mc ms free a (U.calling g mk a) o s₂ := hq
  rw [State.frames_setTop' g h.top] at hend
  obtain ⟨g₀, hg0⟩ := Option.isSome_iff_exists.mp h.top
  obtain ⟨r, hr⟩ := State.topJava?_eq_some.mp hg0
  have hr' : (({ U with heap := s₂.heap, slotsUsed := s₂.slotsUsed } : State).setVm s₂.vm).frames = .java g₀ :: r := hr
  rcases hq' with ⟨hqc, L, hfe, hL⟩ | ⟨q, rfl, E, ce, L, hx, hce, hcv, hcl, hW₂, hsm, hL⟩
  · obtain ⟨⟨v, rfl⟩, hW₂, e2, q2, q3, q4, q5, q6⟩ := id hfe
    have e3 : s₂ = ({ (U.calling g mk a).setFrames s₂.frames with heap := s₂.heap, slotsUsed := s₂.slotsUsed } : State).setVm s₂.vm := by
      have : s₂ = ({ s₂ with vm := (U.calling g mk a).vm } : State).setVm s₂.vm := rfl
      rw [e2] at this
      exact this
    obtain ⟨c₂, i₂, len₂, hc₂, hd₂, hf₂⟩ := hend
    have hW' : U.WarmedH s₂.vm := hW₂
    have hcc : c₂ = c := by
      have h1 : s₂.code? g.method = U.code? g.method := by
        rw [State.code?_eq, State.code?_eq, hW'.alike.method?]
      exact Option.some.inj (hc₂.symm.trans (h1.trans h.code))
    subst hcc
    have hlen : len₂ = len := by rw [hdg] at hd₂; cases hd₂; rfl
    subst hlen
    have hs₂ : s₂ = (({ U with heap := s₂.heap, slotsUsed := s₂.slotsUsed } : State).setVm s₂.vm).setTop { g with pc := g.pc + len₂, stack := v.toList ++ g.stack } := by
      refine e3.trans ?_
      rw [hf₂, State.calling_eq h.top, State.setFrames_setFrames, State.setTop_of_frames _ hr', hr]
      rfl
    have hsame : U.sameButNew ({ U with heap := s₂.heap, slotsUsed := s₂.slotsUsed } : State) L mc ms := by
      refine ⟨?_, q2, q3, q4, q5, q6⟩
      obtain ⟨t, ht, -⟩ := State.frames_cons hr
      show ({ U with heap := s₂.heap, slotsUsed := s₂.slotsUsed } : State) = { U.setFrames U.frames with heap := s₂.heap, slotsUsed := s₂.slotsUsed }
      rw [State.setFrames_self ht]
    subst hg
    refine Or.inl ⟨v, ⟨(({ U with heap := s₂.heap, slotsUsed := s₂.slotsUsed } : State).setVm s₂.vm), Ls ++ L, c0 + mc, s0 + ms⟩,
      ⟨X.admits, X.cas, X.clock, X.frames, X.room, X.hears, X.method, X.code, (X.here.setHeapUsed s₂.heap s₂.slotsUsed).setVm hW'.alike, X.tail, State.WarmedH.trans X.warmed hW', X.limits, X.bytes, X.same.trans (hsame.setVm s.vm)⟩,
      ⟨g, mk, s₂, L, rfl, rfl, hqc, rfl, hL, rfl, rfl⟩, ?_⟩
    show Steps p.tables e below _ ((({ U with heap := s₂.heap, slotsUsed := s₂.slotsUsed } : State).setVm s₂.vm).setTop { g with pc := g.pc + len₂, stack := v.toList ++ g.stack })
    rw [← hs₂]
    exact hsteps
  · obtain ⟨e2, q2, q3, q4, q5, q6⟩ := id hsm
    have e3 : s₂ = ({ (U.calling g mk a).setFrames s₂.frames with heap := s₂.heap, slotsUsed := s₂.slotsUsed } : State).setVm s₂.vm := by
      have : s₂ = ({ s₂ with vm := (U.calling g mk a).vm } : State).setVm s₂.vm := rfl
      rw [e2] at this
      exact this
    have hf₂ : s₂.frames = .throwing q :: .java g :: U.frames.tail := hend
    have hW' : U.WarmedH s₂.vm := hW₂
    have hs₂ : s₂ = ((({ U with heap := s₂.heap, slotsUsed := s₂.slotsUsed } : State).setVm s₂.vm).setTop g).pushFrame (.throwing q) := by
      refine e3.trans ?_
      rw [hf₂, State.calling_eq h.top, State.setFrames_setFrames, State.pushFrame, State.frames_setTop _ hr', State.setTop_of_frames _ hr', State.setFrames_setFrames, hr]
      rfl
    have hsame : U.sameButNew ({ U with heap := s₂.heap, slotsUsed := s₂.slotsUsed } : State) L mc ms := by
      refine ⟨?_, q2, q3, q4, q5, q6⟩
      obtain ⟨t, ht, -⟩ := State.frames_cons hr
      show ({ U with heap := s₂.heap, slotsUsed := s₂.slotsUsed } : State) = { U.setFrames U.frames with heap := s₂.heap, slotsUsed := s₂.slotsUsed }
      rw [State.setFrames_self ht]
    subst hg
    refine Or.inr ⟨q, ⟨(({ U with heap := s₂.heap, slotsUsed := s₂.slotsUsed } : State).setVm s₂.vm), Ls ++ L, c0 + mc, s0 + ms⟩,
      ⟨X.admits, X.cas, X.clock, X.frames, X.room, X.hears, X.method, X.code, (X.here.setHeapUsed s₂.heap s₂.slotsUsed).setVm hW'.alike, X.tail, State.WarmedH.trans X.warmed hW', X.limits, X.bytes, X.same.trans (hsame.setVm s.vm)⟩,
      ⟨g, mk, s₂, L, E, ce, rfl, rfl, hx, hce, hcv, hcl, rfl, hL, rfl, rfl⟩, ?_⟩
    show Steps p.tables e below _ (((({ U with heap := s₂.heap, slotsUsed := s₂.slotsUsed } : State).setVm s₂.vm).setTop g).pushFrame (.throwing q))
    rw [← hs₂]
    exact hsteps
end Payer
section Calls
variable {p : Program} {l : Launch} {e : Env} {R : Room} {s : State} {m : MethodId} {args : Array Value} {below : List Frame} {meth : Method} {c : Code} {T : State} {locs : List Loc} {cells slots : Nat}
theorem vx_callV (X : Stand p l e R s m args below meth c T locs cells slots) (hexec : p.tables.exec = Jvm.exec) {own C : String} {index : Nat} {y : MethodName} {bytes : ByteArray} {maxL : Nat} {ret : Option FieldType}
    (hown : s.vm.findClass own = some m.cls) (hlink : (Cond.methodLink own index y).before args s = true) (hinst : (Cond.instanceMethod y).before args s = true) (hsel : (Cond.selects C y y).before args s = true)
    (hcode : (Cond.code y bytes maxL ret).before args s = true) (hy : y.cls ≠ "java/lang/invoke/MethodHandle" ∧ y.cls ≠ "java/lang/invoke/VarHandle")
    {W9 : Nat} {Pre : Pt → Array Value → Prop} {Post : Pt → Array Value → Option Value → Pt → Prop} {PostX : Pt → Array Value → Addr → Pt → Prop} (hK : vx_Back l R p e below s args y 3 W9 Pre Post PostX)
    {b : Addr} {cellB : Cell} (hcell : T.heap[b]? = some cellB) (hobj : cellB.vm.isStatics = false) (hcls : s.vm.findClass C = some cellB.cls)
    {g : JFrame} (hg : g.method = m) (hsize : g.locals.size = c.maxLocals) {argsL rest : List Value} (hlen : ∀ sig, parseMethodDescriptor y.desc = some sig → argsL.length = sig.parameters.length)
    (hstack : g.stack = argsL.reverse ++ .ref b :: rest) (hW : 2 * g.monitorRoom + (rest.map fun v => v.category).sum ≤ W9) (hdg : decode c.code g.pc = .ok (.invokevirtual index, 3))
    (hpre : ∀ vm₁, s.WarmedH vm₁ → Pre ⟨T.setVm vm₁, locs, cells, slots⟩ (Value.ref b :: argsL).toArray) :
    (∃ (v : Option Value) (vm₁ : Vm) (B : Pt), s.WarmedH vm₁ ∧ Stand p l e R s m args below meth c B.U B.locs B.cells B.slots ∧ Post ⟨T.setVm vm₁, locs, cells, slots⟩ (Value.ref b :: argsL).toArray v B ∧
      ∀ target, Steps p.tables e below (B.U.setTop { g with pc := g.pc + 3, stack := v.toList ++ rest }) target → Steps p.tables e below (T.setTop g) target) ∨
    (∃ (q : Addr) (vm₁ : Vm) (B : Pt), s.WarmedH vm₁ ∧ Stand p l e R s m args below meth c B.U B.locs B.cells B.slots ∧ PostX ⟨T.setVm vm₁, locs, cells, slots⟩ (Value.ref b :: argsL).toArray q B ∧
      Steps p.tables e below (T.setTop g) ((B.U.setTop { g with stack := rest }).pushFrame (.throwing q))) := by
  obtain ⟨mk, methM, hnamed, hmethM, hstM, habM⟩ := Cond.instanceMethod_spec hinst
  obtain ⟨methM', cM, hmethM', -, -, -, -, -, -, hsigM⟩ := Cond.code_spec hnamed hcode
  cases hmethM.symm.trans hmethM'
  obtain ⟨c2, r2, m2, q1, q2, q3, q4, kP, hkP, hkPi⟩ := Cond.selects_spec hsel
  cases hcls.symm.trans q1
  cases (State.methodFound?_of_named hnamed hy).symm.trans q2
  cases hnamed.symm.trans q3
  have hselP : selectMethod e.platform s.vm cellB.cls mk = .method mk := by rw [Launch.admits_selectMethod X.admits]; exact q4
  obtain ⟨vm₁, X₁, hstep₁⟩ := X.invokevirtual hexec hown hlink hnamed hmethM hstM hkP hkPi hy (a := b) (cell := cellB) hcell
    (fun z h => by rw [h] at hobj; cases hobj) hselP hmethM habM hkP hkPi (g := g) hg (argsL := argsL) (rest := rest) (hlen _ hsigM) hstack hdg
  rcases hK m meth c ⟨T.setVm vm₁, locs, cells, slots⟩ { g with stack := rest } (.invokevirtual index) mk (Value.ref b :: argsL).toArray X₁ hg hsize hdg hW (X₁.named hnamed) (hpre vm₁ X₁.warmed) with ⟨v, B, X', hpost, hsteps⟩ | ⟨q, B, X', hpost, hsteps⟩
  · exact Or.inl ⟨v, vm₁, B, X₁.warmed, X', hpost, fun target h => hstep₁ _ fun acts => by rw [doInvoke_state]; exact hsteps.trans h⟩
  · exact Or.inr ⟨q, vm₁, B, X₁.warmed, X', hpost, hstep₁ _ fun acts => by rw [doInvoke_state]; exact hsteps⟩
theorem vx_callS (X : Stand p l e R s m args below meth c T locs cells slots) (hexec : p.tables.exec = Jvm.exec) {own : String} {index : Nat} {y : MethodName} {bytes : ByteArray} {maxL : Nat} {ret : Option FieldType}
    (hown : s.vm.findClass own = some m.cls) (hlink : (Cond.methodLink own index y).before args s = true) (hstat : (Cond.static y).before args s = true) (hinit : (Cond.initialized y.cls).before args s = true)
    (hcode : (Cond.code y bytes maxL ret).before args s = true) (hy : y.cls ≠ "java/lang/invoke/MethodHandle" ∧ y.cls ≠ "java/lang/invoke/VarHandle")
    {W9 : Nat} {Pre : Pt → Array Value → Prop} {Post : Pt → Array Value → Option Value → Pt → Prop} {PostX : Pt → Array Value → Addr → Pt → Prop} (hK : vx_Back l R p e below s args y 3 W9 Pre Post PostX)
    {g : JFrame} (hg : g.method = m) (hsize : g.locals.size = c.maxLocals) {argsL rest : List Value} (hlen : ∀ sig, parseMethodDescriptor y.desc = some sig → argsL.length = sig.parameters.length)
    (hstack : g.stack = argsL.reverse ++ rest) (hW : 2 * g.monitorRoom + (rest.map fun v => v.category).sum ≤ W9) (hdg : decode c.code g.pc = .ok (.invokestatic index, 3))
    (hpre : ∀ vm₁, s.WarmedH vm₁ → Pre ⟨T.setVm vm₁, locs, cells, slots⟩ argsL.toArray) :
    (∃ (v : Option Value) (vm₁ : Vm) (B : Pt), s.WarmedH vm₁ ∧ Stand p l e R s m args below meth c B.U B.locs B.cells B.slots ∧ Post ⟨T.setVm vm₁, locs, cells, slots⟩ argsL.toArray v B ∧
      ∀ target, Steps p.tables e below (B.U.setTop { g with pc := g.pc + 3, stack := v.toList ++ rest }) target → Steps p.tables e below (T.setTop g) target) ∨
    (∃ (q : Addr) (vm₁ : Vm) (B : Pt), s.WarmedH vm₁ ∧ Stand p l e R s m args below meth c B.U B.locs B.cells B.slots ∧ PostX ⟨T.setVm vm₁, locs, cells, slots⟩ argsL.toArray q B ∧
      Steps p.tables e below (T.setTop g) ((B.U.setTop { g with stack := rest }).pushFrame (.throwing q))) := by
  obtain ⟨mk, hnamed⟩ := Cond.code_named hcode
  obtain ⟨methM, cM, hmethM, -, -, -, -, -, -, hsigM⟩ := Cond.code_spec hnamed hcode
  have hstatic : methM.isStatic = true := Cond.static_spec hnamed hmethM hstat
  obtain ⟨kP, hkP, -⟩ := className_of_methodNamed hnamed
  have hinitP : kP.init = .initialized := Cond.initialized_spec (findClass_of_methodNamed hnamed) hkP hinit
  obtain ⟨vm₁, X₁, hstep₁⟩ := X.invokestatic hexec hown hlink hnamed hmethM hstatic hkP hinitP hy (g := g) hg (argsL := argsL) (rest := rest) (hlen _ hsigM) hstack hdg
  rcases hK m meth c ⟨T.setVm vm₁, locs, cells, slots⟩ { g with stack := rest } (.invokestatic index) mk argsL.toArray X₁ hg hsize hdg hW (X₁.named hnamed) (hpre vm₁ X₁.warmed) with ⟨v, B, X', hpost, hsteps⟩ | ⟨q, B, X', hpost, hsteps⟩
  · exact Or.inl ⟨v, vm₁, B, X₁.warmed, X', hpost, fun target h => hstep₁ _ fun acts => by rw [doInvoke_state]; exact hsteps.trans h⟩
  · exact Or.inr ⟨q, vm₁, B, X₁.warmed, X', hpost, hstep₁ _ fun acts => by rw [doInvoke_state]; exact hsteps⟩
end Calls
theorem vx_cls {s : State} {T : State} {vm₁ : Vm} {E : String} {k : ClassId} (hW : s.WarmedH vm₁) (h : (T.setVm vm₁).vm.findClass E = some k) : s.vm.findClass E = some k := by
  have h1 : vm₁.findClass E = some k := h
  rw [hW.alike.findClass] at h1
  exact h1
/-- the method's frame g, with q thrown over it -/
def vx_W (p : Program) (l : Launch) (e : Env) (R : Room) (s : State) (m : MethodId) (args : Array Value) (below : List Frame) (meth : Method) (c : Code) (H : Heap) (locs : List Loc) (cells slots : Nat) (Q : State → Prop) (g : JFrame) (q : Addr) : Prop :=
  ∀ T : State, T.heap = H → Stand p l e R s m args below meth c T locs cells slots → ∃ t, Steps p.tables e below ((T.setTop g).pushFrame (.throwing q)) t ∧ Q t
def vx_Run (p : Program) (l : Launch) (e : Env) (R : Room) (s : State) (m : MethodId) (args : Array Value) (below : List Frame) (meth : Method) (c : Code) (H : Heap) (locs : List Loc) (cells slots mc ms : Nat) (g : JFrame) (rest : List Value) (Qa : State → Outcome → State → Prop) (XC : String → State → State → Prop) (free : Addr → Prop) : Prop :=
  ∀ T : State, T.heap = H → Stand p l e R s m args below meth c T locs cells slots →
    (∃ (v : Option Value) (st₀ t T' : State) (L : List Loc), st₀.heap = H ∧ Stand p l e R s m args below meth c T' (locs ++ L) (cells + mc) (slots + ms) ∧ (∀ q ∈ L, free q.base) ∧ T'.heap = t.heap ∧ T'.vm = t.vm ∧ Qa st₀ (.returned v) t ∧
      Goes p e below T g T' { g with pc := g.pc + 3, stack := v.toList ++ rest }) ∨
    (∃ (q : Addr) (st₀ t T' : State) (L : List Loc) (E : String) (ce : Cell), st₀.heap = H ∧ Stand p l e R s m args below meth c T' (locs ++ L) (cells + mc) (slots + ms) ∧ (∀ z ∈ L, free z.base) ∧ T'.heap = t.heap ∧ T'.vm = t.vm ∧ XC E st₀ t ∧ t.heap[q]? = some ce ∧ ce.vm = .none ∧ s.vm.findClass E = some ce.cls ∧
      Steps p.tables e below (T.setTop g) ((T'.setTop { g with stack := rest }).pushFrame (.throwing q)))
def vx_X {S : Type} (px : S → Prop) (B : String → S → State → Prop) (A : Nat → Prop) : String → State → State → Prop := fun E st t => ∃ u : S, px u ∧ B E u t ∧ va_F A st t
section Runs
variable {p : Program} {l : Launch} {e : Env} {R : Room} {s : State} {m : MethodId} {args : Array Value} {below : List Frame} {meth : Method} {c : Code} {H : Heap} {locs : List Loc} {cells slots : Nat}
variable {y : MethodName} {bytes cc : ByteArray} {maxL nL mc ms n index : Nat} {ret : Option FieldType} {ws : List Cond} {rm : Room} {Pc : Array Value → State → Prop} {Qc : Array Value → State → Outcome → State → Prop} {XC : String → State → State → Prop} {free : Addr → Prop} {Ts : List Cond} {own C : String} {b : Addr} {As rest : List Value} {g : JFrame}
theorem vx_callBack (cb : CallB R s args own index y bytes maxL ret ws rm mc ms n) (hM : vx_Met l y ws rm Pc Qc XC mc ms free) (hbl : FrameBlind Pc) : vx_Back l R p e below s args y 3 8 (PreOf R mc ms Pc) (PostOf Qc mc ms free) (vx_Post XC mc ms free) := by
  obtain ⟨hrc, hrs, hfr, hlo, hws, hcw, -, hini, -⟩ := cb
  exact vx_back (bytes := bytes) (maxL := maxL) (ret := ret) hM hbl hrc hrs hfr hlo hws hcw (fun a' U hW => word_at hW (Or.inl (by first | rfl | simp [Cond.onTables, Cond.keeps, Cond.steady])) hini)
theorem vx_runV (S : CallFix p m c cc nL s args Ts own) (hM : vx_Met l y ws rm Pc Qc XC mc ms free) (cw : CallW R s args own C index y bytes maxL ret ws rm mc ms n) (hp : PreV s H C b Pc As)
    (hg : g.method = m) (hn : As.length = n) (hsize : g.locals.size = nL) (hstack : g.stack = As.reverse ++ .ref b :: rest) (hW : 2 * g.monitorRoom + (rest.map fun v => v.category).sum ≤ 8) (hdg : decode cc g.pc = .ok (.invokevirtual index, 3)) (hf : cells + mc ≤ R.cells ∧ slots + ms ≤ R.slots) :
    vx_Run p l e R s m args below meth c H locs cells slots mc ms g rest (Qc (Value.ref b :: As).toArray) XC free := by
  have hK : vx_Back l R p e below s args y 3 8 (PreOf R mc ms Pc) (PostOf Qc mc ms free) (vx_Post XC mc ms free) := vx_callBack cw.1 hM hp.1
  obtain ⟨⟨-, -, -, -, -, -, hcode, -, hy, hlen, hl⟩, hin, hse⟩ := cw
  obtain ⟨hx, hb, hml, ho, -⟩ := S
  obtain ⟨-, ⟨cellB, hcB, hoB, hclB⟩, hPc⟩ := hp
  intro T hT X
  rcases vx_callV X hx (C := C) (bytes := bytes) (maxL := maxL) (ret := ret) ho hl hin hse hcode hy hK (by rw [hT]; exact hcB) hoB hclB hg (hsize.trans hml.symm) (argsL := As) (rest := rest) (fun sig h => hn.trans (hlen sig h)) hstack hW (by rw [hb]; exact hdg)
    (fun vm₁ hW₁ => ⟨hf.1, hf.2, hPc (T.setVm vm₁) hT hW₁⟩) with ⟨v, vm₁, ⟨U', l2, c2, s2⟩, hW₁, X', ⟨g', mk, t, L, e1, e2, hq, h1, hL, h2, h3⟩, st⟩ | ⟨q, vm₁, ⟨U', l2, c2, s2⟩, hW₁, X', ⟨g', mk, t, L, E, ce, e1, e2, hq, hce, hcv, hcl, h1, hL, h2, h3⟩, st⟩
  · dsimp only [Pt.U, Pt.locs, Pt.cells, Pt.slots] at X' e1 e2 h1 h2 h3 st
    subst h1; subst h2; subst h3
    exact Or.inl ⟨v, (T.setVm vm₁).calling g' mk (Value.ref b :: As).toArray, t, U', L, hT, X', hL, e1, e2, hq, st⟩
  · dsimp only [Pt.U, Pt.locs, Pt.cells, Pt.slots] at X' e1 e2 h1 h2 h3 st hcl
    subst h1; subst h2; subst h3
    exact Or.inr ⟨q, (T.setVm vm₁).calling g' mk (Value.ref b :: As).toArray, t, U', L, E, ce, hT, X', hL, e1, e2, hq, hce, hcv, vx_cls hW₁ hcl, st⟩
theorem vx_runS (S : CallFix p m c cc nL s args Ts own) (hM : vx_Met l y ws rm Pc Qc XC mc ms free) (cw : CallB R s args own index y bytes maxL ret ws rm mc ms n ∧ (Cond.static y).before args s = true) (hp : PreS s H Pc As)
    (hg : g.method = m) (hn : As.length = n) (hsize : g.locals.size = nL) (hstack : g.stack = As.reverse ++ rest) (hW : 2 * g.monitorRoom + (rest.map fun v => v.category).sum ≤ 8) (hdg : decode cc g.pc = .ok (.invokestatic index, 3)) (hf : cells + mc ≤ R.cells ∧ slots + ms ≤ R.slots) :
    vx_Run p l e R s m args below meth c H locs cells slots mc ms g rest (Qc As.toArray) XC free := by
  have hK : vx_Back l R p e below s args y 3 8 (PreOf R mc ms Pc) (PostOf Qc mc ms free) (vx_Post XC mc ms free) := vx_callBack cw.1 hM hp.1
  obtain ⟨⟨-, -, -, -, -, -, hcode, hini, hy, hlen, hl⟩, hstt⟩ := cw
  obtain ⟨hx, hb, hml, ho, -⟩ := S
  intro T hT X
  rcases vx_callS X hx (bytes := bytes) (maxL := maxL) (ret := ret) ho hl hstt hini hcode hy hK hg (hsize.trans hml.symm) (argsL := As) (rest := rest) (fun sig h => hn.trans (hlen sig h)) hstack hW (by rw [hb]; exact hdg)
    (fun vm₁ hW₁ => ⟨hf.1, hf.2, hp.2 (T.setVm vm₁) hT hW₁⟩) with ⟨v, vm₁, ⟨U', l2, c2, s2⟩, hW₁, X', ⟨g', mk, t, L, e1, e2, hq, h1, hL, h2, h3⟩, st⟩ | ⟨q, vm₁, ⟨U', l2, c2, s2⟩, hW₁, X', ⟨g', mk, t, L, E, ce, e1, e2, hq, hce, hcv, hcl, h1, hL, h2, h3⟩, st⟩
  · dsimp only [Pt.U, Pt.locs, Pt.cells, Pt.slots] at X' e1 e2 h1 h2 h3 st
    subst h1; subst h2; subst h3
    exact Or.inl ⟨v, (T.setVm vm₁).calling g' mk As.toArray, t, U', L, hT, X', hL, e1, e2, hq, st⟩
  · dsimp only [Pt.U, Pt.locs, Pt.cells, Pt.slots] at X' e1 e2 h1 h2 h3 st hcl
    subst h1; subst h2; subst h3
    exact Or.inr ⟨q, (T.setVm vm₁).calling g' mk As.toArray, t, U', L, E, ce, hT, X', hL, e1, e2, hq, hce, hcv, vx_cls hW₁ hcl, st⟩
end Runs
section Rows
variable {p : Program} {l : Launch} {e : Env} {R : Room} {s : State} {m : MethodId} {args : Array Value} {below : List Frame} {meth : Method} {c : Code} {H : Heap} {locs : List Loc} {cells slots : Nat} {Q : State → Prop}
variable {mc ms : Nat} {free : Addr → Prop} {A0 A1 : Nat → Prop} {H0 : Heap} {a : Array Value} {pc : Nat} {ls : Array Slot} {st0 rest : List Value}
theorem vx_keep {st₀ t T' : State} {L : List Loc} (h0 : st₀.heap = H) (e1 : T'.heap = t.heap) (hS : va_S A0 H0 H locs) (hA : ∀ q, q < H.size → A1 q → A0 q) (hf : ∀ q, free q → A0 q) (hL : ∀ q ∈ L, free q.base) (hF : va_F A1 st₀ t) :
    H.size ≤ T'.heap.size ∧ (∀ q : Nat, q < H.size → ¬ A1 q → T'.heap[q]? = H[q]?) ∧ va_S A0 H0 T'.heap (locs ++ L) := by
  obtain ⟨hz, hk⟩ := hF
  rw [h0] at hz hk
  exact ⟨by rw [e1]; exact hz, fun q h1 h2 => by rw [e1]; exact hk q h1 h2,
    ⟨Nat.le_trans hS.1 (by rw [e1]; exact hz), fun q h1 h2 => by rw [e1, hk q (Nat.lt_of_lt_of_le h1 hS.1) (fun z => h2 (hA q (Nat.lt_of_lt_of_le h1 hS.1) z))]; exact hS.2.1 q h1 h2, fun q hq => by
      rcases List.mem_append.mp hq with h | h
      · exact hS.2.2 q h
      · exact hf _ (hL q h)⟩⟩
theorem vx_calli {S SX : Type} {post : Int32 → S → Prop} {px : SX → Prop} {B : S → State → Prop} {BX : String → SX → State → Prop} {AX : Nat → Prop} (hr : vx_Run p l e R s m args below meth c H locs cells slots mc ms (F0 m pc ls st0) rest (va_Qi post B A1 a) (vx_X px BX AX) free) (hS : va_S A0 H0 H locs) (hA : ∀ q, q < H.size → A1 q → A0 q) (hf : ∀ q, free q → A0 q) (hAX : ∀ q, q < H.size → AX q → A0 q)
    (kx : ∀ (E : String) (ce : Cell) (q9 : Addr) (u : SX) (t : State) (H1 : Heap) (locs1 : List Loc), t.heap = H1 → s.vm.Alike t.vm → px u → BX E u t → H.size ≤ H1.size → (∀ q : Nat, q < H.size → ¬ AX q → H1[q]? = H[q]?) → va_S A0 H0 H1 locs1 → H1[q9]? = some ce → ce.vm = .none → s.vm.findClass E = some ce.cls → vx_W p l e R s m args below meth c H1 locs1 (cells + mc) (slots + ms) Q (F0 m pc ls rest) q9)
    (kk : ∀ (r : Int32) (u : S) (t : State) (H1 : Heap) (locs1 : List Loc), t.heap = H1 → s.vm.Alike t.vm → post r u → B u t → H.size ≤ H1.size → (∀ q : Nat, q < H.size → ¬ A1 q → H1[q]? = H[q]?) → va_S A0 H0 H1 locs1 → W p l e R s m args below meth c H1 locs1 (cells + mc) (slots + ms) Q (F0 m (pc + 3) ls (.int r :: rest))) : W p l e R s m args below meth c H locs cells slots Q (F0 m pc ls st0) := by
  intro T hT X
  rcases hr T hT X with ⟨v, st₀, t, T', L, h0, X', hL, e1, e2, ⟨⟨r, u, hv, hp, hb⟩, hF⟩, st⟩ | ⟨q, st₀, t, T', L, E, ce, h0, X', hL, e1, e2, ⟨u, hp, hb, hF⟩, hce, hcv, hcl, st⟩
  · cases hv
    obtain ⟨k1, k2, k3⟩ := vx_keep h0 e1 hS hA hf hL hF
    obtain ⟨t2, a1, b1⟩ := kk r u t T'.heap (locs ++ L) e1.symm (by rw [← e2]; exact X'.warmed.alike) hp hb k1 k2 k3 T' rfl X'
    exact ⟨t2, st t2 a1, b1⟩
  · obtain ⟨k1, k2, k3⟩ := vx_keep h0 e1 hS hAX hf hL hF
    obtain ⟨t2, a1, b1⟩ := kx E ce q u t T'.heap (locs ++ L) e1.symm (by rw [← e2]; exact X'.warmed.alike) hp hb k1 k2 k3 (by rw [e1]; exact hce) hcv hcl T' rfl X'
    exact ⟨t2, st.trans a1, b1⟩
theorem vx_calll {S SX : Type} {post : Int64 → S → Prop} {px : SX → Prop} {B : S → State → Prop} {BX : String → SX → State → Prop} {AX : Nat → Prop} (hr : vx_Run p l e R s m args below meth c H locs cells slots mc ms (F0 m pc ls st0) rest (va_Ql post B A1 a) (vx_X px BX AX) free) (hS : va_S A0 H0 H locs) (hA : ∀ q, q < H.size → A1 q → A0 q) (hf : ∀ q, free q → A0 q) (hAX : ∀ q, q < H.size → AX q → A0 q)
    (kx : ∀ (E : String) (ce : Cell) (q9 : Addr) (u : SX) (t : State) (H1 : Heap) (locs1 : List Loc), t.heap = H1 → s.vm.Alike t.vm → px u → BX E u t → H.size ≤ H1.size → (∀ q : Nat, q < H.size → ¬ AX q → H1[q]? = H[q]?) → va_S A0 H0 H1 locs1 → H1[q9]? = some ce → ce.vm = .none → s.vm.findClass E = some ce.cls → vx_W p l e R s m args below meth c H1 locs1 (cells + mc) (slots + ms) Q (F0 m pc ls rest) q9)
    (kk : ∀ (r : Int64) (u : S) (t : State) (H1 : Heap) (locs1 : List Loc), t.heap = H1 → s.vm.Alike t.vm → post r u → B u t → H.size ≤ H1.size → (∀ q : Nat, q < H.size → ¬ A1 q → H1[q]? = H[q]?) → va_S A0 H0 H1 locs1 → W p l e R s m args below meth c H1 locs1 (cells + mc) (slots + ms) Q (F0 m (pc + 3) ls (.long r :: rest))) : W p l e R s m args below meth c H locs cells slots Q (F0 m pc ls st0) := by
  intro T hT X
  rcases hr T hT X with ⟨v, st₀, t, T', L, h0, X', hL, e1, e2, ⟨⟨r, u, hv, hp, hb⟩, hF⟩, st⟩ | ⟨q, st₀, t, T', L, E, ce, h0, X', hL, e1, e2, ⟨u, hp, hb, hF⟩, hce, hcv, hcl, st⟩
  · cases hv
    obtain ⟨k1, k2, k3⟩ := vx_keep h0 e1 hS hA hf hL hF
    obtain ⟨t2, a1, b1⟩ := kk r u t T'.heap (locs ++ L) e1.symm (by rw [← e2]; exact X'.warmed.alike) hp hb k1 k2 k3 T' rfl X'
    exact ⟨t2, st t2 a1, b1⟩
  · obtain ⟨k1, k2, k3⟩ := vx_keep h0 e1 hS hAX hf hL hF
    obtain ⟨t2, a1, b1⟩ := kx E ce q u t T'.heap (locs ++ L) e1.symm (by rw [← e2]; exact X'.warmed.alike) hp hb k1 k2 k3 (by rw [e1]; exact hce) hcv hcl T' rfl X'
    exact ⟨t2, st.trans a1, b1⟩
theorem vx_callf {S SX : Type} {post : UInt32 → S → Prop} {px : SX → Prop} {B : S → State → Prop} {BX : String → SX → State → Prop} {AX : Nat → Prop} (hr : vx_Run p l e R s m args below meth c H locs cells slots mc ms (F0 m pc ls st0) rest (va_Qf post B A1 a) (vx_X px BX AX) free) (hS : va_S A0 H0 H locs) (hA : ∀ q, q < H.size → A1 q → A0 q) (hf : ∀ q, free q → A0 q) (hAX : ∀ q, q < H.size → AX q → A0 q)
    (kx : ∀ (E : String) (ce : Cell) (q9 : Addr) (u : SX) (t : State) (H1 : Heap) (locs1 : List Loc), t.heap = H1 → s.vm.Alike t.vm → px u → BX E u t → H.size ≤ H1.size → (∀ q : Nat, q < H.size → ¬ AX q → H1[q]? = H[q]?) → va_S A0 H0 H1 locs1 → H1[q9]? = some ce → ce.vm = .none → s.vm.findClass E = some ce.cls → vx_W p l e R s m args below meth c H1 locs1 (cells + mc) (slots + ms) Q (F0 m pc ls rest) q9)
    (kk : ∀ (r : UInt32) (u : S) (t : State) (H1 : Heap) (locs1 : List Loc), t.heap = H1 → s.vm.Alike t.vm → post r u → B u t → H.size ≤ H1.size → (∀ q : Nat, q < H.size → ¬ A1 q → H1[q]? = H[q]?) → va_S A0 H0 H1 locs1 → W p l e R s m args below meth c H1 locs1 (cells + mc) (slots + ms) Q (F0 m (pc + 3) ls (.float r :: rest))) : W p l e R s m args below meth c H locs cells slots Q (F0 m pc ls st0) := by
  intro T hT X
  rcases hr T hT X with ⟨v, st₀, t, T', L, h0, X', hL, e1, e2, ⟨⟨r, u, hv, hp, hb⟩, hF⟩, st⟩ | ⟨q, st₀, t, T', L, E, ce, h0, X', hL, e1, e2, ⟨u, hp, hb, hF⟩, hce, hcv, hcl, st⟩
  · cases hv
    obtain ⟨k1, k2, k3⟩ := vx_keep h0 e1 hS hA hf hL hF
    obtain ⟨t2, a1, b1⟩ := kk r u t T'.heap (locs ++ L) e1.symm (by rw [← e2]; exact X'.warmed.alike) hp hb k1 k2 k3 T' rfl X'
    exact ⟨t2, st t2 a1, b1⟩
  · obtain ⟨k1, k2, k3⟩ := vx_keep h0 e1 hS hAX hf hL hF
    obtain ⟨t2, a1, b1⟩ := kx E ce q u t T'.heap (locs ++ L) e1.symm (by rw [← e2]; exact X'.warmed.alike) hp hb k1 k2 k3 (by rw [e1]; exact hce) hcv hcl T' rfl X'
    exact ⟨t2, st.trans a1, b1⟩
theorem vx_calld {S SX : Type} {post : UInt64 → S → Prop} {px : SX → Prop} {B : S → State → Prop} {BX : String → SX → State → Prop} {AX : Nat → Prop} (hr : vx_Run p l e R s m args below meth c H locs cells slots mc ms (F0 m pc ls st0) rest (va_Qd post B A1 a) (vx_X px BX AX) free) (hS : va_S A0 H0 H locs) (hA : ∀ q, q < H.size → A1 q → A0 q) (hf : ∀ q, free q → A0 q) (hAX : ∀ q, q < H.size → AX q → A0 q)
    (kx : ∀ (E : String) (ce : Cell) (q9 : Addr) (u : SX) (t : State) (H1 : Heap) (locs1 : List Loc), t.heap = H1 → s.vm.Alike t.vm → px u → BX E u t → H.size ≤ H1.size → (∀ q : Nat, q < H.size → ¬ AX q → H1[q]? = H[q]?) → va_S A0 H0 H1 locs1 → H1[q9]? = some ce → ce.vm = .none → s.vm.findClass E = some ce.cls → vx_W p l e R s m args below meth c H1 locs1 (cells + mc) (slots + ms) Q (F0 m pc ls rest) q9)
    (kk : ∀ (r : UInt64) (u : S) (t : State) (H1 : Heap) (locs1 : List Loc), t.heap = H1 → s.vm.Alike t.vm → post r u → B u t → H.size ≤ H1.size → (∀ q : Nat, q < H.size → ¬ A1 q → H1[q]? = H[q]?) → va_S A0 H0 H1 locs1 → W p l e R s m args below meth c H1 locs1 (cells + mc) (slots + ms) Q (F0 m (pc + 3) ls (.double r :: rest))) : W p l e R s m args below meth c H locs cells slots Q (F0 m pc ls st0) := by
  intro T hT X
  rcases hr T hT X with ⟨v, st₀, t, T', L, h0, X', hL, e1, e2, ⟨⟨r, u, hv, hp, hb⟩, hF⟩, st⟩ | ⟨q, st₀, t, T', L, E, ce, h0, X', hL, e1, e2, ⟨u, hp, hb, hF⟩, hce, hcv, hcl, st⟩
  · cases hv
    obtain ⟨k1, k2, k3⟩ := vx_keep h0 e1 hS hA hf hL hF
    obtain ⟨t2, a1, b1⟩ := kk r u t T'.heap (locs ++ L) e1.symm (by rw [← e2]; exact X'.warmed.alike) hp hb k1 k2 k3 T' rfl X'
    exact ⟨t2, st t2 a1, b1⟩
  · obtain ⟨k1, k2, k3⟩ := vx_keep h0 e1 hS hAX hf hL hF
    obtain ⟨t2, a1, b1⟩ := kx E ce q u t T'.heap (locs ++ L) e1.symm (by rw [← e2]; exact X'.warmed.alike) hp hb k1 k2 k3 (by rw [e1]; exact hce) hcv hcl T' rfl X'
    exact ⟨t2, st.trans a1, b1⟩
theorem vx_callv {S SX : Type} {post : S → Prop} {px : SX → Prop} {B : S → State → Prop} {BX : String → SX → State → Prop} {AX : Nat → Prop} (hr : vx_Run p l e R s m args below meth c H locs cells slots mc ms (F0 m pc ls st0) rest (va_Qv post B A1 a) (vx_X px BX AX) free) (hS : va_S A0 H0 H locs) (hA : ∀ q, q < H.size → A1 q → A0 q) (hf : ∀ q, free q → A0 q) (hAX : ∀ q, q < H.size → AX q → A0 q)
    (kx : ∀ (E : String) (ce : Cell) (q9 : Addr) (u : SX) (t : State) (H1 : Heap) (locs1 : List Loc), t.heap = H1 → s.vm.Alike t.vm → px u → BX E u t → H.size ≤ H1.size → (∀ q : Nat, q < H.size → ¬ AX q → H1[q]? = H[q]?) → va_S A0 H0 H1 locs1 → H1[q9]? = some ce → ce.vm = .none → s.vm.findClass E = some ce.cls → vx_W p l e R s m args below meth c H1 locs1 (cells + mc) (slots + ms) Q (F0 m pc ls rest) q9)
    (kk : ∀ (u : S) (t : State) (H1 : Heap) (locs1 : List Loc), t.heap = H1 → s.vm.Alike t.vm → post u → B u t → H.size ≤ H1.size → (∀ q : Nat, q < H.size → ¬ A1 q → H1[q]? = H[q]?) → va_S A0 H0 H1 locs1 → W p l e R s m args below meth c H1 locs1 (cells + mc) (slots + ms) Q (F0 m (pc + 3) ls (rest))) : W p l e R s m args below meth c H locs cells slots Q (F0 m pc ls st0) := by
  intro T hT X
  rcases hr T hT X with ⟨v, st₀, t, T', L, h0, X', hL, e1, e2, ⟨⟨u, hv, hp, hb⟩, hF⟩, st⟩ | ⟨q, st₀, t, T', L, E, ce, h0, X', hL, e1, e2, ⟨u, hp, hb, hF⟩, hce, hcv, hcl, st⟩
  · cases hv
    obtain ⟨k1, k2, k3⟩ := vx_keep h0 e1 hS hA hf hL hF
    obtain ⟨t2, a1, b1⟩ := kk u t T'.heap (locs ++ L) e1.symm (by rw [← e2]; exact X'.warmed.alike) hp hb k1 k2 k3 T' rfl X'
    exact ⟨t2, st t2 a1, b1⟩
  · obtain ⟨k1, k2, k3⟩ := vx_keep h0 e1 hS hAX hf hL hF
    obtain ⟨t2, a1, b1⟩ := kx E ce q u t T'.heap (locs ++ L) e1.symm (by rw [← e2]; exact X'.warmed.alike) hp hb k1 k2 k3 (by rw [e1]; exact hce) hcv hcl T' rfl X'
    exact ⟨t2, st.trans a1, b1⟩
/-- caught by the row x of this method's table; the rows ahead don't take it -/
theorem vx_catch {own name : String} {E : String} {ce : Cell} {q : Addr} (hown : s.vm.findClass own = some m.cls) (pre : List ExceptionTableEntry) (x : ExceptionTableEntry) (suf : List ExceptionTableEntry) (hsplit : c.exceptionTable.toList = pre ++ x :: suf)
    (hpass : ∀ z ∈ pre, covers z pc = false ∨ (z.catchType ≠ 0 ∧ ∃ nm : String, (Cond.classLink own z.catchType nm).before args s = true ∧ va_Nc E nm s)) (hx : covers x pc = true) (h0 : x.catchType ≠ 0)
    (hlink : (Cond.classLink own x.catchType name).before args s = true) (hcast : (Cond.castable E name).before args s = true) (hcell : H[q]? = some ce) (hv : ce.vm = .none) (hcl : s.vm.findClass E = some ce.cls)
    (kk : W p l e R s m args below meth c H locs cells slots Q (F0 m x.handlerPc ls [.ref q])) : vx_W p l e R s m args below meth c H locs cells slots Q (F0 m pc ls rest) q := by
  intro T hT X
  have hpl : e.platform.magicAccessors = ({} : Platform).magicAccessors := by rw [X.admits.platform]
  obtain ⟨c3, c4, hc3, hc4, hasg⟩ := Cond.castable_spec hcast
  cases Option.some.inj (hc3.symm.trans hcl)
  obtain ⟨c5, hc5, hcl5⟩ := Cond.classLink_spec hown hlink e.platform hpl
  cases Option.some.inj (hc4.symm.trans hc5)
  obtain ⟨vm', X', st⟩ := X.thenCaughtThrough q (g := F0 m pc ls rest) rfl (Steps.refl _) (by rw [hT]; exact hcell) (by rw [hv]; rfl) (by obtain ⟨k9, h9, -⟩ := Vm.findClass_spec hcl; exact ⟨k9, h9⟩) pre x suf hsplit
    (fun z hz => by
      rcases hpass z hz with h | ⟨hz0, nm, hl1, hn1⟩
      · exact Or.inl h
      · obtain ⟨c6, hc6, hcl6⟩ := Cond.classLink_spec hown hl1 e.platform hpl
        obtain ⟨a8, b8, h1, h2, h3⟩ := hn1
        cases Option.some.inj (h1.symm.trans hcl)
        cases Option.some.inj (h2.symm.trans hc6)
        exact Or.inr ⟨hz0, _, hcl6, h3⟩) hx (Or.inr ⟨h0, c4, hcl5, hasg⟩)
  obtain ⟨t, a1, b1⟩ := kk (T.setVm vm') hT X'
  exact ⟨t, st.trans a1, b1⟩
end Rows
section Ends
variable {p : Program} {l : Launch} {e : Env} {R : Room} {s : State} {m : MethodId} {args : Array Value} {below : List Frame} {meth : Method} {c : Code} {H : Heap} {locs : List Loc} {cells slots : Nat} {Q : State → Prop}
variable {mc ms : Nat} {free : Addr → Prop} {A0 A1 : Nat → Prop} {H0 : Heap} {a : Array Value} {ls : Array Slot} {st0 rest : List Value}
variable {Qc : Array Value → State → Outcome → State → Prop} {XC : String → State → State → Prop}
/-- what a body that may throw owes at its end -/
def vx_MQ (below : List Frame) (Qc : Array Value → State → Outcome → State → Prop) (XC : String → State → State → Prop) (a : Array Value) (s : State) (mc ms : Nat) (free : Addr → Prop) : State → Prop := fun t =>
  ∃ o, t.status = .running ∧ Ended t below o ∧ vx_Q Qc XC mc ms free a s o t
theorem vx_ret {g : JFrame} {mc ms : Nat} (k : W p l e R s m args below meth c H locs cells slots (MQ below Qc args s mc ms free) g) : W p l e R s m args below meth c H locs cells slots (vx_MQ below Qc XC args s mc ms free) g := by
  intro T hT X
  obtain ⟨t, a1, o, b1, b2, b3, b4⟩ := k T hT X
  exact ⟨t, a1, o, b1, b2, Or.inl ⟨b3, b4⟩⟩
/-- not caught here: it goes on to the caller -/
theorem vx_widen {g : JFrame} {q : Addr} {k n : Nat} (h1 : cells ≤ k) (h2 : slots ≤ n) (kk : vx_W p l e R s m args below meth c H locs k n Q g q) : vx_W p l e R s m args below meth c H locs cells slots Q g q := fun T hT X => kk T hT (stand_widen X h1 h2)
theorem vx_out {pc : Nat} {E : String} {ce : Cell} {q : Addr} {mc ms : Nat} (hout : ∀ x ∈ c.exceptionTable.toList, covers x pc = false) (hlocks : meth.locks = false) (hcell : H[q]? = some ce) (hv : ce.vm = .none) (hcl : s.vm.findClass E = some ce.cls)
    (hx : ∀ t : State, t.heap = H → s.vm.Alike t.vm → XC E s t) (hf : ∀ z ∈ locs, free z.base) (hc : cells ≤ mc) (hs : slots ≤ ms) :
    vx_W p l e R s m args below meth c H locs cells slots (vx_MQ below Qc XC args s mc ms free) (F0 m pc ls rest) q := by
  intro T hT X
  obtain ⟨st1, hrun, hend, hW, hsm⟩ := X.leaveThrown q (g := F0 m pc ls rest) rfl rfl rfl hout hlocks
  have hcell9 : (T.setFrames (.throwing q :: below)).heap[q]? = some ce := by
    show T.heap[q]? = some ce
    rw [hT]; exact hcell
  exact ⟨_, st1, .threw q, hrun, hend, Or.inr ⟨q, rfl, E, ce, locs, hx _ hT hW.alike, hcell9, hv, hcl, hW, hsm.mono hc hs, hf⟩⟩
theorem vx_frame {U : State} {k n : Nat} (h : s.sameButNew ({ U with vm := s.vm } : State) locs k n) : s.heap.size ≤ U.heap.size ∧ ∀ q : Nat, q < s.heap.size → (∀ z ∈ locs, z.base ≠ q) → U.heap[q]? = s.heap[q]? := by
  obtain ⟨-, h2, -, -, -, h6⟩ := h
  refine ⟨h2, fun q hq hz => ?_⟩
  obtain ⟨c9, e1, e2, e3, e4⟩ := h6 q _ (Array.getElem?_eq_getElem hq)
  have hs : c9.slots = (s.heap[q]).slots := Array.ext_getElem? fun i => e4 i fun hm => hz _ hm rfl
  have h9 : c9 = s.heap[q] := by
    rw [hs] at e2
    exact e2
  have e5 : U.heap[q]? = some c9 := e1
  rw [e5, h9, Array.getElem?_eq_getElem hq]
/-- the words of a throw but the four that speak of the heap -/
def vx_no (w : Cond) : Bool := decide (w ≠ .isRef (.static Bundle.tN "UNASSIGNED_STACK" Bundle.steD)) && decide (w ≠ .isRef (.static Bundle.tN "SUPPRESSED_SENTINEL" Bundle.listD)) && decide (w ≠ .laysStatic Bundle.tN "UNASSIGNED_STACK" Bundle.steD) && decide (w ≠ .laysStatic Bundle.tN "SUPPRESSED_SENTINEL" Bundle.listD)
def vx_at0 (own : String) (ic : Nat) (X : String) (names : List String) : List Cond := (Bundle.ownAtoms0 own ic X names).filter vx_no
def vx_atS (own : String) (ic : Nat) (X : String) (names : List String) : List Cond := (Bundle.ownAtoms own ic X names).filter vx_no
/-- a word that the tables alone decide, or a good one -/
def vx_ot (w : Cond) : Bool := w.onTables || goodWord w
theorem vx_ot_at {args a' : Array Value} {s U : State} {w : Cond} (hW : s.WarmedH U.vm) (hvm : s.vm = U.vm) (hg : vx_ot w = true) (h : w.before args s = true) : w.before a' U = true := by
  simp only [vx_ot, Bool.or_eq_true] at hg
  rcases hg with hg | hg
  · exact va_tabs hg hvm h
  · exact word_at hW (good_of_word hg) h
/-- a list's words: the good ones out of the method's own list, the others by premises of their own -/
theorem vx_hat {args : Array Value} {s : State} {L B : List Cond} (h1 : ∀ w ∈ L.filter goodWord, w.before args s = true) (h2 : ∀ w ∈ L.filter (fun w => !goodWord w), w ∈ B) (h3 : ∀ w ∈ B, w.before args s = true) : ∀ w ∈ L, w.before args s = true := by
  intro w hw
  by_cases g : goodWord w = true
  · exact h1 w (List.mem_filter.mpr ⟨hw, g⟩)
  · refine h3 w (h2 w (List.mem_filter.mpr ⟨hw, ?_⟩))
    show (!goodWord w) = true
    cases hgw : goodWord w
    · rfl
    · exact absurd hgw g
theorem vx_c {args : Array Value} {s : State} {w : Cond} {B : List Cond} (h : w.before args s = true) (t : ∀ w ∈ B, w.before args s = true) : ∀ w' ∈ w :: B, w'.before args s = true := fun w' h' => (List.mem_cons.mp h').elim (fun e => by rw [e]; exact h) (t w')
theorem vx_n {args : Array Value} {s : State} : ∀ w ∈ ([] : List Cond), w.before args s = true := fun _ h => nomatch h
theorem vx_own {args : Array Value} {s : State} {L : List Cond} (h1 : ∀ w ∈ L.filter vx_no, w.before args s = true)
    (hU : (Cond.isRef (.static Bundle.tN "UNASSIGNED_STACK" Bundle.steD)).before args s = true) (hN : (Cond.isRef (.static Bundle.tN "SUPPRESSED_SENTINEL" Bundle.listD)).before args s = true)
    (lU : (Cond.laysStatic Bundle.tN "UNASSIGNED_STACK" Bundle.steD).before args s = true) (lN : (Cond.laysStatic Bundle.tN "SUPPRESSED_SENTINEL" Bundle.listD).before args s = true) : ∀ w ∈ L, w.before args s = true := by
  intro w hw
  by_cases e1 : w = .isRef (.static Bundle.tN "UNASSIGNED_STACK" Bundle.steD)
  · rw [e1]; exact hU
  · by_cases e2 : w = .isRef (.static Bundle.tN "SUPPRESSED_SENTINEL" Bundle.listD)
    · rw [e2]; exact hN
    · by_cases e3 : w = .laysStatic Bundle.tN "UNASSIGNED_STACK" Bundle.steD
      · rw [e3]; exact lU
      · by_cases e4 : w = .laysStatic Bundle.tN "SUPPRESSED_SENTINEL" Bundle.listD
        · rw [e4]; exact lN
        · exact h1 w (List.mem_filter.mpr ⟨hw, by unfold vx_no; rw [decide_eq_true e1, decide_eq_true e2, decide_eq_true e3, decide_eq_true e4]; rfl⟩)
/-- where a static field lies, its class's statics cell in H -/
def vx_L (C n d : String) (A : Nat → Prop) (U : State) (H : Heap) : Prop := ∃ (c : ClassId) (k : Class) (i : Nat) (f : Field) (a : Nat) (cell : Cell), U.vm.findClass C = some c ∧ U.fieldFound? C n d = some (c, k, i, f) ∧ f.isStatic = true ∧ k.statics = some a ∧ H[a]? = some cell ∧ cell.vm.isStatics = true ∧ cell.cls = c ∧ f.slot < cell.slots.size ∧ k.staticTypes[f.slot]? = some f.type ∧ ¬ A a
theorem vx_L.moved {C n d : String} {A : Nat → Prop} {u U : State} {H : Heap} (hvm : u.vm.Alike U.vm) (h : vx_L C n d A u H) : vx_L C n d A U H := by
  obtain ⟨c, k, i, f, a, cell, h1, h2, h3, h4, h5, h6, h7, h8, h9, h10⟩ := h
  obtain ⟨k', hi', he⟩ := State.fieldFound?_setVm hvm h2
  exact ⟨c, k', i, f, a, cell, by rw [hvm.findClass]; exact h1, hi', h3, by rw [he]; exact h4, h5, h6, h7, h8, by rw [he]; exact h9, h10⟩
theorem vx_L.kept {C n d : String} {A : Nat → Prop} {U : State} {H H1 : Heap} (h : vx_L C n d A U H) (hq : ∀ a : Nat, a < H.size → ¬ A a → H1[a]? = H[a]?) : vx_L C n d A U H1 := by
  obtain ⟨c, k, i, f, a, cell, h1, h2, h3, h4, h5, h6, h7, h8, h9, h10⟩ := h
  exact ⟨c, k, i, f, a, cell, h1, h2, h3, h4, by rw [hq a (Array.getElem?_eq_some_iff.mp h5).1 h10]; exact h5, h6, h7, h8, h9, h10⟩
theorem vx_L.narrow {C n d : String} {A B : Nat → Prop} {U : State} {H : Heap} (h : vx_L C n d A U H) (hAB : ∀ q, B q → A q) : vx_L C n d B U H := by
  obtain ⟨c, k, i, f, a, cell, h1, h2, h3, h4, h5, h6, h7, h8, h9, h10⟩ := h
  exact ⟨c, k, i, f, a, cell, h1, h2, h3, h4, h5, h6, h7, h8, h9, fun z => h10 (hAB _ z)⟩
theorem vx_L.word {C n d : String} {A : Nat → Prop} {s : State} {args : Array Value} (h : vx_L C n d A s s.heap) : (Cond.laysStatic C n d).before args s = true := by
  obtain ⟨c, k, i, f, a, cell, h1, h2, h3, h4, h5, h6, h7, h8, h9, -⟩ := h
  show (Cond.laysStatic C n d).holds args s none s [] = true
  exact Cond.laysStatic_of h1 h2 h3 h4 h5 h6 h7 h8 h9
/-- .. and what it holds: null or some reference -/
def vx_Zq (C n d : String) (A : Nat → Prop) (U : State) (H : Heap) : Prop := va_Zq C n d A U H ∧ vx_L C n d A U H
theorem vx_Zq.moved {C n d : String} {A : Nat → Prop} {u U : State} {H : Heap} (hvm : u.vm.Alike U.vm) (h : vx_Zq C n d A u H) : vx_Zq C n d A U H := ⟨va_Zq.moved hvm h.1, vx_L.moved hvm h.2⟩
theorem vx_Zq.kept {C n d : String} {A : Nat → Prop} {U : State} {H H1 : Heap} (h : vx_Zq C n d A U H) (hq : ∀ a : Nat, a < H.size → ¬ A a → H1[a]? = H[a]?) : vx_Zq C n d A U H1 := ⟨va_Zq.kept h.1 hq, vx_L.kept h.2 hq⟩
theorem vx_Zq.narrow {C n d : String} {A B : Nat → Prop} {U : State} {H : Heap} (h : vx_Zq C n d A U H) (hAB : ∀ q, B q → A q) : vx_Zq C n d B U H := ⟨va_Zq.narrow h.1 hAB, vx_L.narrow h.2 hAB⟩
theorem vx_Zqof {args : Array Value} {s : State} {C n d : String} {A : Nat → Prop} (hl : (Cond.laysStatic C n d).before args s = true) (hini : (Cond.initialized C).before args s = true) (h : (Cond.isRef (.static C n d)).before args s = true) (hA : ∀ a : Nat, a < s.heap.size → ¬ A a) : vx_Zq C n d A s s.heap := by
  refine ⟨va_Zqof hl hini h hA, ?_⟩
  obtain ⟨c, k, i, f, a, cell, h1, h2, h3, h4, h5, h6, h7, h8, h9⟩ := Cond.laysStatic_spec hl
  exact ⟨c, k, i, f, a, cell, h1, h2, h3, h4, h5, h6, h7, h8, h9, hA a (Array.getElem?_eq_some_iff.mp h5).1⟩
theorem vx_isRef {C n d : String} {v : Value} {A : Nat → Prop} {s : State} {args : Array Value} (h : va_Z C n d v A s s.heap) (hv : v.isRef = true) : (Cond.isRef (.static C n d)).before args s = true := by
  obtain ⟨cf, kf, fi, f, a, cell, h1, h2, h3, h4, h5, h6, h7, -⟩ := h
  have he : (Term.static C n d).eval args s none [] s = some v := by
    simp [Term.eval, State.fieldNamed?, h1, h2, h4, h5, h6, h7]
  simp only [Cond.before, Cond.holds, Cond.value, he]
  cases v <;> simp_all [Value.isRef]
theorem vx_isRefq {C n d : String} {A : Nat → Prop} {s : State} {args : Array Value} (h : va_Zq C n d A s s.heap) : (Cond.isRef (.static C n d)).before args s = true := by
  rcases h with h | ⟨t, h⟩
  · exact vx_isRef h rfl
  · exact vx_isRef h rfl
/-- the same frame, seen from here: as if the method were called anew in this heap -/
theorem vx_rebase {T : State} (X : Stand p l e R s m args below meth c T locs cells slots) {R' : Room} (hf : R'.frames ≤ R.frames) (hl : R'.locals ≤ R.locals) (hc : cells + R'.cells ≤ R.cells) (hs : slots + R'.slots ≤ R.slots) :
    Stand p l e R' ((T.setVm s.vm).setFrames (.invoking m args :: below)) m args below meth c T [] 0 0 := by
  have htop : (T.setVm s.vm).topJava?.isSome := X.here.top
  have hF : ((T.setVm s.vm).setFrames (.invoking m args :: below)).frames = .invoking m args :: below := State.frames_setFrames _ (State.cur_lt_of_top htop)
  obtain ⟨g₀, hg0⟩ := Option.isSome_iff_exists.mp htop
  obtain ⟨r, hr⟩ := State.topJava?_eq_some.mp hg0
  have hl9 : e.platform.stackLimits (T.setVm s.vm).me = e.platform.stackLimits s.me := X.limits
  have hb9 : (T.setVm s.vm).me.stackBytes = s.me.stackBytes := X.bytes
  refine ⟨X.admits, X.cas, X.clock, hF, ?_, X.hears, X.method, X.code, X.here, X.tail, X.warmed, ?_, ?_, ?_⟩
  · have h := X.room
    have hU : ((T.setVm s.vm).setFrames (.invoking m args :: below)).localsInUse = s.localsInUse := by
      rw [State.localsInUse_invoking hF (meth := meth) (c := c) X.method X.code, State.localsInUse_invoking X.frames X.method X.code]
    simp only [State.hasRoom, Bool.and_eq_true, decide_eq_true_eq] at h ⊢
    obtain ⟨⟨⟨⟨h1, h2, h3, h4, h5, h6⟩, h7⟩, h8⟩, h9⟩ := h
    rw [X.frames, List.length_cons] at h2 h3
    have q1 := X.heapSize
    have q2 := X.used
    simp only [hF, hU, List.length_cons, State.stackLimits_setFrames, State.stackBytes_setFrames, hl9, hb9]
    refine ⟨⟨⟨⟨by omega, by omega, by omega, by omega, by omega, h6⟩, ?_⟩, ?_⟩, X.book⟩
    · show T.heap.size + R'.cells ≤ e.platform.maxCells
      omega
    · show T.slotsUsed + R'.slots ≤ e.platform.maxSlots
      omega
  · rw [State.stackLimits_setFrames]; rfl
  · rw [State.stackBytes_setFrames]; rfl
  · refine ⟨?_, Nat.le_refl _, Nat.le_refl _, ?_, ?_, fun a c9 h9 => ⟨c9, h9, rfl, rfl, fun _ _ => rfl⟩⟩
    · obtain ⟨t, ht, -⟩ := State.frames_cons hr
      show T.setVm s.vm = { ((T.setVm s.vm).setFrames (.invoking m args :: below)).setFrames (T.setVm s.vm).frames with heap := T.heap, slotsUsed := T.slotsUsed }
      rw [State.setFrames_setFrames, State.setFrames_self ht]
      rfl
    · show T.slotsUsed = T.slotsUsed + ((T.heap.toList.drop T.heap.size).map (·.slots.size)).sum
      rw [List.drop_eq_nil_of_le (Nat.le_of_eq Array.length_toList)]
      rfl
    · show ((T.heap.toList.drop T.heap.size).map (·.slots.size)).sum ≤ 0
      rw [List.drop_eq_nil_of_le (Nat.le_of_eq Array.length_toList)]
      exact Nat.le_refl _
/-- 'throw new E()': new; dup; invokespecial; athrow -/
theorem vx_throw0 {cc : ByteArray} {pc : Nat} (hexec : p.tables.exec = Jvm.exec) (hb : c.code = cc) (hl : l.stackTraces = false) {own cls : String} {names : List String} {ik ic mc ms : Nat} {A : Nat → Prop}
    (hown : s.vm.findClass own = some m.cls) (hcls : Bundle.fit cls = true) (hnames : ∀ n ∈ names, Bundle.fit n = true)
    (hk : (Cond.classLink own ik cls).before args s = true) (hini : (Cond.initialized cls).before args s = true) (hat : ∀ w ∈ vx_at0 own ic cls names, w.before args s = true)
    (hgood : ∀ w ∈ Cond.classLink own ik cls :: Cond.initialized cls :: vx_at0 own ic cls names, vx_ot w = true)
    (hU : vx_Zq Bundle.tN "UNASSIGNED_STACK" Bundle.steD A s s.heap) (hN : vx_Zq Bundle.tN "SUPPRESSED_SENTINEL" Bundle.listD A s s.heap) (hS : va_S A s.heap H locs) (hsize : ls.size = c.maxLocals)
    (d0 : decode cc pc = .ok (.new ik, 3)) (d3 : decode cc (pc + 3) = .ok (.dup, 1)) (d4 : decode cc (pc + 4) = .ok (.invokespecial ic, 3)) (d7 : decode cc (pc + 7) = .ok (.athrow, 1))
    (hout : ∀ x ∈ c.exceptionTable.toList, covers x (pc + 7) = false)
    (hRframes : names.length + 3 < R.frames) (hRlocals : (rest.map fun v => v.category).sum + (13 * (names.length + 1) + 42) ≤ R.locals) (hRcells : cells + 1 ≤ R.cells) (hRslots : slots + 6 ≤ R.slots) (hlocks : meth.locks = false)
    (hx : ∀ t : State, s.vm.Alike t.vm → H.size ≤ t.heap.size → (∀ q : Nat, q < H.size → t.heap[q]? = H[q]?) → XC cls s t)
    (hf : ∀ z ∈ locs, free z.base) (hc : cells + 1 ≤ mc) (hs : slots + 6 ≤ ms) :
    W p l e R s m args below meth c H locs cells slots (vx_MQ below Qc XC args s mc ms free) (F0 m pc ls rest) := by
  intro T hT X
  have htr : e.platform.stackTraces = false := (show e.platform.stackTraces = l.stackTraces by rw [X.admits.platform]).trans hl
  have Y := vx_rebase X (R' := { frames := R.frames, locals := R.locals, cells := 1, slots := 6 }) (Nat.le_refl _) (Nat.le_refl _) hRcells hRslots
  obtain ⟨s', hA⟩ : ∃ z, z = (T.setVm s.vm).setFrames (.invoking m args :: below) := ⟨_, rfl⟩
  rw [← hA] at Y
  have hvm : s'.vm = s.vm := by rw [hA]; rfl
  have hhp : s'.heap = H := by rw [hA]; exact hT
  have hW0 : s.WarmedH s'.vm := by rw [hvm]; exact State.WarmedH.refl s
  have hat' : ∀ w ∈ vx_at0 own ic cls names, w.before args s' = true := fun w hw => vx_ot_at hW0 hvm.symm (hgood w (List.mem_cons_of_mem _ (List.mem_cons_of_mem _ hw))) (hat w hw)
  have hk' : (Cond.classLink own ik cls).before args s' = true := vx_ot_at hW0 hvm.symm (hgood _ List.mem_cons_self) hk
  have hini' : (Cond.initialized cls).before args s' = true := vx_ot_at hW0 hvm.symm (hgood _ (List.mem_cons_of_mem _ List.mem_cons_self)) hini
  have hU' : vx_Zq Bundle.tN "UNASSIGNED_STACK" Bundle.steD A s' s'.heap := by rw [hhp]; exact vx_Zq.moved hW0.alike (hU.kept hS.2.1)
  have hN' : vx_Zq Bundle.tN "SUPPRESSED_SENTINEL" Bundle.listD A s' s'.heap := by rw [hhp]; exact vx_Zq.moved hW0.alike (hN.kept hS.2.1)
  have h : ∀ w ∈ Bundle.ownAtoms0 own ic cls names, w.before args s' = true := vx_own hat' (vx_isRefq hU'.1) (vx_isRefq hN'.1) hU'.2.word hN'.2.word
  have hown' : s'.vm.findClass own = some m.cls := by rw [hvm]; exact hown
  have hins : (Cond.instantiable cls 6).before args s' = true := h _ (by simp [Bundle.ownAtoms0])
  obtain ⟨vm₁, cX, kX, hfX, hkX, -, -, X₁, st1⟩ := Y.newCold hexec (own := own) (C := cls) (index := ik) (n := 6) hown' hk' hins hini'
    (g := F0 m pc ls rest) rfl (by rw [hb]; exact d0) (Nat.le_refl _) (Nat.le_refl _)
  generalize hT1 : (T.setVm vm₁).pushCell { cls := cX, slots := kX.instanceTypes.map defaultValue, vm := .none } = T1 at X₁ st1
  have hcat : (Value.ref T.heap.size).category = 1 := rfl
  have hcellA : T1.heap[T.heap.size]? = some (freshCell cX kX) := by rw [← hT1]; exact State.heap_pushCell_size _ _
  have d3' : decode c.code (pc + 3) = .ok (.dup, 1) := by rw [hb]; exact d3
  obtain ⟨U, hsteps, hrun, hend, hW, hsame, ce, hce, hO⟩ := X₁.ctorThrow0 hexec htr (own := own) (cls := cls) (names := names) (ic := ic) hown' hcls hnames h (fun x hx => nomatch hx) hfX hkX hcellA (by rw [hhp, hT]; exact Nat.le_refl _)
    (g := { method := m, pc := pc + 4, locals := ls, stack := .ref T.heap.size :: .ref T.heap.size :: rest, locked := none }) rfl hsize rfl rfl (rest := rest) rfl
    (by rw [hb]; exact d4) (by rw [hb]; exact d7) hout hRframes (by simp only [List.map_cons, List.sum_cons, hcat]; omega) hlocks
  obtain ⟨f1, f2⟩ := vx_frame hsame
  rw [hhp] at f1 f2
  have hWs : s.WarmedH U.vm := State.WarmedH.trans hW0 hW
  have hcl : s.vm.findClass cls = some ce.cls := by
    have h9 := hO.cls
    rw [hvm] at h9
    exact h9
  have hall : s.sameButNew ({ U with vm := s.vm } : State) locs mc ms := by
    subst hA
    obtain ⟨e1, e2⟩ := hsame
    rw [State.setFrames_setFrames] at e1
    have h2 : (T.setVm s.vm).sameButNew ({ U with vm := s.vm } : State) [] (0 + 1) (0 + 6) := ⟨e1, e2⟩
    have h3 := X.same.trans h2
    rw [List.append_nil] at h3
    exact h3.mono hc hs
  refine ⟨U, ?_, .threw T.heap.size, hrun, hend, Or.inr ⟨T.heap.size, rfl, cls, ce, locs, hx U hWs.alike f1 (fun q hq => f2 q hq (fun z hz => nomatch hz)), hce, hO.vm, hcl, hWs, hall, hf⟩⟩
  refine st1 _ ?_
  show Steps p.tables e below (T1.setTop { method := m, pc := pc + 3, locals := ls, stack := .ref T.heap.size :: rest, locked := none }) _
  jvm_step X₁.here [X₁.here.top, hexec, d3', Value.category]
  exact hsteps
/-- 'throw new E("text")': new; dup; ldc; invokespecial; athrow -/
theorem vx_throwS {cc : ByteArray} {pc : Nat} (hexec : p.tables.exec = Jvm.exec) (hb : c.code = cc) (hl : l.stackTraces = false) {own cls text : String} {names : List String} {ik is ic mc ms sa : Nat} {A : Nat → Prop}
    (hown : s.vm.findClass own = some m.cls) (hcls : Bundle.fit cls = true) (hnames : ∀ n ∈ names, Bundle.fit n = true)
    (hk : (Cond.classLink own ik cls).before args s = true) (hini : (Cond.initialized cls).before args s = true) (hstr : vk_R own is text sa s) (hat : ∀ w ∈ vx_atS own ic cls names, w.before args s = true)
    (hgood : ∀ w ∈ Cond.classLink own ik cls :: Cond.initialized cls :: vx_atS own ic cls names, vx_ot w = true)
    (hU : vx_Zq Bundle.tN "UNASSIGNED_STACK" Bundle.steD A s s.heap) (hN : vx_Zq Bundle.tN "SUPPRESSED_SENTINEL" Bundle.listD A s s.heap) (hS : va_S A s.heap H locs) (hsize : ls.size = c.maxLocals)
    (d0 : decode cc pc = .ok (.new ik, 3)) (d3 : decode cc (pc + 3) = .ok (.dup, 1)) (d4 : decode cc (pc + 4) = .ok (.ldc is, 2)) (d6 : decode cc (pc + 6) = .ok (.invokespecial ic, 3)) (d9 : decode cc (pc + 9) = .ok (.athrow, 1))
    (hout : ∀ x ∈ c.exceptionTable.toList, covers x (pc + 9) = false)
    (hRframes : names.length + 3 < R.frames) (hRlocals : (rest.map fun v => v.category).sum + (13 * (names.length + 1) + 43) ≤ R.locals) (hRcells : cells + 1 ≤ R.cells) (hRslots : slots + 6 ≤ R.slots) (hlocks : meth.locks = false)
    (hx : ∀ t : State, s.vm.Alike t.vm → H.size ≤ t.heap.size → (∀ q : Nat, q < H.size → t.heap[q]? = H[q]?) → XC cls s t)
    (hf : ∀ z ∈ locs, free z.base) (hc : cells + 1 ≤ mc) (hs : slots + 6 ≤ ms) :
    W p l e R s m args below meth c H locs cells slots (vx_MQ below Qc XC args s mc ms free) (F0 m pc ls rest) := by
  intro T hT X
  have htr : e.platform.stackTraces = false := (show e.platform.stackTraces = l.stackTraces by rw [X.admits.platform]).trans hl
  have Y := vx_rebase X (R' := { frames := R.frames, locals := R.locals, cells := 1, slots := 6 }) (Nat.le_refl _) (Nat.le_refl _) hRcells hRslots
  obtain ⟨s', hA⟩ : ∃ z, z = (T.setVm s.vm).setFrames (.invoking m args :: below) := ⟨_, rfl⟩
  rw [← hA] at Y
  have hvm : s'.vm = s.vm := by rw [hA]; rfl
  have hhp : s'.heap = H := by rw [hA]; exact hT
  have hW0 : s.WarmedH s'.vm := by rw [hvm]; exact State.WarmedH.refl s
  have hat' : ∀ w ∈ vx_atS own ic cls names, w.before args s' = true := fun w hw => vx_ot_at hW0 hvm.symm (hgood w (List.mem_cons_of_mem _ (List.mem_cons_of_mem _ hw))) (hat w hw)
  have hk' : (Cond.classLink own ik cls).before args s' = true := vx_ot_at hW0 hvm.symm (hgood _ List.mem_cons_self) hk
  have hini' : (Cond.initialized cls).before args s' = true := vx_ot_at hW0 hvm.symm (hgood _ (List.mem_cons_of_mem _ List.mem_cons_self)) hini
  have hU' : vx_Zq Bundle.tN "UNASSIGNED_STACK" Bundle.steD A s' s'.heap := by rw [hhp]; exact vx_Zq.moved hW0.alike (hU.kept hS.2.1)
  have hN' : vx_Zq Bundle.tN "SUPPRESSED_SENTINEL" Bundle.listD A s' s'.heap := by rw [hhp]; exact vx_Zq.moved hW0.alike (hN.kept hS.2.1)
  have h : ∀ w ∈ Bundle.ownAtoms own ic cls names, w.before args s' = true := vx_own hat' (vx_isRefq hU'.1) (vx_isRefq hN'.1) hU'.2.word hN'.2.word
  have hown' : s'.vm.findClass own = some m.cls := by rw [hvm]; exact hown
  have hins : (Cond.instantiable cls 6).before args s' = true := h _ (by simp [Bundle.ownAtoms])
  obtain ⟨vm₁, cX, kX, hfX, hkX, -, -, X₁, st1⟩ := Y.newCold hexec (own := own) (C := cls) (index := ik) (n := 6) hown' hk' hins hini'
    (g := F0 m pc ls rest) rfl (by rw [hb]; exact d0) (Nat.le_refl _) (Nat.le_refl _)
  generalize hT1 : (T.setVm vm₁).pushCell { cls := cX, slots := kX.instanceTypes.map defaultValue, vm := .none } = T1 at X₁ st1
  have hcat : (Value.ref T.heap.size).category = 1 := rfl
  have hcellA : T1.heap[T.heap.size]? = some (freshCell cX kX) := by rw [← hT1]; exact State.heap_pushCell_size _ _
  have d3' : decode c.code (pc + 3) = .ok (.dup, 1) := by rw [hb]; exact d3
  have d4' : decode c.code (pc + 4) = .ok (.ldc is, 2) := by rw [hb]; exact d4
  have hstr' : vk_R own is text sa s' := vk_R.warm hW0 hstr
  obtain ⟨U, hsteps, hrun, hend, hW, hsame, ce, hce, hO⟩ := X₁.ctorThrowS hexec htr (own := own) (cls := cls) (names := names) (ic := ic) hown' hcls hnames h (fun x hx => nomatch hx) hfX hkX hcellA (by rw [hhp, hT]; exact Nat.le_refl _) (msg := .ref sa) rfl
    (g := { method := m, pc := pc + 6, locals := ls, stack := .ref sa :: .ref T.heap.size :: .ref T.heap.size :: rest, locked := none }) rfl hsize rfl rfl (rest := rest) rfl
    (by rw [hb]; exact d6) (by rw [hb]; exact d9) hout hRframes (by simp only [List.map_cons, List.sum_cons, hcat]; omega) hlocks
  obtain ⟨f1, f2⟩ := vx_frame hsame
  rw [hhp] at f1 f2
  have hWs : s.WarmedH U.vm := State.WarmedH.trans hW0 hW
  have hcl : s.vm.findClass cls = some ce.cls := by
    have h9 := hO.cls
    rw [hvm] at h9
    exact h9
  have hall : s.sameButNew ({ U with vm := s.vm } : State) locs mc ms := by
    subst hA
    obtain ⟨e1, e2⟩ := hsame
    rw [State.setFrames_setFrames] at e1
    have h2 : (T.setVm s.vm).sameButNew ({ U with vm := s.vm } : State) [] (0 + 1) (0 + 6) := ⟨e1, e2⟩
    have h3 := X.same.trans h2
    rw [List.append_nil] at h3
    exact h3.mono hc hs
  refine ⟨U, ?_, .threw T.heap.size, hrun, hend, Or.inr ⟨T.heap.size, rfl, cls, ce, locs, hx U hWs.alike f1 (fun q hq => f2 q hq (fun z hz => nomatch hz)), hce, hO.vm, hcl, hWs, hall, hf⟩⟩
  refine st1 _ ?_
  show Steps p.tables e below (T1.setTop { method := m, pc := pc + 3, locals := ls, stack := .ref T.heap.size :: rest, locked := none }) _
  jvm_step X₁.here [X₁.here.top, hexec, d3', Value.category]
  exact X₁.ldcString hexec (own := own) (text := text) (index := is) (a := sa) hown' hstr'.1 hstr'.2
    (g := { method := m, pc := pc + 4, locals := ls, stack := .ref T.heap.size :: .ref T.heap.size :: rest, locked := none }) rfl d4' _ hsteps
/-- 'throw new E("text")', the text by a wide index -/
theorem vx_throwSW {cc : ByteArray} {pc : Nat} (hexec : p.tables.exec = Jvm.exec) (hb : c.code = cc) (hl : l.stackTraces = false) {own cls text : String} {names : List String} {ik is ic mc ms sa : Nat} {A : Nat → Prop}
    (hown : s.vm.findClass own = some m.cls) (hcls : Bundle.fit cls = true) (hnames : ∀ n ∈ names, Bundle.fit n = true)
    (hk : (Cond.classLink own ik cls).before args s = true) (hini : (Cond.initialized cls).before args s = true) (hstr : vk_R own is text sa s) (hat : ∀ w ∈ vx_atS own ic cls names, w.before args s = true)
    (hgood : ∀ w ∈ Cond.classLink own ik cls :: Cond.initialized cls :: vx_atS own ic cls names, vx_ot w = true)
    (hU : vx_Zq Bundle.tN "UNASSIGNED_STACK" Bundle.steD A s s.heap) (hN : vx_Zq Bundle.tN "SUPPRESSED_SENTINEL" Bundle.listD A s s.heap) (hS : va_S A s.heap H locs) (hsize : ls.size = c.maxLocals)
    (d0 : decode cc pc = .ok (.new ik, 3)) (d3 : decode cc (pc + 3) = .ok (.dup, 1)) (d4 : decode cc (pc + 4) = .ok (.ldc_w is, 3)) (d7 : decode cc (pc + 7) = .ok (.invokespecial ic, 3)) (d10 : decode cc (pc + 10) = .ok (.athrow, 1))
    (hout : ∀ x ∈ c.exceptionTable.toList, covers x (pc + 10) = false)
    (hRframes : names.length + 3 < R.frames) (hRlocals : (rest.map fun v => v.category).sum + (13 * (names.length + 1) + 43) ≤ R.locals) (hRcells : cells + 1 ≤ R.cells) (hRslots : slots + 6 ≤ R.slots) (hlocks : meth.locks = false)
    (hx : ∀ t : State, s.vm.Alike t.vm → H.size ≤ t.heap.size → (∀ q : Nat, q < H.size → t.heap[q]? = H[q]?) → XC cls s t)
    (hf : ∀ z ∈ locs, free z.base) (hc : cells + 1 ≤ mc) (hs : slots + 6 ≤ ms) :
    W p l e R s m args below meth c H locs cells slots (vx_MQ below Qc XC args s mc ms free) (F0 m pc ls rest) := by
  intro T hT X
  have htr : e.platform.stackTraces = false := (show e.platform.stackTraces = l.stackTraces by rw [X.admits.platform]).trans hl
  have Y := vx_rebase X (R' := { frames := R.frames, locals := R.locals, cells := 1, slots := 6 }) (Nat.le_refl _) (Nat.le_refl _) hRcells hRslots
  obtain ⟨s', hA⟩ : ∃ z, z = (T.setVm s.vm).setFrames (.invoking m args :: below) := ⟨_, rfl⟩
  rw [← hA] at Y
  have hvm : s'.vm = s.vm := by rw [hA]; rfl
  have hhp : s'.heap = H := by rw [hA]; exact hT
  have hW0 : s.WarmedH s'.vm := by rw [hvm]; exact State.WarmedH.refl s
  have hat' : ∀ w ∈ vx_atS own ic cls names, w.before args s' = true := fun w hw => vx_ot_at hW0 hvm.symm (hgood w (List.mem_cons_of_mem _ (List.mem_cons_of_mem _ hw))) (hat w hw)
  have hk' : (Cond.classLink own ik cls).before args s' = true := vx_ot_at hW0 hvm.symm (hgood _ List.mem_cons_self) hk
  have hini' : (Cond.initialized cls).before args s' = true := vx_ot_at hW0 hvm.symm (hgood _ (List.mem_cons_of_mem _ List.mem_cons_self)) hini
  have hU' : vx_Zq Bundle.tN "UNASSIGNED_STACK" Bundle.steD A s' s'.heap := by rw [hhp]; exact vx_Zq.moved hW0.alike (hU.kept hS.2.1)
  have hN' : vx_Zq Bundle.tN "SUPPRESSED_SENTINEL" Bundle.listD A s' s'.heap := by rw [hhp]; exact vx_Zq.moved hW0.alike (hN.kept hS.2.1)
  have h : ∀ w ∈ Bundle.ownAtoms own ic cls names, w.before args s' = true := vx_own hat' (vx_isRefq hU'.1) (vx_isRefq hN'.1) hU'.2.word hN'.2.word
  have hown' : s'.vm.findClass own = some m.cls := by rw [hvm]; exact hown
  have hins : (Cond.instantiable cls 6).before args s' = true := h _ (by simp [Bundle.ownAtoms])
  obtain ⟨vm₁, cX, kX, hfX, hkX, -, -, X₁, st1⟩ := Y.newCold hexec (own := own) (C := cls) (index := ik) (n := 6) hown' hk' hins hini'
    (g := F0 m pc ls rest) rfl (by rw [hb]; exact d0) (Nat.le_refl _) (Nat.le_refl _)
  generalize hT1 : (T.setVm vm₁).pushCell { cls := cX, slots := kX.instanceTypes.map defaultValue, vm := .none } = T1 at X₁ st1
  have hcat : (Value.ref T.heap.size).category = 1 := rfl
  have hcellA : T1.heap[T.heap.size]? = some (freshCell cX kX) := by rw [← hT1]; exact State.heap_pushCell_size _ _
  have d3' : decode c.code (pc + 3) = .ok (.dup, 1) := by rw [hb]; exact d3
  have d4' : decode c.code (pc + 4) = .ok (.ldc_w is, 3) := by rw [hb]; exact d4
  have hstr' : vk_R own is text sa s' := vk_R.warm hW0 hstr
  obtain ⟨U, hsteps, hrun, hend, hW, hsame, ce, hce, hO⟩ := X₁.ctorThrowS hexec htr (own := own) (cls := cls) (names := names) (ic := ic) hown' hcls hnames h (fun x hx => nomatch hx) hfX hkX hcellA (by rw [hhp, hT]; exact Nat.le_refl _) (msg := .ref sa) rfl
    (g := { method := m, pc := pc + 7, locals := ls, stack := .ref sa :: .ref T.heap.size :: .ref T.heap.size :: rest, locked := none }) rfl hsize rfl rfl (rest := rest) rfl
    (by rw [hb]; exact d7) (by rw [hb]; exact d10) hout hRframes (by simp only [List.map_cons, List.sum_cons, hcat]; omega) hlocks
  obtain ⟨f1, f2⟩ := vx_frame hsame
  rw [hhp] at f1 f2
  have hWs : s.WarmedH U.vm := State.WarmedH.trans hW0 hW
  have hcl : s.vm.findClass cls = some ce.cls := by
    have h9 := hO.cls
    rw [hvm] at h9
    exact h9
  have hall : s.sameButNew ({ U with vm := s.vm } : State) locs mc ms := by
    subst hA
    obtain ⟨e1, e2⟩ := hsame
    rw [State.setFrames_setFrames] at e1
    have h2 : (T.setVm s.vm).sameButNew ({ U with vm := s.vm } : State) [] (0 + 1) (0 + 6) := ⟨e1, e2⟩
    have h3 := X.same.trans h2
    rw [List.append_nil] at h3
    exact h3.mono hc hs
  refine ⟨U, ?_, .threw T.heap.size, hrun, hend, Or.inr ⟨T.heap.size, rfl, cls, ce, locs, hx U hWs.alike f1 (fun q hq => f2 q hq (fun z hz => nomatch hz)), hce, hO.vm, hcl, hWs, hall, hf⟩⟩
  refine st1 _ ?_
  show Steps p.tables e below (T1.setTop { method := m, pc := pc + 3, locals := ls, stack := .ref T.heap.size :: rest, locked := none }) _
  jvm_step X₁.here [X₁.here.top, hexec, d3', Value.category]
  exact X₁.ldcStringW hexec (own := own) (text := text) (index := is) (a := sa) hown' hstr'.1 hstr'.2
    (g := { method := m, pc := pc + 4, locals := ls, stack := .ref T.heap.size :: .ref T.heap.size :: rest, locked := none }) rfl d4' _ hsteps
end Ends
section Bodies
variable {l : Launch}
theorem vx_ofW {y : MethodName} {ws ws' : List Cond} {rm : Room} {Pc : Array Value → State → Prop} {Qc : Array Value → State → Outcome → State → Prop} {XC : String → State → State → Prop} {mc ms : Nat} {free : Addr → Prop} {cc : ByteArray} {maxL : Nat} {ret : Option FieldType}
    (hy : plainName y.cls = true) (hw : ws = Cond.code y cc maxL ret :: ws')
    (body : ∀ p e s m args below meth c s₁, BodyLoose p l y (headSpec ws rm) cc maxL ret e s m args below meth c s₁ → c.maxLocals = maxL → (∀ x ∈ c.exceptionTable.toList, False) → Pc args s →
      W p l e (headSpec ws rm).room s m args below meth c s.heap [] 0 0 (vx_MQ below Qc XC args s mc ms free) (entryFrame m args maxL)) : vx_Met l y ws rm Pc Qc XC mc ms free := by
  refine MetFree.of_bodyS (code := cc) (maxLocals := maxL) (ret := ret) hy ?_ ?_
  · intro args s m h hn
    obtain ⟨meth, c, h1, h2, h3, h4, h5, h6, -, -⟩ := Cond.code_spec hn (atoms_spec (ws := ws) h _ (by rw [hw]; exact List.mem_cons_self))
    exact ⟨meth, c, h1, h2, h3, h4, h5, h6⟩
  · intro p e s m args below meth c s₁ B hml hP _
    have hh0 : s₁.heap = s.heap := by rw [B.state]; rfl
    have ht : ∀ x ∈ c.exceptionTable.toList, False := by
      obtain ⟨meth9, c9, h1, h2, -, -, -, -, h7, -⟩ := Cond.code_spec B.named (atoms_spec (ws := ws) B.pre _ (by rw [hw]; exact List.mem_cons_self))
      cases Option.some.inj (h1.symm.trans B.method)
      cases Option.some.inj (h2.symm.trans (Stand.of_body B).code)
      intro x hx
      rw [Array.isEmpty_iff.mp h7] at hx
      cases hx
    obtain ⟨t, a1, o, b1, b2, b3⟩ := body p e s m args below meth c s₁ B hml ht hP s₁ hh0 (Stand.of_body B)
    exact ⟨t, o, a1, b1, b2, b3⟩
/-- the table of a body with handlers -/
theorem vx_table {p : Program} {x y : MethodName} {S : Spec} {cc bytes : ByteArray} {maxL maxL' : Nat} {ret ret' : Option FieldType} {e : Env} {s s₁ : State} {m : MethodId} {args : Array Value} {below : List Frame} {meth : Method} {c : Code} {hh : List (Nat × Nat × Nat × Nat)}
    (B : BodyLoose p l y S cc maxL ret e s m args below meth c s₁) (h : (Cond.codeWith y bytes maxL' ret' hh).before args s = true) : c.exceptionTable.toList = tableOf hh := by
  obtain ⟨m9, meth9, c9, hn9, h1, h2, -, -, h6, -⟩ := Cond.codeWith_spec h
  cases Option.some.inj (hn9.symm.trans B.named)
  cases Option.some.inj (h1.symm.trans B.method)
  cases Option.some.inj (h2.symm.trans (Stand.of_body B).code)
  rw [← h6, table_eq]
end Bodies
end VXA
/-! ===== END ===== -/
/-! ===== BEGIN a static call of a method with an exception table ===== -/
section VXS
variable {p : Program} {l : Launch} {e : Env} {R : Room} {s : State} {m : MethodId} {args : Array Value} {below : List Frame} {meth : Method} {c : Code} {T : State} {H : Heap} {locs : List Loc} {cells slots : Nat}
abbrev vx_CSW (R : Room) (s : State) (args : Array Value) (own : String) (index : Nat) (y : MethodName) (bytes : ByteArray) (maxL : Nat) (ret : Option FieldType) (hh : List (Nat × Nat × Nat × Nat)) (ws : List Cond) (rm : Room) (mc ms n : Nat) : Prop :=
  (rm.cells = mc ∧ rm.slots = ms ∧ rm.frames + 1 ≤ R.frames ∧ 8 + (maxL + 11) + rm.locals ≤ R.locals ∧ (∀ w ∈ ws, ∀ (a' : Array Value) (U : State), s.WarmedH U.vm → w.before a' U = true) ∧ Cond.codeWith y bytes maxL ret hh ∈ ws) ∧
  (Cond.codeWith y bytes maxL ret hh).before args s = true ∧ (Cond.initialized y.cls).before args s = true ∧ (y.cls ≠ "java/lang/invoke/MethodHandle" ∧ y.cls ≠ "java/lang/invoke/VarHandle") ∧
  (∀ sig, parseMethodDescriptor y.desc = some sig → n = sig.parameters.length) ∧ (Cond.methodLink own index y).before args s = true ∧ (Cond.static y).before args s = true
theorem vx_cwSW {own : String} {index maxL mc ms : Nat} {y : MethodName} {bytes : ByteArray} {ret : Option FieldType} {hh : List (Nat × Nat × Nat × Nat)} {Ts ws ws' : List Cond} {rm : Room} (n : Nat) (ht : ∀ w ∈ Ts, w.before args s = true) (hT : GoodIn Ts (va_wsS own index y ws)) (hw : ws = Cond.codeWith y bytes maxL ret hh :: ws') (hrc : rm.cells = mc) (hrs : rm.slots = ms)
    (hd : y.cls ≠ "java/lang/invoke/MethodHandle" ∧ y.cls ≠ "java/lang/invoke/VarHandle" ∧ (parseMethodDescriptor y.desc).map (fun d => d.parameters.length) = some n) (hR : rm.frames + 1 ≤ R.frames ∧ 8 + (maxL + 11) + rm.locals ≤ R.locals) :
    vx_CSW R s args own index y bytes maxL ret hh ws rm mc ms n := by
  have ok : ∀ w ∈ va_wsS own index y ws, w.before args s = true := fun w h => ht w (hT w h).1
  have hG : GoodIn Ts ws := fun w h => hT w (by unfold va_wsS; exact List.mem_append_right _ h)
  have hc : Cond.codeWith y bytes maxL ret hh ∈ ws := by rw [hw]; exact List.mem_cons_self
  refine ⟨⟨hrc, hrs, hR.1, hR.2, pay_in ht hG, hc⟩, ht _ (hG _ hc).1, ok _ (by simp [va_wsS]), ⟨hd.1, hd.2.1⟩, fun sig h => ?_, ok _ (by simp [va_wsS]), ok _ (by simp [va_wsS])⟩
  have h2 := hd.2.2
  rw [h] at h2
  exact (Option.some.inj h2).symm
theorem vx_callSW (X : Stand p l e R s m args below meth c T locs cells slots) (hexec : p.tables.exec = Jvm.exec) {own : String} {index : Nat} {y : MethodName} {bytes : ByteArray} {maxL : Nat} {ret : Option FieldType} {hh : List (Nat × Nat × Nat × Nat)}
    (hown : s.vm.findClass own = some m.cls) (hlink : (Cond.methodLink own index y).before args s = true) (hstat : (Cond.static y).before args s = true) (hinit : (Cond.initialized y.cls).before args s = true)
    (hcode : (Cond.codeWith y bytes maxL ret hh).before args s = true) (hy : y.cls ≠ "java/lang/invoke/MethodHandle" ∧ y.cls ≠ "java/lang/invoke/VarHandle")
    {W9 : Nat} {Pre : Pt → Array Value → Prop} {Post : Pt → Array Value → Option Value → Pt → Prop} (hK : Back l R p e below s args y 3 W9 Pre Post)
    {g : JFrame} (hg : g.method = m) (hsize : g.locals.size = c.maxLocals) {argsL rest : List Value} (hlen : ∀ sig, parseMethodDescriptor y.desc = some sig → argsL.length = sig.parameters.length)
    (hstack : g.stack = argsL.reverse ++ rest) (hW : 2 * g.monitorRoom + (rest.map fun v => v.category).sum ≤ W9) (hdg : decode c.code g.pc = .ok (.invokestatic index, 3))
    (hpre : ∀ vm₁, s.WarmedH vm₁ → Pre ⟨T.setVm vm₁, locs, cells, slots⟩ argsL.toArray) :
    ∃ (v : Option Value) (vm₁ : Vm) (B : Pt), s.WarmedH vm₁ ∧ Stand p l e R s m args below meth c B.U B.locs B.cells B.slots ∧ Post ⟨T.setVm vm₁, locs, cells, slots⟩ argsL.toArray v B ∧
      ∀ target, Steps p.tables e below (B.U.setTop { g with pc := g.pc + 3, stack := v.toList ++ rest }) target → Steps p.tables e below (T.setTop g) target := by
  obtain ⟨mk, methM, cM, hnamed, hmethM, -, -, -, -, -, -, hsigM⟩ := Cond.codeWith_spec hcode
  have hstatic : methM.isStatic = true := Cond.static_spec hnamed hmethM hstat
  obtain ⟨kP, hkP, -⟩ := className_of_methodNamed hnamed
  have hinitP : kP.init = .initialized := Cond.initialized_spec (findClass_of_methodNamed hnamed) hkP hinit
  obtain ⟨vm₁, X₁, hstep₁⟩ := X.invokestatic hexec hown hlink hnamed hmethM hstatic hkP hinitP hy (g := g) hg (argsL := argsL) (rest := rest) (hlen _ hsigM) hstack hdg
  obtain ⟨v, B, X', hpost, hsteps⟩ := hK m meth c ⟨T.setVm vm₁, locs, cells, slots⟩ { g with stack := rest } (.invokestatic index) mk argsL.toArray X₁ hg hsize hdg hW (X₁.named hnamed) (hpre vm₁ X₁.warmed)
  exact ⟨v, vm₁, B, X₁.warmed, X', hpost, fun target h => hstep₁ _ fun acts => by rw [doInvoke_state]; exact hsteps.trans h⟩
theorem vx_runSW {y : MethodName} {bytes cc : ByteArray} {maxL nL mc ms n index : Nat} {ret : Option FieldType} {hh : List (Nat × Nat × Nat × Nat)} {ws : List Cond} {rm : Room} {Pc : Array Value → State → Prop} {Qc : Array Value → State → Outcome → State → Prop} {free : Addr → Prop} {Ts : List Cond} {own : String} {As rest : List Value} {g : JFrame}
    (S : CallFix p m c cc nL s args Ts own) (hM : Met l y ws rm Pc Qc mc ms free) (cw : vx_CSW R s args own index y bytes maxL ret hh ws rm mc ms n) (hp : PreS s H Pc As)
    (hg : g.method = m) (hn : As.length = n) (hsize : g.locals.size = nL) (hstack : g.stack = As.reverse ++ rest) (hW : 2 * g.monitorRoom + (rest.map fun v => v.category).sum ≤ 8) (hdg : decode cc g.pc = .ok (.invokestatic index, 3)) (hf : cells + mc ≤ R.cells ∧ slots + ms ≤ R.slots) :
    va_Run p l e R s m args below meth c H locs cells slots mc ms g rest (Qc As.toArray) (free) := by
  obtain ⟨⟨hrc, hrs, hfr, hlo, hws, hcw⟩, hcode, hini, hy, hlen, hl, hstt⟩ := cw
  have hK : Back l R p e below s args y 3 8 (PreOf R mc ms Pc) (PostOf Qc mc ms free) := va_backW (hh := hh) (bytes := bytes) (maxL := maxL) (ret := ret) hM hp.1 hrc hrs hfr hlo hws hcw (fun a' U hW => word_at hW (Or.inl (by first | rfl | simp [Cond.onTables, Cond.keeps, Cond.steady])) hini)
  obtain ⟨hx, hb, hml, ho, -⟩ := S
  intro T hT X
  obtain ⟨v, vm₁, ⟨U', l2, c2, s2⟩, hW₁, X', ⟨g', mk, t, L, e1, e2, hq, h1, hL, h2, h3⟩, st⟩ := vx_callSW X hx (hh := hh) (bytes := bytes) (maxL := maxL) (ret := ret) ho hl hstt hini hcode hy hK hg (hsize.trans hml.symm) (argsL := As) (rest := rest) (fun sig h => hn.trans (hlen sig h)) hstack hW (by rw [hb]; exact hdg)
    (fun vm₁ hW₁ => ⟨hf.1, hf.2, hp.2 (T.setVm vm₁) hT hW₁⟩)
  dsimp only [Pt.U, Pt.locs, Pt.cells, Pt.slots] at X' e1 e2 h1 h2 h3 st
  subst h1; subst h2; subst h3
  exact ⟨v, (T.setVm vm₁).calling g' mk As.toArray, t, U', L, hT, X', hL, e1, e2, hq, st⟩
/-- not caught here, past rows that name other classes: it goes on to the caller -/
theorem vx_outP {p : Program} {l : Launch} {e : Env} {R : Room} {s : State} {m : MethodId} {args : Array Value} {below : List Frame} {meth : Method} {c : Code} {H : Heap} {locs : List Loc} {cells slots : Nat} {free : Addr → Prop} {ls : Array Slot} {rest : List Value} {Qc : Array Value → State → Outcome → State → Prop} {XC : String → State → State → Prop}
    {pc : Nat} {own E : String} {ce : Cell} {q : Addr} {mc ms : Nat} (hown : s.vm.findClass own = some m.cls) (hlocks : meth.locks = false)
    (hpass : ∀ z ∈ c.exceptionTable.toList, covers z pc = false ∨ (z.catchType ≠ 0 ∧ ∃ nm : String, (Cond.classLink own z.catchType nm).before args s = true ∧ va_Nc E nm s)) (hcell : H[q]? = some ce) (hv : ce.vm = .none) (hcl : s.vm.findClass E = some ce.cls)
    (hx : ∀ t : State, t.heap = H → s.vm.Alike t.vm → XC E s t) (hf : ∀ z ∈ locs, free z.base) (hc : cells ≤ mc) (hs : slots ≤ ms) :
    vx_W p l e R s m args below meth c H locs cells slots (vx_MQ below Qc XC args s mc ms free) (F0 m pc ls rest) q := by
  intro T hT X
  have hpl : e.platform.magicAccessors = ({} : Platform).magicAccessors := by rw [X.admits.platform]
  obtain ⟨vm', hW', X', st⟩ := X.outThrough hlocks q (g := F0 m pc ls rest) rfl rfl rfl (cell := ce) (by rw [hT]; exact hcell) (by rw [hv]; rfl)
    (by obtain ⟨k9, h9, -⟩ := Vm.findClass_spec hcl; exact ⟨k9, h9⟩) (fun z hz => by
      rcases hpass z hz with h | ⟨hz0, nm, hl1, hn1⟩
      · exact Or.inl h
      · obtain ⟨c6, hc6, hcl6⟩ := Cond.classLink_spec hown hl1 e.platform hpl
        obtain ⟨a8, b8, h1, h2, h3⟩ := hn1
        cases Option.some.inj (h1.symm.trans hcl)
        cases Option.some.inj (h2.symm.trans hc6)
        exact Or.inr ⟨hz0, _, hcl6, h3⟩)
  obtain ⟨g₀, hfr⟩ := X'.frames_eq
  have hcell9 : ((T.setVm vm').setFrames (.throwing q :: below)).heap[q]? = some ce := by
    show T.heap[q]? = some ce
    rw [hT]; exact hcell
  have hend : Ended ((T.setVm vm').setFrames (.throwing q :: below)) below (.threw q) := State.frames_setFrames _ (State.cur_lt_of_frames hfr)
  refine ⟨(T.setVm vm').setFrames (.throwing q :: below), ?_, .threw q, X'.here.running, hend, Or.inr ⟨q, rfl, E, ce, locs, hx _ hT (X'.ends _).1.alike, hcell9, hv, hcl, (X'.ends _).1, (X'.ends _).2.mono hc hs, hf⟩⟩
  rw [X.pushThrowing_eq]
  exact st
/-- a thing of a world lies in the heap -/
theorem vx_lt {D : va_G} {cl : List vw_C} {ws : va_W} {H1 : Heap} (h : va_P D cl ws H1) {k : Nat} {q : Nat × va_E} (hk : ws[k]? = some q) : q.1 < H1.size := (h k q hk).lt
end VXS
/-! ===== END ===== -/
/-! ===== BEGIN methods with a table of their own: called by a name, returning or throwing ===== -/
section VXH
/-! vx_backW, vx_callVX, vx_callSX, vx_callVW, vx_runVW, vx_runVX, vx_runSX, vx_ofWH follow the same proofs as their sisters above (Free/Laws.lean, Shelf42/LK1.lean); vx_outP calls Shelf42/NT130.lean (outThrough). -/
section
variable {l : Launch} {R : Room} {p : Program} {e : Env} {below : List Frame} {s : State} {sargs : Array Value} {y : MethodName} {len W9 : Nat}
theorem vx_backW {ws : List Cond} {rm : Room} {Pc : Array Value → State → Prop} {Qc : Array Value → State → Outcome → State → Prop} {XC : String → State → State → Prop} {mc ms : Nat} {free : Addr → Prop} {bytes : ByteArray} {maxL : Nat} {ret : Option FieldType} {hh : List (Nat × Nat × Nat × Nat)}
    (hM : vx_Met l y ws rm Pc Qc XC mc ms free) (hblind : FrameBlind Pc) (hrc : rm.cells = mc) (hrs : rm.slots = ms)
    (hframes : rm.frames + 1 ≤ R.frames) (hlocals : W9 + (maxL + 11) + rm.locals ≤ R.locals)
    (hws : ∀ w ∈ ws, ∀ a' U, s.WarmedH U.vm → w.before a' U = true) (hcode : Cond.codeWith y bytes maxL ret hh ∈ ws) (hinit : ∀ a' U, s.WarmedH U.vm → (Cond.initialized y.cls).before a' U = true) :
    vx_Back l R p e below s sargs y len W9 (PreOf R mc ms Pc) (PostOf Qc mc ms free) (vx_Post XC mc ms free) := by
  intro m meth c A g ig mk a X hg hsize hdg hW hn hp
  have h1 : (headSpec ws rm).pre.before a A.U = true := atoms_intro fun w hw => hws w hw _ _ X.warmed
  have h2 : (Cond.codeWith y bytes maxL ret hh).before a A.U = true := hws _ hcode _ _ X.warmed
  have h3 : (Cond.initialized y.cls).before a A.U = true := hinit _ _ X.warmed
  have h4 : A.cells + (headSpec ws rm).room.cells ≤ R.cells := by rw [show (headSpec ws rm).room.cells = mc from hrc]; exact hp.1
  have h5 : A.slots + (headSpec ws rm).room.slots ≤ R.slots := by rw [show (headSpec ws rm).room.slots = ms from hrs]; exact hp.2.1
  have hPc : Pc a (A.U.calling g mk a) := hblind _ _ _ _ hp.2.2
  obtain ⟨U, Ls, c0, s0⟩ := A
  dsimp only [Pt.U, Pt.locs, Pt.cells, Pt.slots] at h1 h2 h3 h4 h5 X hn hPc ⊢
  obtain ⟨m9, methY, cY, hn9, hmY, hcY, -, hlY, -⟩ := Cond.codeWith_spec h2
  cases Option.some.inj (hn9.symm.trans hn)
  obtain ⟨kY, hkY, -⟩ := className_of_methodNamed hn
  have hinitY : kY.init = .initialized := Cond.initialized_spec (findClass_of_methodNamed hn) hkY h3
  have h : At U g.method c below := by rw [hg]; exact X.here
  have hlocals9 : W9 + (maxL + 11) + (headSpec ws rm).room.locals ≤ R.locals := hlocals
  have happ : (headSpec ws rm).appliesLoose y e.platform (U.calling g mk a) = true :=
    Spec.appliesLoose_calling (g := g) h hdg hn hkY hinitY
      (X.room_calling (g := g) (R' := (headSpec ws rm).room) hsize hmY hcY hframes (by rw [hlY]; omega) h4 h5) h1
  obtain ⟨mid, hmid⟩ := h.above
  have hfr : (U.setTop g).frames = (.java g :: mid) ++ below := by rw [State.frames_setTop' g h.top, hmid]; rfl
  obtain ⟨o, s₂, hsteps, -, hend, hq⟩ := Steps.callFree hM p X.admits X.cas X.clock (acts := []) hfr happ hPc trivial
  have hq' : vx_Q Qc XC mc ms free a (U.calling g mk a) o s₂ := hq
  rw [State.frames_setTop' g h.top] at hend
  obtain ⟨g₀, hg0⟩ := Option.isSome_iff_exists.mp h.top
  obtain ⟨r, hr⟩ := State.topJava?_eq_some.mp hg0
  have hr' : (({ U with heap := s₂.heap, slotsUsed := s₂.slotsUsed } : State).setVm s₂.vm).frames = .java g₀ :: r := hr
  rcases hq' with ⟨hqc, L, hfe, hL⟩ | ⟨q, rfl, E, ce, L, hx, hce, hcv, hcl, hW₂, hsm, hL⟩
  · obtain ⟨⟨v, rfl⟩, hW₂, e2, q2, q3, q4, q5, q6⟩ := id hfe
    have e3 : s₂ = ({ (U.calling g mk a).setFrames s₂.frames with heap := s₂.heap, slotsUsed := s₂.slotsUsed } : State).setVm s₂.vm := by
      have : s₂ = ({ s₂ with vm := (U.calling g mk a).vm } : State).setVm s₂.vm := rfl
      rw [e2] at this
      exact this
    obtain ⟨c₂, i₂, len₂, hc₂, hd₂, hf₂⟩ := hend
    have hW' : U.WarmedH s₂.vm := hW₂
    have hcc : c₂ = c := by
      have h1 : s₂.code? g.method = U.code? g.method := by
        rw [State.code?_eq, State.code?_eq, hW'.alike.method?]
      exact Option.some.inj (hc₂.symm.trans (h1.trans h.code))
    subst hcc
    have hlen : len₂ = len := by rw [hdg] at hd₂; cases hd₂; rfl
    subst hlen
    have hs₂ : s₂ = (({ U with heap := s₂.heap, slotsUsed := s₂.slotsUsed } : State).setVm s₂.vm).setTop { g with pc := g.pc + len₂, stack := v.toList ++ g.stack } := by
      refine e3.trans ?_
      rw [hf₂, State.calling_eq h.top, State.setFrames_setFrames, State.setTop_of_frames _ hr', hr]
      rfl
    have hsame : U.sameButNew ({ U with heap := s₂.heap, slotsUsed := s₂.slotsUsed } : State) L mc ms := by
      refine ⟨?_, q2, q3, q4, q5, q6⟩
      obtain ⟨t, ht, -⟩ := State.frames_cons hr
      show ({ U with heap := s₂.heap, slotsUsed := s₂.slotsUsed } : State) = { U.setFrames U.frames with heap := s₂.heap, slotsUsed := s₂.slotsUsed }
      rw [State.setFrames_self ht]
    subst hg
    refine Or.inl ⟨v, ⟨(({ U with heap := s₂.heap, slotsUsed := s₂.slotsUsed } : State).setVm s₂.vm), Ls ++ L, c0 + mc, s0 + ms⟩,
      ⟨X.admits, X.cas, X.clock, X.frames, X.room, X.hears, X.method, X.code, (X.here.setHeapUsed s₂.heap s₂.slotsUsed).setVm hW'.alike, X.tail, State.WarmedH.trans X.warmed hW', X.limits, X.bytes, X.same.trans (hsame.setVm s.vm)⟩,
      ⟨g, mk, s₂, L, rfl, rfl, hqc, rfl, hL, rfl, rfl⟩, ?_⟩
    show Steps p.tables e below _ ((({ U with heap := s₂.heap, slotsUsed := s₂.slotsUsed } : State).setVm s₂.vm).setTop { g with pc := g.pc + len₂, stack := v.toList ++ g.stack })
    rw [← hs₂]
    exact hsteps
  · obtain ⟨e2, q2, q3, q4, q5, q6⟩ := id hsm
    have e3 : s₂ = ({ (U.calling g mk a).setFrames s₂.frames with heap := s₂.heap, slotsUsed := s₂.slotsUsed } : State).setVm s₂.vm := by
      have : s₂ = ({ s₂ with vm := (U.calling g mk a).vm } : State).setVm s₂.vm := rfl
      rw [e2] at this
      exact this
    have hf₂ : s₂.frames = .throwing q :: .java g :: U.frames.tail := hend
    have hW' : U.WarmedH s₂.vm := hW₂
    have hs₂ : s₂ = ((({ U with heap := s₂.heap, slotsUsed := s₂.slotsUsed } : State).setVm s₂.vm).setTop g).pushFrame (.throwing q) := by
      refine e3.trans ?_
      rw [hf₂, State.calling_eq h.top, State.setFrames_setFrames, State.pushFrame, State.frames_setTop _ hr', State.setTop_of_frames _ hr', State.setFrames_setFrames, hr]
      rfl
    have hsame : U.sameButNew ({ U with heap := s₂.heap, slotsUsed := s₂.slotsUsed } : State) L mc ms := by
      refine ⟨?_, q2, q3, q4, q5, q6⟩
      obtain ⟨t, ht, -⟩ := State.frames_cons hr
      show ({ U with heap := s₂.heap, slotsUsed := s₂.slotsUsed } : State) = { U.setFrames U.frames with heap := s₂.heap, slotsUsed := s₂.slotsUsed }
      rw [State.setFrames_self ht]
    subst hg
    refine Or.inr ⟨q, ⟨(({ U with heap := s₂.heap, slotsUsed := s₂.slotsUsed } : State).setVm s₂.vm), Ls ++ L, c0 + mc, s0 + ms⟩,
      ⟨X.admits, X.cas, X.clock, X.frames, X.room, X.hears, X.method, X.code, (X.here.setHeapUsed s₂.heap s₂.slotsUsed).setVm hW'.alike, X.tail, State.WarmedH.trans X.warmed hW', X.limits, X.bytes, X.same.trans (hsame.setVm s.vm)⟩,
      ⟨g, mk, s₂, L, E, ce, rfl, rfl, hx, hce, hcv, hcl, rfl, hL, rfl, rfl⟩, ?_⟩
    show Steps p.tables e below _ (((({ U with heap := s₂.heap, slotsUsed := s₂.slotsUsed } : State).setVm s₂.vm).setTop g).pushFrame (.throwing q))
    rw [← hs₂]
    exact hsteps
end
variable {p : Program} {l : Launch} {e : Env} {R : Room} {s : State} {m : MethodId} {args : Array Value} {below : List Frame} {meth : Method} {c : Code} {T : State} {H : Heap} {locs : List Loc} {cells slots : Nat}
theorem vx_callVX (X : Stand p l e R s m args below meth c T locs cells slots) (hexec : p.tables.exec = Jvm.exec) {own C : String} {index : Nat} {y : MethodName} {bytes : ByteArray} {maxL : Nat} {ret : Option FieldType} {hh : List (Nat × Nat × Nat × Nat)}
    (hown : s.vm.findClass own = some m.cls) (hlink : (Cond.methodLink own index y).before args s = true) (hinst : (Cond.instanceMethod y).before args s = true) (hsel : (Cond.selects C y y).before args s = true)
    (hcode : (Cond.codeWith y bytes maxL ret hh).before args s = true) (hy : y.cls ≠ "java/lang/invoke/MethodHandle" ∧ y.cls ≠ "java/lang/invoke/VarHandle")
    {W9 : Nat} {Pre : Pt → Array Value → Prop} {Post : Pt → Array Value → Option Value → Pt → Prop} {PostX : Pt → Array Value → Addr → Pt → Prop} (hK : vx_Back l R p e below s args y 3 W9 Pre Post PostX)
    {b : Addr} {cellB : Cell} (hcell : T.heap[b]? = some cellB) (hobj : cellB.vm.isStatics = false) (hcls : s.vm.findClass C = some cellB.cls)
    {g : JFrame} (hg : g.method = m) (hsize : g.locals.size = c.maxLocals) {argsL rest : List Value} (hlen : ∀ sig, parseMethodDescriptor y.desc = some sig → argsL.length = sig.parameters.length)
    (hstack : g.stack = argsL.reverse ++ .ref b :: rest) (hW : 2 * g.monitorRoom + (rest.map fun v => v.category).sum ≤ W9) (hdg : decode c.code g.pc = .ok (.invokevirtual index, 3))
    (hpre : ∀ vm₁, s.WarmedH vm₁ → Pre ⟨T.setVm vm₁, locs, cells, slots⟩ (Value.ref b :: argsL).toArray) :
    (∃ (v : Option Value) (vm₁ : Vm) (B : Pt), s.WarmedH vm₁ ∧ Stand p l e R s m args below meth c B.U B.locs B.cells B.slots ∧ Post ⟨T.setVm vm₁, locs, cells, slots⟩ (Value.ref b :: argsL).toArray v B ∧
      ∀ target, Steps p.tables e below (B.U.setTop { g with pc := g.pc + 3, stack := v.toList ++ rest }) target → Steps p.tables e below (T.setTop g) target) ∨
    (∃ (q : Addr) (vm₁ : Vm) (B : Pt), s.WarmedH vm₁ ∧ Stand p l e R s m args below meth c B.U B.locs B.cells B.slots ∧ PostX ⟨T.setVm vm₁, locs, cells, slots⟩ (Value.ref b :: argsL).toArray q B ∧
      Steps p.tables e below (T.setTop g) ((B.U.setTop { g with stack := rest }).pushFrame (.throwing q))) := by
  obtain ⟨mk, methM, hnamed, hmethM, hstM, habM⟩ := Cond.instanceMethod_spec hinst
  obtain ⟨m8, methM', cM, hn8, hmethM', -, -, -, -, -, -, hsigM⟩ := Cond.codeWith_spec hcode
  cases Option.some.inj (hn8.symm.trans hnamed)
  cases hmethM.symm.trans hmethM'
  obtain ⟨c2, r2, m2, q1, q2, q3, q4, kP, hkP, hkPi⟩ := Cond.selects_spec hsel
  cases hcls.symm.trans q1
  cases (State.methodFound?_of_named hnamed hy).symm.trans q2
  cases hnamed.symm.trans q3
  have hselP : selectMethod e.platform s.vm cellB.cls mk = .method mk := by rw [Launch.admits_selectMethod X.admits]; exact q4
  obtain ⟨vm₁, X₁, hstep₁⟩ := X.invokevirtual hexec hown hlink hnamed hmethM hstM hkP hkPi hy (a := b) (cell := cellB) hcell
    (fun z h => by rw [h] at hobj; cases hobj) hselP hmethM habM hkP hkPi (g := g) hg (argsL := argsL) (rest := rest) (hlen _ hsigM) hstack hdg
  rcases hK m meth c ⟨T.setVm vm₁, locs, cells, slots⟩ { g with stack := rest } (.invokevirtual index) mk (Value.ref b :: argsL).toArray X₁ hg hsize hdg hW (X₁.named hnamed) (hpre vm₁ X₁.warmed) with ⟨v, B, X', hpost, hsteps⟩ | ⟨q, B, X', hpost, hsteps⟩
  · exact Or.inl ⟨v, vm₁, B, X₁.warmed, X', hpost, fun target h => hstep₁ _ fun acts => by rw [doInvoke_state]; exact hsteps.trans h⟩
  · exact Or.inr ⟨q, vm₁, B, X₁.warmed, X', hpost, hstep₁ _ fun acts => by rw [doInvoke_state]; exact hsteps⟩
theorem vx_callSX (X : Stand p l e R s m args below meth c T locs cells slots) (hexec : p.tables.exec = Jvm.exec) {own : String} {index : Nat} {y : MethodName} {bytes : ByteArray} {maxL : Nat} {ret : Option FieldType} {hh : List (Nat × Nat × Nat × Nat)}
    (hown : s.vm.findClass own = some m.cls) (hlink : (Cond.methodLink own index y).before args s = true) (hstat : (Cond.static y).before args s = true) (hinit : (Cond.initialized y.cls).before args s = true)
    (hcode : (Cond.codeWith y bytes maxL ret hh).before args s = true) (hy : y.cls ≠ "java/lang/invoke/MethodHandle" ∧ y.cls ≠ "java/lang/invoke/VarHandle")
    {W9 : Nat} {Pre : Pt → Array Value → Prop} {Post : Pt → Array Value → Option Value → Pt → Prop} {PostX : Pt → Array Value → Addr → Pt → Prop} (hK : vx_Back l R p e below s args y 3 W9 Pre Post PostX)
    {g : JFrame} (hg : g.method = m) (hsize : g.locals.size = c.maxLocals) {argsL rest : List Value} (hlen : ∀ sig, parseMethodDescriptor y.desc = some sig → argsL.length = sig.parameters.length)
    (hstack : g.stack = argsL.reverse ++ rest) (hW : 2 * g.monitorRoom + (rest.map fun v => v.category).sum ≤ W9) (hdg : decode c.code g.pc = .ok (.invokestatic index, 3))
    (hpre : ∀ vm₁, s.WarmedH vm₁ → Pre ⟨T.setVm vm₁, locs, cells, slots⟩ argsL.toArray) :
    (∃ (v : Option Value) (vm₁ : Vm) (B : Pt), s.WarmedH vm₁ ∧ Stand p l e R s m args below meth c B.U B.locs B.cells B.slots ∧ Post ⟨T.setVm vm₁, locs, cells, slots⟩ argsL.toArray v B ∧
      ∀ target, Steps p.tables e below (B.U.setTop { g with pc := g.pc + 3, stack := v.toList ++ rest }) target → Steps p.tables e below (T.setTop g) target) ∨
    (∃ (q : Addr) (vm₁ : Vm) (B : Pt), s.WarmedH vm₁ ∧ Stand p l e R s m args below meth c B.U B.locs B.cells B.slots ∧ PostX ⟨T.setVm vm₁, locs, cells, slots⟩ argsL.toArray q B ∧
      Steps p.tables e below (T.setTop g) ((B.U.setTop { g with stack := rest }).pushFrame (.throwing q))) := by
  obtain ⟨mk, methM, cM, hnamed, hmethM, -, -, -, -, -, -, hsigM⟩ := Cond.codeWith_spec hcode
  have hstatic : methM.isStatic = true := Cond.static_spec hnamed hmethM hstat
  obtain ⟨kP, hkP, -⟩ := className_of_methodNamed hnamed
  have hinitP : kP.init = .initialized := Cond.initialized_spec (findClass_of_methodNamed hnamed) hkP hinit
  obtain ⟨vm₁, X₁, hstep₁⟩ := X.invokestatic hexec hown hlink hnamed hmethM hstatic hkP hinitP hy (g := g) hg (argsL := argsL) (rest := rest) (hlen _ hsigM) hstack hdg
  rcases hK m meth c ⟨T.setVm vm₁, locs, cells, slots⟩ { g with stack := rest } (.invokestatic index) mk argsL.toArray X₁ hg hsize hdg hW (X₁.named hnamed) (hpre vm₁ X₁.warmed) with ⟨v, B, X', hpost, hsteps⟩ | ⟨q, B, X', hpost, hsteps⟩
  · exact Or.inl ⟨v, vm₁, B, X₁.warmed, X', hpost, fun target h => hstep₁ _ fun acts => by rw [doInvoke_state]; exact hsteps.trans h⟩
  · exact Or.inr ⟨q, vm₁, B, X₁.warmed, X', hpost, hstep₁ _ fun acts => by rw [doInvoke_state]; exact hsteps⟩
theorem vx_callVW (X : Stand p l e R s m args below meth c T locs cells slots) (hexec : p.tables.exec = Jvm.exec) {own C : String} {index : Nat} {y : MethodName} {bytes : ByteArray} {maxL : Nat} {ret : Option FieldType} {hh : List (Nat × Nat × Nat × Nat)}
    (hown : s.vm.findClass own = some m.cls) (hlink : (Cond.methodLink own index y).before args s = true) (hinst : (Cond.instanceMethod y).before args s = true) (hsel : (Cond.selects C y y).before args s = true)
    (hcode : (Cond.codeWith y bytes maxL ret hh).before args s = true) (hy : y.cls ≠ "java/lang/invoke/MethodHandle" ∧ y.cls ≠ "java/lang/invoke/VarHandle")
    {W9 : Nat} {Pre : Pt → Array Value → Prop} {Post : Pt → Array Value → Option Value → Pt → Prop} (hK : Back l R p e below s args y 3 W9 Pre Post)
    {b : Addr} {cellB : Cell} (hcell : T.heap[b]? = some cellB) (hobj : cellB.vm.isStatics = false) (hcls : s.vm.findClass C = some cellB.cls)
    {g : JFrame} (hg : g.method = m) (hsize : g.locals.size = c.maxLocals) {argsL rest : List Value} (hlen : ∀ sig, parseMethodDescriptor y.desc = some sig → argsL.length = sig.parameters.length)
    (hstack : g.stack = argsL.reverse ++ .ref b :: rest) (hW : 2 * g.monitorRoom + (rest.map fun v => v.category).sum ≤ W9) (hdg : decode c.code g.pc = .ok (.invokevirtual index, 3))
    (hpre : ∀ vm₁, s.WarmedH vm₁ → Pre ⟨T.setVm vm₁, locs, cells, slots⟩ (Value.ref b :: argsL).toArray) :
    ∃ (v : Option Value) (vm₁ : Vm) (B : Pt), s.WarmedH vm₁ ∧ Stand p l e R s m args below meth c B.U B.locs B.cells B.slots ∧ Post ⟨T.setVm vm₁, locs, cells, slots⟩ (Value.ref b :: argsL).toArray v B ∧
      ∀ target, Steps p.tables e below (B.U.setTop { g with pc := g.pc + 3, stack := v.toList ++ rest }) target → Steps p.tables e below (T.setTop g) target := by
  obtain ⟨mk, methM, hnamed, hmethM, hstM, habM⟩ := Cond.instanceMethod_spec hinst
  obtain ⟨m8, methM', cM, hn8, hmethM', -, -, -, -, -, -, hsigM⟩ := Cond.codeWith_spec hcode
  cases Option.some.inj (hn8.symm.trans hnamed)
  cases hmethM.symm.trans hmethM'
  obtain ⟨c2, r2, m2, q1, q2, q3, q4, kP, hkP, hkPi⟩ := Cond.selects_spec hsel
  cases hcls.symm.trans q1
  cases (State.methodFound?_of_named hnamed hy).symm.trans q2
  cases hnamed.symm.trans q3
  have hselP : selectMethod e.platform s.vm cellB.cls mk = .method mk := by rw [Launch.admits_selectMethod X.admits]; exact q4
  obtain ⟨vm₁, X₁, hstep₁⟩ := X.invokevirtual hexec hown hlink hnamed hmethM hstM hkP hkPi hy (a := b) (cell := cellB) hcell
    (fun z h => by rw [h] at hobj; cases hobj) hselP hmethM habM hkP hkPi (g := g) hg (argsL := argsL) (rest := rest) (hlen _ hsigM) hstack hdg
  obtain ⟨v, B, X', hpost, hsteps⟩ := hK m meth c ⟨T.setVm vm₁, locs, cells, slots⟩ { g with stack := rest } (.invokevirtual index) mk (Value.ref b :: argsL).toArray X₁ hg hsize hdg hW (X₁.named hnamed) (hpre vm₁ X₁.warmed)
  exact ⟨v, vm₁, B, X₁.warmed, X', hpost, fun target h => hstep₁ _ fun acts => by rw [doInvoke_state]; exact hsteps.trans h⟩
abbrev vx_CVW (R : Room) (s : State) (args : Array Value) (own C : String) (index : Nat) (y : MethodName) (bytes : ByteArray) (maxL : Nat) (ret : Option FieldType) (hh : List (Nat × Nat × Nat × Nat)) (ws : List Cond) (rm : Room) (mc ms n : Nat) : Prop :=
  (rm.cells = mc ∧ rm.slots = ms ∧ rm.frames + 1 ≤ R.frames ∧ 8 + (maxL + 11) + rm.locals ≤ R.locals ∧ (∀ w ∈ ws, ∀ (a' : Array Value) (U : State), s.WarmedH U.vm → w.before a' U = true) ∧ Cond.codeWith y bytes maxL ret hh ∈ ws) ∧
  (Cond.codeWith y bytes maxL ret hh).before args s = true ∧ (Cond.initialized y.cls).before args s = true ∧ (y.cls ≠ "java/lang/invoke/MethodHandle" ∧ y.cls ≠ "java/lang/invoke/VarHandle") ∧
  (∀ sig, parseMethodDescriptor y.desc = some sig → n = sig.parameters.length) ∧ (Cond.methodLink own index y).before args s = true ∧ (Cond.instanceMethod y).before args s = true ∧ (Cond.selects C y y).before args s = true
theorem vx_cwVW {own C : String} {index maxL mc ms : Nat} {y : MethodName} {bytes : ByteArray} {ret : Option FieldType} {hh : List (Nat × Nat × Nat × Nat)} {Ts ws ws' : List Cond} {rm : Room} (n : Nat) (ht : ∀ w ∈ Ts, w.before args s = true) (hT : GoodIn Ts (wsV own index C y ws)) (hw : ws = Cond.codeWith y bytes maxL ret hh :: ws') (hrc : rm.cells = mc) (hrs : rm.slots = ms)
    (hd : y.cls = C ∧ y.cls ≠ "java/lang/invoke/MethodHandle" ∧ y.cls ≠ "java/lang/invoke/VarHandle" ∧ (parseMethodDescriptor y.desc).map (fun d => d.parameters.length) = some n) (hR : rm.frames + 1 ≤ R.frames ∧ 8 + (maxL + 11) + rm.locals ≤ R.locals) :
    vx_CVW R s args own C index y bytes maxL ret hh ws rm mc ms n := by
  obtain ⟨hC, hd⟩ := hd
  subst hC
  have ok : ∀ w ∈ wsV own index y.cls y ws, w.before args s = true := fun w h => ht w (hT w h).1
  have hG : GoodIn Ts ws := fun w h => hT w (by unfold wsV; exact List.mem_append_right _ h)
  have hc : Cond.codeWith y bytes maxL ret hh ∈ ws := by rw [hw]; exact List.mem_cons_self
  refine ⟨⟨hrc, hrs, hR.1, hR.2, pay_in ht hG, hc⟩, ht _ (hG _ hc).1, ok _ (by simp [wsV]), ⟨hd.1, hd.2.1⟩, fun sig h => ?_, ok _ (by simp [wsV]), ok _ (by simp [wsV]), ok _ (by simp [wsV])⟩
  have h2 := hd.2.2
  rw [h] at h2
  exact (Option.some.inj h2).symm
theorem vx_runVW {y : MethodName} {bytes cc : ByteArray} {maxL nL mc ms n index : Nat} {ret : Option FieldType} {hh : List (Nat × Nat × Nat × Nat)} {ws : List Cond} {rm : Room} {Pc : Array Value → State → Prop} {Qc : Array Value → State → Outcome → State → Prop} {free : Addr → Prop} {Ts : List Cond} {own C : String} {b : Addr} {As rest : List Value} {g : JFrame}
    (S : CallFix p m c cc nL s args Ts own) (hM : Met l y ws rm Pc Qc mc ms free) (cw : vx_CVW R s args own C index y bytes maxL ret hh ws rm mc ms n) (hp : PreV s H C b Pc As)
    (hg : g.method = m) (hn : As.length = n) (hsize : g.locals.size = nL) (hstack : g.stack = As.reverse ++ .ref b :: rest) (hW : 2 * g.monitorRoom + (rest.map fun v => v.category).sum ≤ 8) (hdg : decode cc g.pc = .ok (.invokevirtual index, 3)) (hf : cells + mc ≤ R.cells ∧ slots + ms ≤ R.slots) :
    va_Run p l e R s m args below meth c H locs cells slots mc ms g rest (Qc (Value.ref b :: As).toArray) free := by
  obtain ⟨⟨hrc, hrs, hfr, hlo, hws, hcw⟩, hcode, hini, hy, hlen, hl, hin, hse⟩ := cw
  have hK : Back l R p e below s args y 3 8 (PreOf R mc ms Pc) (PostOf Qc mc ms free) := va_backW (hh := hh) (bytes := bytes) (maxL := maxL) (ret := ret) hM hp.1 hrc hrs hfr hlo hws hcw (fun a' U hW => word_at hW (Or.inl (by first | rfl | simp [Cond.onTables, Cond.keeps, Cond.steady])) hini)
  obtain ⟨hx, hb, hml, ho, -⟩ := S
  obtain ⟨-, ⟨cellB, hcB, hoB, hclB⟩, hPc⟩ := hp
  intro T hT X
  obtain ⟨v, vm₁, ⟨U', l2, c2, s2⟩, hW₁, X', ⟨g', mk, t, L, e1, e2, hq, h1, hL, h2, h3⟩, st⟩ := vx_callVW X hx (C := C) (hh := hh) (bytes := bytes) (maxL := maxL) (ret := ret) ho hl hin hse hcode hy hK (by rw [hT]; exact hcB) hoB hclB hg (hsize.trans hml.symm) (argsL := As) (rest := rest) (fun sig h => hn.trans (hlen sig h)) hstack hW (by rw [hb]; exact hdg)
    (fun vm₁ hW₁ => ⟨hf.1, hf.2, hPc (T.setVm vm₁) hT hW₁⟩)
  dsimp only [Pt.U, Pt.locs, Pt.cells, Pt.slots] at X' e1 e2 h1 h2 h3 st
  subst h1; subst h2; subst h3
  exact ⟨v, (T.setVm vm₁).calling g' mk (Value.ref b :: As).toArray, t, U', L, hT, X', hL, e1, e2, hq, st⟩
section
variable {y : MethodName} {bytes cc : ByteArray} {maxL nL mc ms n index : Nat} {ret : Option FieldType} {ws : List Cond} {rm : Room} {Pc : Array Value → State → Prop} {Qc : Array Value → State → Outcome → State → Prop} {XC : String → State → State → Prop} {free : Addr → Prop} {Ts : List Cond} {own C : String} {b : Addr} {As rest : List Value} {g : JFrame}
theorem vx_runVX {hh : List (Nat × Nat × Nat × Nat)} (S : CallFix p m c cc nL s args Ts own) (hM : vx_Met l y ws rm Pc Qc XC mc ms free) (cw : vx_CVW R s args own C index y bytes maxL ret hh ws rm mc ms n) (hp : PreV s H C b Pc As)
    (hg : g.method = m) (hn : As.length = n) (hsize : g.locals.size = nL) (hstack : g.stack = As.reverse ++ .ref b :: rest) (hW : 2 * g.monitorRoom + (rest.map fun v => v.category).sum ≤ 8) (hdg : decode cc g.pc = .ok (.invokevirtual index, 3)) (hf : cells + mc ≤ R.cells ∧ slots + ms ≤ R.slots) :
    vx_Run p l e R s m args below meth c H locs cells slots mc ms g rest (Qc (Value.ref b :: As).toArray) XC free := by
  obtain ⟨⟨hrc, hrs, hfr, hlo, hws, hcw⟩, hcode, hini, hy, hlen, hl, hin, hse⟩ := cw
  have hK : vx_Back l R p e below s args y 3 8 (PreOf R mc ms Pc) (PostOf Qc mc ms free) (vx_Post XC mc ms free) := vx_backW (hh := hh) (bytes := bytes) (maxL := maxL) (ret := ret) hM hp.1 hrc hrs hfr hlo hws hcw (fun a' U hW => word_at hW (Or.inl (by first | rfl | simp [Cond.onTables, Cond.keeps, Cond.steady])) hini)
  obtain ⟨hx, hb, hml, ho, -⟩ := S
  obtain ⟨-, ⟨cellB, hcB, hoB, hclB⟩, hPc⟩ := hp
  intro T hT X
  rcases vx_callVX X hx (C := C) (hh := hh) (bytes := bytes) (maxL := maxL) (ret := ret) ho hl hin hse hcode hy hK (by rw [hT]; exact hcB) hoB hclB hg (hsize.trans hml.symm) (argsL := As) (rest := rest) (fun sig h => hn.trans (hlen sig h)) hstack hW (by rw [hb]; exact hdg)
    (fun vm₁ hW₁ => ⟨hf.1, hf.2, hPc (T.setVm vm₁) hT hW₁⟩) with ⟨v, vm₁, ⟨U', l2, c2, s2⟩, hW₁, X', ⟨g', mk, t, L, e1, e2, hq, h1, hL, h2, h3⟩, st⟩ | ⟨q, vm₁, ⟨U', l2, c2, s2⟩, hW₁, X', ⟨g', mk, t, L, E, ce, e1, e2, hq, hce, hcv, hcl, h1, hL, h2, h3⟩, st⟩
  · dsimp only [Pt.U, Pt.locs, Pt.cells, Pt.slots] at X' e1 e2 h1 h2 h3 st
    subst h1; subst h2; subst h3
    exact Or.inl ⟨v, (T.setVm vm₁).calling g' mk (Value.ref b :: As).toArray, t, U', L, hT, X', hL, e1, e2, hq, st⟩
  · dsimp only [Pt.U, Pt.locs, Pt.cells, Pt.slots] at X' e1 e2 h1 h2 h3 st hcl
    subst h1; subst h2; subst h3
    exact Or.inr ⟨q, (T.setVm vm₁).calling g' mk (Value.ref b :: As).toArray, t, U', L, E, ce, hT, X', hL, e1, e2, hq, hce, hcv, vx_cls hW₁ hcl, st⟩
theorem vx_runSX {hh : List (Nat × Nat × Nat × Nat)} (S : CallFix p m c cc nL s args Ts own) (hM : vx_Met l y ws rm Pc Qc XC mc ms free) (cw : vx_CSW R s args own index y bytes maxL ret hh ws rm mc ms n) (hp : PreS s H Pc As)
    (hg : g.method = m) (hn : As.length = n) (hsize : g.locals.size = nL) (hstack : g.stack = As.reverse ++ rest) (hW : 2 * g.monitorRoom + (rest.map fun v => v.category).sum ≤ 8) (hdg : decode cc g.pc = .ok (.invokestatic index, 3)) (hf : cells + mc ≤ R.cells ∧ slots + ms ≤ R.slots) :
    vx_Run p l e R s m args below meth c H locs cells slots mc ms g rest (Qc As.toArray) XC free := by
  obtain ⟨⟨hrc, hrs, hfr, hlo, hws, hcw⟩, hcode, hini, hy, hlen, hl, hstt⟩ := cw
  have hK : vx_Back l R p e below s args y 3 8 (PreOf R mc ms Pc) (PostOf Qc mc ms free) (vx_Post XC mc ms free) := vx_backW (hh := hh) (bytes := bytes) (maxL := maxL) (ret := ret) hM hp.1 hrc hrs hfr hlo hws hcw (fun a' U hW => word_at hW (Or.inl (by first | rfl | simp [Cond.onTables, Cond.keeps, Cond.steady])) hini)
  obtain ⟨hx, hb, hml, ho, -⟩ := S
  intro T hT X
  rcases vx_callSX X hx (hh := hh) (bytes := bytes) (maxL := maxL) (ret := ret) ho hl hstt hini hcode hy hK hg (hsize.trans hml.symm) (argsL := As) (rest := rest) (fun sig h => hn.trans (hlen sig h)) hstack hW (by rw [hb]; exact hdg)
    (fun vm₁ hW₁ => ⟨hf.1, hf.2, hp.2 (T.setVm vm₁) hT hW₁⟩) with ⟨v, vm₁, ⟨U', l2, c2, s2⟩, hW₁, X', ⟨g', mk, t, L, e1, e2, hq, h1, hL, h2, h3⟩, st⟩ | ⟨q, vm₁, ⟨U', l2, c2, s2⟩, hW₁, X', ⟨g', mk, t, L, E, ce, e1, e2, hq, hce, hcv, hcl, h1, hL, h2, h3⟩, st⟩
  · dsimp only [Pt.U, Pt.locs, Pt.cells, Pt.slots] at X' e1 e2 h1 h2 h3 st
    subst h1; subst h2; subst h3
    exact Or.inl ⟨v, (T.setVm vm₁).calling g' mk As.toArray, t, U', L, hT, X', hL, e1, e2, hq, st⟩
  · dsimp only [Pt.U, Pt.locs, Pt.cells, Pt.slots] at X' e1 e2 h1 h2 h3 st hcl
    subst h1; subst h2; subst h3
    exact Or.inr ⟨q, (T.setVm vm₁).calling g' mk As.toArray, t, U', L, E, ce, hT, X', hL, e1, e2, hq, hce, hcv, vx_cls hW₁ hcl, st⟩
end
end VXH
theorem vx_ofWH {l : Launch} {y : MethodName} {ws ws' : List Cond} {rm : Room} {Pc : Array Value → State → Prop} {Qc : Array Value → State → Outcome → State → Prop} {XC : String → State → State → Prop} {mc ms : Nat} {free : Addr → Prop} {cc : ByteArray} {maxL : Nat} {ret : Option FieldType} {hh : List (Nat × Nat × Nat × Nat)}
    (hy : plainName y.cls = true) (hw : ws = Cond.codeWith y cc maxL ret hh :: ws')
    (body : ∀ p e s m args below meth c s₁, BodyLoose p l y (headSpec ws rm) cc maxL ret e s m args below meth c s₁ → c.maxLocals = maxL → Pc args s →
      W p l e (headSpec ws rm).room s m args below meth c s.heap [] 0 0 (vx_MQ below Qc XC args s mc ms free) (entryFrame m args maxL)) : vx_Met l y ws rm Pc Qc XC mc ms free := by
  refine MetFree.of_bodyS (code := cc) (maxLocals := maxL) (ret := ret) hy ?_ ?_
  · intro args s m h hn
    obtain ⟨m9, meth, c, hn9, h1, h2, h3, h4, -, h5, h6, -⟩ := Cond.codeWith_spec (atoms_spec (ws := ws) h _ (by rw [hw]; exact List.mem_cons_self))
    cases hn.symm.trans hn9
    exact ⟨meth, c, h1, h2, h3, h4, h5, h6⟩
  · intro p e s m args below meth c s₁ B hml hP _
    have hh0 : s₁.heap = s.heap := by rw [B.state]; rfl
    obtain ⟨t, a1, o, b1, b2, b3⟩ := body p e s m args below meth c s₁ B hml hP s₁ hh0 (Stand.of_body B)
    exact ⟨t, o, a1, b1, b2, b3⟩
/-! ===== END ===== -/
end
section
/-! ===== BEGIN new T[n][m]: the outer array a place, the inner ones among the pooled ===== -/
/-- f, but v at every address of l -/
def vr_up {α : Type} (f : Nat → α) (l : List Nat) (v : α) : Nat → α := fun a => if a ∈ l then v else f a
theorem vr_up_in {α : Type} {f : Nat → α} {l : List Nat} {v : α} {a : Nat} (h : a ∈ l) : vr_up f l v a = v := if_pos h
theorem vr_up_ne {α : Type} {f : Nat → α} {l : List Nat} {v : α} {a : Nat} (h : a ∉ l) : vr_up f l v a = f a := if_neg h
theorem vr_rows {L l : List Nat} {f : Nat → va_E} {e : va_E} (h : ∀ a, a ∈ l → a ∉ L) : va_pl L f ++ l.map (fun a => (a, e)) = va_pl (L ++ l) (vr_up f l e) := by
  unfold va_pl
  rw [List.map_append]
  congr 1
  · apply List.map_congr_left
    intro a ha
    rw [vr_up_ne (fun q => h a q ha)]
  · apply List.map_congr_left
    intro a ha
    rw [vr_up_in ha]
theorem vr_lay {X rows : va_W} {x : Nat × va_E} {pl : va_W} {D : va_G} {cl : List vw_C} {H : Heap} (hP : va_P D cl (((X ++ pl) ++ [x]) ++ rows) H) : va_P D cl ((X ++ [x]) ++ (pl ++ rows)) H := by
  rw [List.append_assoc (X ++ pl)] at hP
  have h := va_P.swap hP
  rw [← List.append_assoc X] at h
  have h2 := va_P.swap h
  rw [List.append_assoc (X ++ [x])] at h2
  exact h2
theorem vr_layD {X rows : va_W} {x : Nat × va_E} {pl : va_W} {A : Nat → Prop} (hD : va_D A (((X ++ pl) ++ [x]) ++ rows)) : va_D A ((X ++ [x]) ++ (pl ++ rows)) := by
  rw [List.append_assoc (X ++ pl)] at hD
  have h := va_D.swap hD
  rw [← List.append_assoc X] at h
  have h2 := va_D.swap h
  rw [List.append_assoc (X ++ [x])] at h2
  exact h2
theorem vr_outer (c : ClassId) (N h0 : Nat) : ∀ i : Nat, Jvm.Free.Multi.outerC c N h0 i = arrV c N (fun j => va_rf (if j < i then some (h0 + 1 + j) else none))
  | 0 => by
    show ({ cls := c, slots := Array.replicate N .null, vm := .none } : Cell) = _
    rw [arrV_new]
    refine congrArg (arrV c N) (funext fun j => ?_)
    simp [va_rf]
  | i + 1 => by
    show (Jvm.Free.Multi.outerC c N h0 i).setSlot i (.ref (h0 + 1 + i)) = _
    rw [vr_outer c N h0 i, arrV_store]
    refine congrArg (arrV c N) (funext fun j => ?_)
    by_cases e : j = i
    · subst e
      simp [updV, va_rf]
    · by_cases h : j < i
      · simp [updV, e, h, Nat.lt_succ_of_lt h]
      · simp [updV, e, h, show ¬ j < i + 1 by omega]
section VGM
variable {p : Program} {l : Launch} {e : Env} {R : Room} {s : State} {m : MethodId} {args : Array Value} {below : List Frame} {meth : Method} {c : Code} {H : Heap} {locs : List Loc} {cells slots : Nat} {Q : State → Prop}
variable {cc : ByteArray} {pc : Nat} {ls : Array Slot} {rest : List Value} {D : va_G} {cl : List vw_C} {A : Nat → Prop} {a : Nat} {tys : List (ClassId × FieldType)} {ws : va_W} {H0 : Heap}
theorem va_mna {X : va_W} {L : List Nat} {f : Nat → va_E} {cc : ByteArray} (hexec : p.tables.exec = Jvm.exec) (hb : c.code = cc) {own : String} {index : Nat} {ty : FieldType} {cy : ClassId} (hown : s.vm.findClass own = some m.cls) (hclink : (Cond.classLink own index ("[" ++ (FieldType.array ty).toString)).before args s = true) (hover : (Cond.arrayOver (.array ty)).before args s = true) (harr : (Cond.arrayClass ty).before args s = true) (hcy : s.vm.findClass (FieldType.array ty).toString = some cy)
    (hK : va_K D cl tys s) (hP : va_P D cl (X ++ va_pl L f) H) (hD : va_D A (X ++ va_pl L f)) (hS : va_S A H0 H locs) (hA : ∀ q, H0.size ≤ q → A q) {n k : Int32} {N' K' : Nat} {z : vp_A} (hn : ¬ n < 0) (hk : ¬ k < 0) (hN : n.toNatClampNeg = N') (hM : k.toNatClampNeg = K')
    (hb1 : N' * 4 ≤ 536870912) (hb2 : K' * componentBytes ty ≤ 536870912) (hb3 : K' ≤ 536870912) (hdf : fits ty (defaultValue ty) = true) (hdd : (defaultValue ty).isDefault = true) (hcells : cells + (1 + N') ≤ R.cells) (hslots : slots + (N' + N' * K') ≤ R.slots) (hz : ∀ c : ClassId, Jvm.Free.Multi.innerC c K' (defaultValue ty) = vp_cell c z) (hdg : decode cc pc = .ok (.multianewarray index 2, 4))
    (kk : ∀ (q : Nat) (r : Nat → Nat) (cA : ClassId) (H1 : Heap), (∀ i j : Nat, i < N' → j < N' → r i = r j → i = j) → (∀ i : Nat, i < N' → r i ∉ L) → va_K D cl (tys ++ [(cA, .array ty)]) s →
      va_P D cl ((X ++ [(q, .inl (cA, N', .inr (.inr (.inr (.inr (fun i => if i < N' then some (r i) else none))))))]) ++ va_pl (L ++ (List.range N').map r) (vr_up f ((List.range N').map r) (.inl (cy, z)))) H1 → va_D A ((X ++ [(q, .inl (cA, N', .inr (.inr (.inr (.inr (fun i => if i < N' then some (r i) else none))))))]) ++ va_pl (L ++ (List.range N').map r) (vr_up f ((List.range N').map r) (.inl (cy, z)))) → va_S A H0 H1 locs →
      W p l e R s m args below meth c H1 locs (cells + 1 + N') (slots + N' + N' * K') Q (F0 m (pc + 4) ls (.ref q :: rest))) : W p l e R s m args below meth c H locs cells slots Q (F0 m pc ls (.int k :: .int n :: rest)) := by
  subst hN
  subst hM
  intro T hT Xs
  obtain ⟨vm₁, cA, comp, -, fA, fC, hO, -, X', step⟩ := Xs.multianewarray2F hexec hown hclink hover harr (g := F0 m pc ls (.int k :: .int n :: rest)) rfl (by rw [hb]; exact hdg) rfl hn hk hb1 hb2 hb3 hdf hdd hcells hslots
  have ec : some cy = some comp := hcy.symm.trans fC
  cases ec
  generalize hF : Jvm.Free.Multi.fill (T.setVm vm₁) cA cy n.toNatClampNeg k.toNatClampNeg (defaultValue ty) n.toNatClampNeg = F at X' step
  have hTh : (T.setVm vm₁).heap = H := hT
  obtain ⟨f1, f2, -, -⟩ := Jvm.Free.Multi.fill_facts (T.setVm vm₁) cA cy n.toNatClampNeg k.toNatClampNeg (defaultValue ty) n.toNatClampNeg
  rw [hF, hTh] at f1 f2
  have hold : ∀ x : Nat, x < H.size → F.heap[x]? = H[x]? := fun x hx => by
    have := Jvm.Free.Multi.fill_old (T.setVm vm₁) cA cy n.toNatClampNeg k.toNatClampNeg (defaultValue ty) (a := x) (by rw [hTh]; exact hx) n.toNatClampNeg
    rw [hF, hTh] at this
    exact this
  have hrow : ∀ j : Nat, j < n.toNatClampNeg → F.heap[H.size + 1 + j]? = some (vp_cell cy z) := fun j hj => by
    have := Jvm.Free.Multi.fill_inner (T.setVm vm₁) cA cy n.toNatClampNeg k.toNatClampNeg (defaultValue ty) n.toNatClampNeg j hj
    rw [hF, hTh, hz] at this
    exact this
  have hout : Jvm.Free.Multi.outerC cA n.toNatClampNeg H.size n.toNatClampNeg = vp_cell cA (n.toNatClampNeg, .inr (.inr (.inr (.inr (fun i => if i < n.toNatClampNeg then some (H.size + 1 + i) else none))))) := by
    rw [vp_cell_q]
    exact vr_outer cA n.toNatClampNeg H.size n.toNatClampNeg
  rw [hout] at f2
  have hlt : ∀ a, a ∈ L → a < H.size := fun a ha => by
    obtain ⟨k9, hk9⟩ := va_pl_get (X := X) (f := f) ha
    exact (hP k9 _ hk9).lt
  have hnl : ∀ i : Nat, i < n.toNatClampNeg → H.size + 1 + i ∉ L := fun i _ h => by
    have := hlt _ h
    omega
  have hnm : ∀ a, a ∈ (List.range n.toNatClampNeg).map (fun i => H.size + 1 + i) → a ∉ L := fun a ha h => by
    obtain ⟨i, -, rfl⟩ := List.mem_map.mp ha
    have := hlt _ h
    omega
  have hP0 : va_P D cl (X ++ va_pl L f) F.heap := hP.kept (fun k9 x hx => hold x.1 ((hP k9 x hx).lt))
  have hP1 : va_P D cl ((X ++ va_pl L f) ++ [(H.size, .inl (cA, n.toNatClampNeg, .inr (.inr (.inr (.inr (fun i => if i < n.toNatClampNeg then some (H.size + 1 + i) else none))))))]) F.heap := hP0.app (fun k9 x hx => by
    have h0 : k9 < 1 := (List.getElem?_eq_some_iff.mp hx).1
    rw [show k9 = 0 by omega] at hx
    cases hx
    exact f2)
  have hP2 : va_P D cl (((X ++ va_pl L f) ++ [(H.size, .inl (cA, n.toNatClampNeg, .inr (.inr (.inr (.inr (fun i => if i < n.toNatClampNeg then some (H.size + 1 + i) else none))))))]) ++ ((List.range n.toNatClampNeg).map (fun i => H.size + 1 + i)).map (fun a => (a, .inl (cy, z)))) F.heap := hP1.app (fun k9 x hx => by
    obtain ⟨a, ha, rfl⟩ := List.mem_map.mp (List.mem_of_getElem? hx)
    obtain ⟨i, hi, rfl⟩ := List.mem_map.mp ha
    exact hrow i (List.mem_range.mp hi))
  have hD2 : va_D A (((X ++ va_pl L f) ++ [(H.size, .inl (cA, n.toNatClampNeg, .inr (.inr (.inr (.inr (fun i => if i < n.toNatClampNeg then some (H.size + 1 + i) else none))))))]) ++ ((List.range n.toNatClampNeg).map (fun i => H.size + 1 + i)).map (fun a => (a, .inl (cy, z)))) := by
    have hD1 := hD.push (e := .inl (cA, n.toNatClampNeg, .inr (.inr (.inr (.inr (fun i => if i < n.toNatClampNeg then some (H.size + 1 + i) else none)))))) hP rfl (hA _ hS.1)
    generalize hW1 : (X ++ va_pl L f) ++ [(H.size, .inl (cA, n.toNatClampNeg, .inr (.inr (.inr (.inr (fun i => if i < n.toNatClampNeg then some (H.size + 1 + i) else none))))))] = W1 at hD1 hP1 ⊢
    have hle : ∀ (k9 : Nat) (x : Nat × va_E), W1[k9]? = some x → x.1 ≤ H.size := fun k9 x hx => by
      rw [← hW1] at hx
      by_cases hl : k9 < (X ++ va_pl L f).length
      · rw [List.getElem?_append_left hl] at hx
        exact Nat.le_of_lt ((hP k9 x hx).lt)
      · rw [List.getElem?_append_right (by omega)] at hx
        have h0 : k9 - (X ++ va_pl L f).length < 1 := (List.getElem?_eq_some_iff.mp hx).1
        rw [show k9 - (X ++ va_pl L f).length = 0 by omega] at hx
        cases hx
        exact Nat.le_refl _
    have hr : ∀ (k9 : Nat) (x : Nat × va_E), (((List.range n.toNatClampNeg).map (fun i => H.size + 1 + i)).map (fun a => ((a, .inl (cy, z)) : Nat × va_E)))[k9]? = some x → x.1 = H.size + 1 + k9 := fun k9 x hx => by
      rw [List.getElem?_map, List.getElem?_map] at hx
      by_cases h9 : k9 < n.toNatClampNeg
      · rw [List.getElem?_range h9] at hx
        cases hx
        rfl
      · have hn0 : (List.range n.toNatClampNeg)[k9]? = none := List.getElem?_eq_none (by rw [List.length_range]; omega)
        rw [hn0] at hx
        cases hx
    refine ⟨fun i j x y hi hj hxy => ?_, fun k9 x hx => ?_⟩
    · by_cases h1 : i < W1.length <;> by_cases h2 : j < W1.length
      · rw [List.getElem?_append_left h1] at hi
        rw [List.getElem?_append_left h2] at hj
        exact hD1.1 i j x y hi hj hxy
      · rw [List.getElem?_append_left h1] at hi
        rw [List.getElem?_append_right (by omega)] at hj
        have := hle _ _ hi
        have := hr _ _ hj
        omega
      · rw [List.getElem?_append_right (by omega)] at hi
        rw [List.getElem?_append_left h2] at hj
        have := hle _ _ hj
        have := hr _ _ hi
        omega
      · rw [List.getElem?_append_right (by omega)] at hi hj
        have := hr _ _ hi
        have := hr _ _ hj
        omega
    · by_cases h1 : k9 < W1.length
      · rw [List.getElem?_append_left h1] at hx
        exact hD1.2 k9 x hx
      · rw [List.getElem?_append_right (by omega)] at hx
        have := hr _ _ hx
        exact hA _ (by have := hS.1; omega)
  have hAr : ArrOfT s cA (.array ty) := fun N9 z9 => by
    obtain ⟨-, k9, hk9, cm9, hkk9⟩ := (hO 0 0 0).1
    exact ⟨(fun q hq => by cases hq), k9, hk9, cm9, hkk9⟩
  have hK2 : va_K D cl (tys ++ [(cA, .array ty)]) s := ⟨hK.1, fun k9 x hx => by
    by_cases hl : k9 < tys.length
    · rw [List.getElem?_append_left hl] at hx
      exact hK.2 k9 x hx
    · rw [List.getElem?_append_right (by omega)] at hx
      have h0 : k9 - tys.length < 1 := (List.getElem?_eq_some_iff.mp hx).1
      rw [show k9 - tys.length = 0 by omega] at hx
      cases hx
      exact ⟨hAr, fA⟩⟩
  obtain ⟨t, a1, b1⟩ := kk H.size (fun i => H.size + 1 + i) cA F.heap (fun i j _ _ h => by have h9 : H.size + 1 + i = H.size + 1 + j := h; omega) hnl hK2 (by rw [← vr_rows hnm]; exact vr_lay hP2) (by rw [← vr_rows hnm]; exact vr_layD hD2) ⟨by rw [f1]; have := hS.1; omega, fun x h1 h2 => (hold x (Nat.lt_of_lt_of_le h1 hS.1)).trans (hS.2.1 x h1 h2), hS.2.2⟩ F rfl X'
  refine ⟨t, step t ?_, b1⟩
  have e : T.heap.size = H.size := by rw [hT]
  rw [e]
  exact a1
end VGM
end
section
def RX0 : String := "SpanLodge$Broker"
def TX0 : u_T := fun k => match k with
  | 0 => ("SpanLodge$Broker", "ledger", "LSpanLodge$Ledger;", true)
  | _ => ("SpanLodge$Broker", "found", "[I", true)
def tyX0 : Nat → FieldType := fun k => match k with
  | 0 => .object "SpanLodge$Ledger"
  | _ => .array .int
abbrev wsX00 : List Cond := u_ws RX0 TX0 2
theorem nmX0 : ∀ a, a < 2 → ∀ b, b < 2 → a ≠ b → (TX0 a).2.1 ≠ (TX0 b).2.1 := by decide +kernel
theorem tyX0_ok : ∀ k, k < 2 → parseFieldDescriptor (TX0 k).2.2.1 = some (tyX0 k) := by decide +kernel
abbrev cX0_init : ByteArray := prog_2_method_1_code
def yX0_init : MethodName := ⟨RX0, "<init>", "(LSpanLodge$Ledger;)V"⟩
abbrev cX0_swapGain : ByteArray := prog_2_method_2_code
def yX0_swapGain : MethodName := ⟨RX0, "swapGain", "(II)I"⟩
abbrev cX0_buyoutGain : ByteArray := prog_2_method_3_code
def yX0_buyoutGain : MethodName := ⟨RX0, "buyoutGain", "(II)I"⟩
abbrev cX0_priceOf : ByteArray := prog_2_method_4_code
def yX0_priceOf : MethodName := ⟨RX0, "priceOf", "(II)I"⟩
abbrev cX0_makeSwap : ByteArray := prog_2_method_5_code
def yX0_makeSwap : MethodName := ⟨RX0, "makeSwap", "(II)V"⟩
abbrev cX0_makeBuyout : ByteArray := prog_2_method_6_code
def yX0_makeBuyout : MethodName := ⟨RX0, "makeBuyout", "(II)V"⟩
abbrev cX0_countBargain : ByteArray := prog_2_method_7_code
def yX0_countBargain : MethodName := ⟨RX0, "countBargain", "(II)V"⟩
abbrev cX0_findBest : ByteArray := prog_2_method_8_code
def yX0_findBest : MethodName := ⟨RX0, "findBest", "()Z"⟩
abbrev cX0_findBestSwap : ByteArray := prog_2_method_9_code
def yX0_findBestSwap : MethodName := ⟨RX0, "findBestSwap", "()V"⟩
abbrev cX0_findBestBuyout : ByteArray := prog_2_method_10_code
def yX0_findBestBuyout : MethodName := ⟨RX0, "findBestBuyout", "()V"⟩
abbrev cX0_keepBetter : ByteArray := prog_2_method_11_code
def yX0_keepBetter : MethodName := ⟨RX0, "keepBetter", "(IIII)V"⟩
abbrev cX0_makeFound : ByteArray := prog_2_method_12_code
def yX0_makeFound : MethodName := ⟨RX0, "makeFound", "()V"⟩
def RX1 : String := "SpanLodge$Ledger"
def TX1 : u_T := fun k => match k with
  | 0 => ("SpanLodge$Ledger", "settings", "[I", true)
  | 1 => ("SpanLodge$Ledger", "owners", "[[I", true)
  | 2 => ("SpanLodge$Ledger", "bookings", "[[I", true)
  | 3 => ("SpanLodge$Ledger", "tally", "[I", true)
  | 4 => ("SpanLodge$Ledger", "queue", "[I", true)
  | 5 => ("SpanLodge$Ledger", "size", "I", false)
  | 6 => ("SpanLodge$Ledger", "time", "I", false)
  | 7 => ("SpanLodge$Ledger", "ownerCount", "I", false)
  | 8 => ("SpanLodge$Ledger", "bookingCount", "I", false)
  | 9 => ("SpanLodge$Ledger", "swaps", "I", false)
  | _ => ("SpanLodge$Ledger", "buyouts", "I", false)
def tyX1 : Nat → FieldType := fun k => match k with
  | 0 => .array .int
  | 1 => .array (.array .int)
  | 2 => .array (.array .int)
  | 3 => .array .int
  | 4 => .array .int
  | 5 => .int
  | 6 => .int
  | 7 => .int
  | 8 => .int
  | 9 => .int
  | _ => .int
abbrev wsX10 : List Cond := u_ws RX1 TX1 11
theorem nmX1 : ∀ a, a < 11 → ∀ b, b < 11 → a ≠ b → (TX1 a).2.1 ≠ (TX1 b).2.1 := by decide +kernel
theorem tyX1_ok : ∀ k, k < 11 → parseFieldDescriptor (TX1 k).2.2.1 = some (tyX1 k) := by decide +kernel
abbrev cX1_init : ByteArray := prog_3_method_1_code
def yX1_init : MethodName := ⟨RX1, "<init>", "()V"⟩
abbrev cX1_startWith : ByteArray := prog_3_method_2_code
def yX1_startWith : MethodName := ⟨RX1, "startWith", "(I)V"⟩
abbrev cX1_copyFrom : ByteArray := prog_3_method_3_code
def yX1_copyFrom : MethodName := ⟨RX1, "copyFrom", "(LSpanLodge$Ledger;)V"⟩
abbrev cX1_clearTally : ByteArray := prog_3_method_4_code
def yX1_clearTally : MethodName := ⟨RX1, "clearTally", "()V"⟩
abbrev cX1_enterOwner : ByteArray := prog_3_method_5_code
def yX1_enterOwner : MethodName := ⟨RX1, "enterOwner", "(I)I"⟩
abbrev cX1_brokenOf : ByteArray := prog_3_method_6_code
def yX1_brokenOf : MethodName := ⟨RX1, "brokenOf", "(I)I"⟩
abbrev cX1_isBarred : ByteArray := prog_3_method_7_code
def yX1_isBarred : MethodName := ⟨RX1, "isBarred", "(I)Z"⟩
abbrev cX1_activeOf : ByteArray := prog_3_method_8_code
def yX1_activeOf : MethodName := ⟨RX1, "activeOf", "(I)I"⟩
abbrev cX1_hasLimit : ByteArray := prog_3_method_9_code
def yX1_hasLimit : MethodName := ⟨RX1, "hasLimit", "(I)Z"⟩
abbrev cX1_joyOfOwner : ByteArray := prog_3_method_10_code
def yX1_joyOfOwner : MethodName := ⟨RX1, "joyOfOwner", "(I)I"⟩
abbrev cX1_enterBooking : ByteArray := prog_3_method_11_code
def yX1_enterBooking : MethodName := ⟨RX1, "enterBooking", "(IIIIIII)I"⟩
abbrev cX1_letWait : ByteArray := prog_3_method_12_code
def yX1_letWait : MethodName := ⟨RX1, "letWait", "(I)V"⟩
abbrev cX1_bookAt : ByteArray := prog_3_method_13_code
def yX1_bookAt : MethodName := ⟨RX1, "bookAt", "(II)Z"⟩
abbrev cX1_isIn : ByteArray := prog_3_method_14_code
def yX1_isIn : MethodName := ⟨RX1, "isIn", "(II)Z"⟩
abbrev cX1_isActive : ByteArray := prog_3_method_15_code
def yX1_isActive : MethodName := ⟨RX1, "isActive", "(I)Z"⟩
abbrev cX1_countIn : ByteArray := prog_3_method_16_code
def yX1_countIn : MethodName := ⟨RX1, "countIn", "(I)I"⟩
abbrev cX1_dropEnded : ByteArray := prog_3_method_17_code
def yX1_dropEnded : MethodName := ⟨RX1, "dropEnded", "()I"⟩
abbrev cX1_joyOf : ByteArray := prog_3_method_18_code
def yX1_joyOf : MethodName := ⟨RX1, "joyOf", "(I)I"⟩
abbrev cX1_joyAt : ByteArray := prog_3_method_19_code
def yX1_joyAt : MethodName := ⟨RX1, "joyAt", "(II)I"⟩
abbrev cX1_clashing : ByteArray := prog_3_method_20_code
def yX1_clashing : MethodName := ⟨RX1, "clashing", "(IIIIII)I"⟩
abbrev cX1_wouldClash : ByteArray := prog_3_method_21_code
def yX1_wouldClash : MethodName := ⟨RX1, "wouldClash", "(IIII)Z"⟩
abbrev cX1_holderAt : ByteArray := prog_3_method_22_code
def yX1_holderAt : MethodName := ⟨RX1, "holderAt", "(II)I"⟩
abbrev cX1_usedWithin : ByteArray := prog_3_method_24_code
def yX1_usedWithin : MethodName := ⟨RX1, "usedWithin", "(I)I"⟩
abbrev cX1_earliestFit : ByteArray := prog_3_method_25_code
def yX1_earliestFit : MethodName := ⟨RX1, "earliestFit", "(IIIII)I"⟩
abbrev cX1_latestFit : ByteArray := prog_3_method_26_code
def yX1_latestFit : MethodName := ⟨RX1, "latestFit", "(IIIII)I"⟩
abbrev cX1_bestTime : ByteArray := prog_3_method_27_code
def yX1_bestTime : MethodName := ⟨RX1, "bestTime", "(I)I"⟩
abbrev cX1_placeWaiting : ByteArray := prog_3_method_28_code
def yX1_placeWaiting : MethodName := ⟨RX1, "placeWaiting", "()V"⟩
abbrev cX1_waiterAt : ByteArray := prog_3_method_29_code
def yX1_waiterAt : MethodName := ⟨RX1, "waiterAt", "(I)I"⟩
abbrev cX1_queueUp : ByteArray := prog_3_method_30_code
def yX1_queueUp : MethodName := ⟨RX1, "queueUp", "()I"⟩
abbrev cX1_tick : ByteArray := prog_3_method_31_code
def yX1_tick : MethodName := ⟨RX1, "tick", "()V"⟩
abbrev cX1_finishHeld : ByteArray := prog_3_method_32_code
def yX1_finishHeld : MethodName := ⟨RX1, "finishHeld", "()I"⟩
abbrev cX1_bumpLate : ByteArray := prog_3_method_33_code
def yX1_bumpLate : MethodName := ⟨RX1, "bumpLate", "()I"⟩
abbrev cX1_expireWaiting : ByteArray := prog_3_method_34_code
def yX1_expireWaiting : MethodName := ⟨RX1, "expireWaiting", "()V"⟩
def RX2 : String := "SpanLodge$SetupReader"
def TX2 : u_T := fun k => match k with
  | 0 => ("SpanLodge$SetupReader", "text", "[B", true)
  | 1 => ("SpanLodge$SetupReader", "into", "LSpanLodge$Ledger;", true)
  | 2 => ("SpanLodge$SetupReader", "length", "I", false)
  | 3 => ("SpanLodge$SetupReader", "next", "I", false)
  | 4 => ("SpanLodge$SetupReader", "kind", "I", false)
  | 5 => ("SpanLodge$SetupReader", "start", "I", false)
  | 6 => ("SpanLodge$SetupReader", "number", "I", false)
  | 7 => ("SpanLodge$SetupReader", "errorKind", "I", false)
  | _ => ("SpanLodge$SetupReader", "errorAt", "I", false)
def tyX2 : Nat → FieldType := fun k => match k with
  | 0 => .array .byte
  | 1 => .object "SpanLodge$Ledger"
  | 2 => .int
  | 3 => .int
  | 4 => .int
  | 5 => .int
  | 6 => .int
  | 7 => .int
  | _ => .int
abbrev wsX20 : List Cond := u_ws RX2 TX2 9
theorem nmX2 : ∀ a, a < 9 → ∀ b, b < 9 → a ≠ b → (TX2 a).2.1 ≠ (TX2 b).2.1 := by decide +kernel
theorem tyX2_ok : ∀ k, k < 9 → parseFieldDescriptor (TX2 k).2.2.1 = some (tyX2 k) := by decide +kernel
abbrev cX2_init : ByteArray := prog_4_method_1_code
def yX2_init : MethodName := ⟨RX2, "<init>", "([BLSpanLodge$Ledger;)V"⟩
def RX3 : String := "SpanLodge"
def TX3 : u_T := fun k => match k with
  | 0 => ("SpanLodge", "text", "[B", true)
  | 1 => ("SpanLodge", "textLength", "I", false)
  | 2 => ("SpanLodge", "latestError", "I", false)
  | 3 => ("SpanLodge", "latestPosition", "I", false)
  | 4 => ("SpanLodge", "ledger", "LSpanLodge$Ledger;", true)
  | 5 => ("SpanLodge", "trial", "LSpanLodge$Ledger;", true)
  | 6 => ("SpanLodge", "saved", "[LSpanLodge$Ledger;", true)
  | 7 => ("SpanLodge", "broker", "LSpanLodge$Broker;", true)
  | 8 => ("SpanLodge", "reader", "LSpanLodge$SetupReader;", true)
  | 9 => ("SpanLodge", "draftFrom", "I", false)
  | 10 => ("SpanLodge", "draftLength", "I", false)
  | 11 => ("SpanLodge", "draftDuration", "I", false)
  | 12 => ("SpanLodge", "line", "[B", true)
  | _ => ("SpanLodge", "lineLength", "I", false)
def tyX3 : Nat → FieldType := fun k => match k with
  | 0 => .array .byte
  | 1 => .int
  | 2 => .int
  | 3 => .int
  | 4 => .object "SpanLodge$Ledger"
  | 5 => .object "SpanLodge$Ledger"
  | 6 => .array (.object "SpanLodge$Ledger")
  | 7 => .object "SpanLodge$Broker"
  | 8 => .object "SpanLodge$SetupReader"
  | 9 => .int
  | 10 => .int
  | 11 => .int
  | 12 => .array .byte
  | _ => .int
abbrev wsX30 : List Cond := u_ws RX3 TX3 14
theorem nmX3 : ∀ a, a < 14 → ∀ b, b < 14 → a ≠ b → (TX3 a).2.1 ≠ (TX3 b).2.1 := by decide +kernel
theorem tyX3_ok : ∀ k, k < 14 → parseFieldDescriptor (TX3 k).2.2.1 = some (tyX3 k) := by decide +kernel
abbrev cX3_init : ByteArray := prog_1_method_1_code
def yX3_init : MethodName := ⟨RX3, "<init>", "()V"⟩
abbrev cX3_addOwner : ByteArray := prog_1_method_7_code
def yX3_addOwner : MethodName := ⟨RX3, "addOwner", "(I)I"⟩
abbrev cX3_set : ByteArray := prog_1_method_8_code
def yX3_set : MethodName := ⟨RX3, "set", "(II)I"⟩
abbrev cX3_count : ByteArray := prog_1_method_9_code
def yX3_count : MethodName := ⟨RX3, "count", "(I)I"⟩
abbrev cX3_owner : ByteArray := prog_1_method_10_code
def yX3_owner : MethodName := ⟨RX3, "owner", "(II)I"⟩
abbrev cX3_trust : ByteArray := prog_1_method_11_code
def yX3_trust : MethodName := ⟨RX3, "trust", "(I)D"⟩
abbrev cX3_draft : ByteArray := prog_1_method_13_code
def yX3_draft : MethodName := ⟨RX3, "draft", "(III)V"⟩
abbrev cX3_book : ByteArray := prog_1_method_14_code
def yX3_book : MethodName := ⟨RX3, "book", "(IIII)I"⟩
abbrev cX3_booking : ByteArray := prog_1_method_15_code
def yX3_booking : MethodName := ⟨RX3, "booking", "(II)I"⟩
abbrev cX3_waiter : ByteArray := prog_1_method_16_code
def yX3_waiter : MethodName := ⟨RX3, "waiter", "(I)I"⟩
abbrev cX3_clean : ByteArray := prog_1_method_17_code
def yX3_clean : MethodName := ⟨RX3, "clean", "()I"⟩
abbrev cX3_arrive : ByteArray := prog_1_method_18_code
def yX3_arrive : MethodName := ⟨RX3, "arrive", "(I)I"⟩
abbrev cX3_leave : ByteArray := prog_1_method_19_code
def yX3_leave : MethodName := ⟨RX3, "leave", "(I)I"⟩
abbrev cX3_extend : ByteArray := prog_1_method_20_code
def yX3_extend : MethodName := ⟨RX3, "extend", "(II)I"⟩
abbrev cX3_cancel : ByteArray := prog_1_method_21_code
def yX3_cancel : MethodName := ⟨RX3, "cancel", "(I)I"⟩
abbrev cX3_evict : ByteArray := prog_1_method_22_code
def yX3_evict : MethodName := ⟨RX3, "evict", "(I)I"⟩
abbrev cX3_swap : ByteArray := prog_1_method_23_code
def yX3_swap : MethodName := ⟨RX3, "swap", "(II)I"⟩
abbrev cX3_buy : ByteArray := prog_1_method_24_code
def yX3_buy : MethodName := ⟨RX3, "buy", "(II)I"⟩
abbrev cX3_bargain : ByteArray := prog_1_method_25_code
def yX3_bargain : MethodName := ⟨RX3, "bargain", "()I"⟩
abbrev cX3_pass : ByteArray := prog_1_method_26_code
def yX3_pass : MethodName := ⟨RX3, "pass", "(I)I"⟩
abbrev cX3_gain : ByteArray := prog_1_method_27_code
def yX3_gain : MethodName := ⟨RX3, "gain", "(II)I"⟩
abbrev cX3_best : ByteArray := prog_1_method_28_code
def yX3_best : MethodName := ⟨RX3, "best", "(I)I"⟩
abbrev cX3_holder : ByteArray := prog_1_method_29_code
def yX3_holder : MethodName := ⟨RX3, "holder", "(II)I"⟩
abbrev cX3_nextFree : ByteArray := prog_1_method_30_code
def yX3_nextFree : MethodName := ⟨RX3, "nextFree", "(I)I"⟩
abbrev cX3_waitsFor : ByteArray := prog_1_method_33_code
def yX3_waitsFor : MethodName := ⟨RX3, "waitsFor", "(II)I"⟩
abbrev cX3_ahead : ByteArray := prog_1_method_34_code
def yX3_ahead : MethodName := ⟨RX3, "ahead", "(II)I"⟩
abbrev cX3_show : ByteArray := prog_1_method_35_code
def yX3_show : MethodName := ⟨RX3, "show", "(I)I"⟩
abbrev cX3_shown : ByteArray := prog_1_method_36_code
def yX3_shown : MethodName := ⟨RX3, "shown", "(I)I"⟩
abbrev cX3_save : ByteArray := prog_1_method_37_code
def yX3_save : MethodName := ⟨RX3, "save", "(I)V"⟩
abbrev cX3_restore : ByteArray := prog_1_method_38_code
def yX3_restore : MethodName := ⟨RX3, "restore", "(I)V"⟩
abbrev cX3_resetDraft : ByteArray := prog_1_method_39_code
def yX3_resetDraft : MethodName := ⟨RX3, "resetDraft", "()V"⟩
abbrev cX3_tallyOf : ByteArray := prog_1_method_40_code
def yX3_tallyOf : MethodName := ⟨RX3, "tallyOf", "(LSpanLodge$Ledger;II)I"⟩
abbrev cX3_needWithin : ByteArray := prog_1_method_41_code
def yX3_needWithin : MethodName := ⟨RX3, "needWithin", "(III)V"⟩
abbrev cX3_needOwner : ByteArray := prog_1_method_42_code
def yX3_needOwner : MethodName := ⟨RX3, "needOwner", "(I)V"⟩
abbrev cX3_needBooking : ByteArray := prog_1_method_43_code
def yX3_needBooking : MethodName := ⟨RX3, "needBooking", "(I)V"⟩
abbrev cX3_needByte : ByteArray := prog_1_method_44_code
def yX3_needByte : MethodName := ⟨RX3, "needByte", "(I)V"⟩
abbrev cX3_needSpan : ByteArray := prog_1_method_45_code
def yX3_needSpan : MethodName := ⟨RX3, "needSpan", "(II)V"⟩
def RX4 : String := "SpanLodgeModel"
def TX4 : u_T := fun k => match k with
  | _ => ("", "", "", false)
def tyX4 : Nat → FieldType := fun k => match k with
  | _ => .int
abbrev wsX40 : List Cond := u_ws RX4 TX4 0
theorem nmX4 : ∀ a, a < 0 → ∀ b, b < 0 → a ≠ b → (TX4 a).2.1 ≠ (TX4 b).2.1 := by decide +kernel
theorem tyX4_ok : ∀ k, k < 0 → parseFieldDescriptor (TX4 k).2.2.1 = some (tyX4 k) := by decide +kernel
def RJ9 : String := "java/lang/Math"
def TJ9 : u_T := fun k => match k with
  | _ => ("", "", "", false)
def tyJ9 : Nat → FieldType := fun k => match k with
  | _ => .int
abbrev wsJ90 : List Cond := u_ws RJ9 TJ9 0
theorem nmJ9 : ∀ a, a < 0 → ∀ b, b < 0 → a ≠ b → (TJ9 a).2.1 ≠ (TJ9 b).2.1 := by decide +kernel
theorem tyJ9_ok : ∀ k, k < 0 → parseFieldDescriptor (TJ9 k).2.2.1 = some (tyJ9 k) := by decide +kernel
abbrev cJ9_abs_0f7a4 : ByteArray := prog_11_method_59_code
def yJ9_abs_0f7a4 : MethodName := ⟨RJ9, "abs", "(I)I"⟩
abbrev cJ9_max_7cf53 : ByteArray := prog_11_method_65_code
def yJ9_max_7cf53 : MethodName := ⟨RJ9, "max", "(II)I"⟩
abbrev cJ9_min_7cf53 : ByteArray := prog_11_method_69_code
def yJ9_min_7cf53 : MethodName := ⟨RJ9, "min", "(II)I"⟩
def RJ0 : String := "java/lang/String"
def TJ0 : u_T := fun k => match k with
  | _ => ("", "", "", false)
def tyJ0 : Nat → FieldType := fun k => match k with
  | _ => .int
abbrev wsJ00 : List Cond := u_ws RJ0 TJ0 0
theorem nmJ0 : ∀ a, a < 0 → ∀ b, b < 0 → a ≠ b → (TJ0 a).2.1 ≠ (TJ0 b).2.1 := by decide +kernel
theorem tyJ0_ok : ∀ k, k < 0 → parseFieldDescriptor (TJ0 k).2.2.1 = some (tyJ0 k) := by decide +kernel
def RJ10 : String := "java/lang/System"
def TJ10 : u_T := fun k => match k with
  | _ => ("", "", "", false)
def tyJ10 : Nat → FieldType := fun k => match k with
  | _ => .int
abbrev wsJ100 : List Cond := u_ws RJ10 TJ10 0
theorem nmJ10 : ∀ a, a < 0 → ∀ b, b < 0 → a ≠ b → (TJ10 a).2.1 ≠ (TJ10 b).2.1 := by decide +kernel
theorem tyJ10_ok : ∀ k, k < 0 → parseFieldDescriptor (TJ10 k).2.2.1 = some (tyJ10 k) := by decide +kernel
def RL : String := "SpanLodgeLaw"
def TL : u_T := fun k => match k with
  | 0 => ("SpanLodgeLaw", "x", "LSpanLodge;", true)
  | 1 => ("SpanLodgeLaw", "ints", "[I", false)
  | 2 => ("SpanLodgeLaw", "next", "I", false)
  | 3 => ("SpanLodgeLaw", "credits", "I", false)
  | _ => ("SpanLodgeLaw", "swapsNow", "I", false)
def tyL : Nat → FieldType := fun k => match k with
  | 0 => .object "SpanLodge"
  | 1 => .array .int
  | 2 => .int
  | 3 => .int
  | _ => .int
abbrev wsL0 : List Cond := u_ws RL TL 5
theorem nmL : ∀ a, a < 5 → ∀ b, b < 5 → a ≠ b → (TL a).2.1 ≠ (TL b).2.1 := by decide +kernel
theorem tyL_ok : ∀ k, k < 5 → parseFieldDescriptor (TL k).2.2.1 = some (tyL k) := by decide +kernel
abbrev cL_init : ByteArray := method_1_code
def yL_init : MethodName := ⟨RL, "<init>", "()V"⟩
abbrev cL_at : ByteArray := method_2_code
def yL_at : MethodName := ⟨RL, "at", "([II)I"⟩
abbrev cL_draw : ByteArray := method_3_code
def yL_draw : MethodName := ⟨RL, "draw", "(I)I"⟩
abbrev cL_addOwner : ByteArray := method_4_code
def yL_addOwner : MethodName := ⟨RL, "addOwner", "(LSpanLodge;I)I"⟩
abbrev cL_set : ByteArray := method_5_code
def yL_set : MethodName := ⟨RL, "set", "(LSpanLodge;II)I"⟩
abbrev cL_count : ByteArray := method_6_code
def yL_count : MethodName := ⟨RL, "count", "(LSpanLodge;I)I"⟩
abbrev cL_owner : ByteArray := method_7_code
def yL_owner : MethodName := ⟨RL, "owner", "(LSpanLodge;II)I"⟩
abbrev cL_trust : ByteArray := method_8_code
def yL_trust : MethodName := ⟨RL, "trust", "(LSpanLodge;I)D"⟩
abbrev cL_draft : ByteArray := method_10_code
def yL_draft : MethodName := ⟨RL, "draft", "(LSpanLodge;III)I"⟩
abbrev cL_book : ByteArray := method_11_code
def yL_book : MethodName := ⟨RL, "book", "(LSpanLodge;IIII)I"⟩
abbrev cL_booking : ByteArray := method_12_code
def yL_booking : MethodName := ⟨RL, "booking", "(LSpanLodge;II)I"⟩
abbrev cL_waiter : ByteArray := method_13_code
def yL_waiter : MethodName := ⟨RL, "waiter", "(LSpanLodge;I)I"⟩
abbrev cL_arrive : ByteArray := method_14_code
def yL_arrive : MethodName := ⟨RL, "arrive", "(LSpanLodge;I)I"⟩
abbrev cL_leave : ByteArray := method_15_code
def yL_leave : MethodName := ⟨RL, "leave", "(LSpanLodge;I)I"⟩
abbrev cL_extend : ByteArray := method_16_code
def yL_extend : MethodName := ⟨RL, "extend", "(LSpanLodge;II)I"⟩
abbrev cL_cancel : ByteArray := method_17_code
def yL_cancel : MethodName := ⟨RL, "cancel", "(LSpanLodge;I)I"⟩
abbrev cL_evict : ByteArray := method_18_code
def yL_evict : MethodName := ⟨RL, "evict", "(LSpanLodge;I)I"⟩
abbrev cL_swap : ByteArray := method_19_code
def yL_swap : MethodName := ⟨RL, "swap", "(LSpanLodge;II)I"⟩
abbrev cL_buy : ByteArray := method_20_code
def yL_buy : MethodName := ⟨RL, "buy", "(LSpanLodge;II)I"⟩
abbrev cL_pass : ByteArray := method_21_code
def yL_pass : MethodName := ⟨RL, "pass", "(LSpanLodge;I)I"⟩
abbrev cL_gain : ByteArray := method_22_code
def yL_gain : MethodName := ⟨RL, "gain", "(LSpanLodge;II)I"⟩
abbrev cL_best : ByteArray := method_23_code
def yL_best : MethodName := ⟨RL, "best", "(LSpanLodge;I)I"⟩
abbrev cL_holder : ByteArray := method_24_code
def yL_holder : MethodName := ⟨RL, "holder", "(LSpanLodge;II)I"⟩
abbrev cL_waitsFor : ByteArray := method_28_code
def yL_waitsFor : MethodName := ⟨RL, "waitsFor", "(LSpanLodge;II)I"⟩
abbrev cL_ahead : ByteArray := method_29_code
def yL_ahead : MethodName := ⟨RL, "ahead", "(LSpanLodge;II)I"⟩
abbrev cL_show : ByteArray := method_30_code
def yL_show : MethodName := ⟨RL, "show", "(LSpanLodge;I)I"⟩
abbrev cL_save : ByteArray := method_31_code
def yL_save : MethodName := ⟨RL, "save", "(LSpanLodge;I)I"⟩
abbrev cL_restore : ByteArray := method_32_code
def yL_restore : MethodName := ⟨RL, "restore", "(LSpanLodge;I)I"⟩
abbrev cL_builds : ByteArray := method_33_code
def yL_builds : MethodName := ⟨RL, "builds", "()Z"⟩
abbrev cL_books : ByteArray := method_34_code
def yL_books : MethodName := ⟨RL, "books", "()Z"⟩
abbrev cL_areApart : ByteArray := method_35_code
def yL_areApart : MethodName := ⟨RL, "areApart", "()Z"⟩
abbrev cL_nobodyCould : ByteArray := method_36_code
def yL_nobodyCould : MethodName := ⟨RL, "nobodyCould", "()Z"⟩
abbrev cL_sums : ByteArray := method_37_code
def yL_sums : MethodName := ⟨RL, "sums", "()Z"⟩
abbrev cL_acts : ByteArray := method_38_code
def yL_acts : MethodName := ⟨RL, "acts", "()Z"⟩
abbrev cL_passes : ByteArray := method_39_code
def yL_passes : MethodName := ⟨RL, "passes", "()Z"⟩
abbrev cL_foretells : ByteArray := method_40_code
def yL_foretells : MethodName := ⟨RL, "foretells", "()Z"⟩
abbrev cL_lines : ByteArray := method_41_code
def yL_lines : MethodName := ⟨RL, "lines", "()Z"⟩
abbrev cL_law : ByteArray := code
def yL_law : MethodName := ⟨RL, "law", "([I)Z"⟩
abbrev cL_holds : ByteArray := method_43_code
def yL_holds : MethodName := ⟨RL, "holds", "([I)Z"⟩
abbrev vwCl : List vw_C := [(RX0, TX0, 2), (RX1, TX1, 11), (RX2, TX2, 9), (RX3, TX3, 14), (RL, TL, 5)]
end
section
/-! THE STATE IN ONE FUNCTION: v c j is the int in place j of cell c; cells are numbered, their addresses are a map -/
abbrev V3 : Type := Nat → Nat → Int32
def up2 (v : V3) (c j : Nat) (x : Int32) : V3 := fun c' => if c' = c then upd (v c') j x else v c'
theorem up2_row (v : V3) (c j : Nat) (x : Int32) : up2 v c j x c = upd (v c) j x := if_pos rfl
theorem up2_off (v : V3) {c c' : Nat} (j : Nat) (x : Int32) (h : c' ≠ c) : up2 v c j x c' = v c' := if_neg h
def mk64 (hi lo : Int32) : Int64 := Int64.ofBitVec (hi.toBitVec ++ lo.toBitVec)
def hi64 (x : Int64) : Int32 := Int32.ofBitVec (x.toBitVec.extractLsb' 32 32)
def lo64 (x : Int64) : Int32 := Int32.ofBitVec (x.toBitVec.extractLsb' 0 32)
/-- parameters: class numbers and slots, addresses, array classes, cells alive, the first new address, addresses of constants -/
abbrev zG : Type := va_G × (Nat → Nat) × (Nat → ClassId) × Nat × Nat × (Nat → Nat)
abbrev gD (G : zG) : va_G := G.1
abbrev gad (G : zG) : Nat → Nat := G.2.1
abbrev gcA (G : zG) : Nat → ClassId := G.2.2.1
abbrev gn (G : zG) : Nat := G.2.2.2.1
abbrev gb (G : zG) : Nat := G.2.2.2.2.1
abbrev gk (G : zG) : Nat → Nat := G.2.2.2.2.2
def zA (G : zG) : Nat → Prop := fun q => gb G ≤ q
def zI (G : zG) (N : Nat) (f : Nat → Int32) : va_E := .inl (gcA G 0, N, .inl f)
def entL (G : zG) (v : V3) (b r : Nat) : va_E :=
  if r = 0 then .inr (1, [.ref (gad G (b + 1)), .ref (gad G (b + 2)), .ref (gad G (b + 3)), .ref (gad G (b + 4)), .ref (gad G (b + 5)), .int (v b 5), .int (v b 6), .int (v b 7), .int (v b 8), .int (v b 9), .int (v b 10)])
  else if r = 1 then .inl (gcA G 0, 4, .inl (v (b + 1)))
  else if r = 2 then .inl (gcA G 5, 8, .inr (.inr (.inr (.inr (fun j => some (gad G (b + 6 + j)))))))
  else if r = 3 then .inl (gcA G 5, 40, .inr (.inr (.inr (.inr (fun j => some (gad G (b + 14 + j)))))))
  else if r = 4 then .inl (gcA G 0, 4, .inl (v (b + 4)))
  else if r = 5 then .inl (gcA G 0, 40, .inl (v (b + 5)))
  else if r < 14 then .inl (gcA G 0, 8, .inl (v (b + r)))
  else .inl (gcA G 0, 10, .inl (v (b + r)))
def entS (G : zG) (v : V3) (c : Nat) : va_E := match c with
  | 0 => .inr (3, [.ref (gad G 1), .int (v 0 1), .int (v 0 2), .int (v 0 3), .ref (gad G 8), .ref (gad G 62), .ref (gad G 3), .ref (gad G 4), .ref (gad G 6), .int (v 0 9), .int (v 0 10), .int (v 0 11), .ref (gad G 2), .int (v 0 13)])
  | 1 => .inl (gcA G 1, 800, .inl (v 1))
  | 2 => .inl (gcA G 1, 64, .inl (v 2))
  | 3 => .inl (gcA G 6, 2, .inr (.inr (.inr (.inr (fun j => if v 3 j = 0 then none else some (gad G (8 + 54 * (v 3 j).toNatClampNeg)))))))
  | 4 => .inr (0, [.ref (gad G 8), .ref (gad G 5)])
  | 5 => .inl (gcA G 0, 5, .inl (v 5))
  | 6 => .inr (2, [.ref (gad G 1), .ref (gad G 62), .int (v 6 2), .int (v 6 3), .int (v 6 4), .int (v 6 5), .int (v 6 6), .int (v 6 7), .int (v 6 8)])
  | _ => .inr (4, [.ref (gad G 0), (if v 7 1 = 0 then .null else .ref (gk G 3)), .int (v 7 2), .int (v 7 3), .int (v 7 4)])
def ent (G : zG) (v : V3) (c : Nat) : va_E := if c < 8 then entS G v c else entL G v (c - (c - 8) % 54) ((c - 8) % 54)
/-- a ledger, alive -/
def isL (G : zG) (b : Nat) : Prop := (b = 8 ∨ b = 62 ∨ b = 116 ∨ b = 170) ∧ b + 54 ≤ gn G
theorem isL_lt {G : zG} {b : Nat} (h : isL G b) (r : Nat) (hr : r < 54) : b + r < gn G := by have := h.2; omega
theorem ent_at {G : zG} {v : V3} {b : Nat} (h : isL G b) (r : Nat) (hr : r < 54) : ent G v (b + r) = entL G v b r := by
  have e : (b + r - 8) % 54 = r := by rcases h.1 with e | e | e | e <;> omega
  have e2 : b + r - r = b := by omega
  have e3 : ¬ b + r < 8 := by rcases h.1 with e | e | e | e <;> omega
  unfold ent
  rw [if_neg e3, e, e2]
theorem ent_L {G : zG} {v : V3} {b : Nat} (h : isL G b) : ent G v b = .inr (1, [.ref (gad G (b + 1)), .ref (gad G (b + 2)), .ref (gad G (b + 3)), .ref (gad G (b + 4)), .ref (gad G (b + 5)), .int (v b 5), .int (v b 6), .int (v b 7), .int (v b 8), .int (v b 9), .int (v b 10)]) := (ent_at (v := v) h 0 (by omega)).trans (if_pos rfl)
theorem ent_L1 {G : zG} {v : V3} {b : Nat} (h : isL G b) : ent G v (b + 1) = .inl (gcA G 0, 4, .inl (v (b + 1))) := ent_at h 1 (by omega)
theorem ent_L2 {G : zG} {v : V3} {b : Nat} (h : isL G b) : ent G v (b + 2) = .inl (gcA G 5, 8, .inr (.inr (.inr (.inr (fun j => some (gad G (b + 6 + j))))))) := ent_at h 2 (by omega)
theorem ent_L3 {G : zG} {v : V3} {b : Nat} (h : isL G b) : ent G v (b + 3) = .inl (gcA G 5, 40, .inr (.inr (.inr (.inr (fun j => some (gad G (b + 14 + j))))))) := ent_at h 3 (by omega)
theorem ent_L4 {G : zG} {v : V3} {b : Nat} (h : isL G b) : ent G v (b + 4) = .inl (gcA G 0, 4, .inl (v (b + 4))) := ent_at h 4 (by omega)
theorem ent_L5 {G : zG} {v : V3} {b : Nat} (h : isL G b) : ent G v (b + 5) = .inl (gcA G 0, 40, .inl (v (b + 5))) := ent_at h 5 (by omega)
theorem ent_O {G : zG} {v : V3} {b i : Nat} (h : isL G b) (hi : i < 8) : ent G v (b + 6 + i) = .inl (gcA G 0, 8, .inl (v (b + 6 + i))) := by
  rw [Nat.add_assoc, ent_at h (6 + i) (by omega)]
  unfold entL
  rw [if_neg (by omega), if_neg (by omega), if_neg (by omega), if_neg (by omega), if_neg (by omega), if_neg (by omega), if_pos (by omega)]
theorem ent_B {G : zG} {v : V3} {b i : Nat} (h : isL G b) (hi : i < 40) : ent G v (b + 14 + i) = .inl (gcA G 0, 10, .inl (v (b + 14 + i))) := by
  rw [Nat.add_assoc, ent_at h (14 + i) (by omega)]
  unfold entL
  rw [if_neg (by omega), if_neg (by omega), if_neg (by omega), if_neg (by omega), if_neg (by omega), if_neg (by omega), if_neg (by omega)]
theorem isL_O {G : zG} {b i : Nat} (h : isL G b) (hi : i < 8) : b + 6 + i < gn G := by have := h.2; omega
theorem isL_B {G : zG} {b i : Nat} (h : isL G b) (hi : i < 40) : b + 14 + i < gn G := by have := h.2; omega
/-- a cell's content depends on its own row alone -/
theorem ent_cong {G : zG} {v v' : V3} {c : Nat} (h : v c = v' c) : ent G v c = ent G v' c := by
  unfold ent
  by_cases hc : c < 8
  · rw [if_pos hc, if_pos hc]
    match c, h, hc with
    | 0, h, _ | 1, h, _ | 2, h, _ | 3, h, _ | 4, h, _ | 5, h, _ | 6, h, _ | 7, h, _ => simp only [entS, h]
    | k + 8, _, hk => omega
  · rw [if_neg hc, if_neg hc]
    generalize hr : (c - 8) % 54 = r
    have hb : c - r + r = c := by omega
    generalize hbb : c - r = b at hb ⊢
    subst hb
    unfold entL
    by_cases h0 : r = 0
    · subst h0
      rw [if_pos rfl, if_pos rfl]
      simp only [Nat.add_zero] at h
      rw [h]
    · rw [if_neg h0, if_neg h0]
      by_cases h1 : r = 1
      · subst h1; simp only [if_true, h]
      · rw [if_neg h1, if_neg h1]
        by_cases h2 : r = 2
        · subst h2; simp only [if_true]
        · rw [if_neg h2, if_neg h2]
          by_cases h3 : r = 3
          · subst h3; simp only [if_true]
          · rw [if_neg h3, if_neg h3]
            by_cases h4 : r = 4
            · subst h4; simp only [if_true, h]
            · rw [if_neg h4, if_neg h4]
              by_cases h5 : r = 5
              · subst h5; simp only [if_true, h]
              · rw [if_neg h5, if_neg h5, h]
/-- the cells alive -/
def WS (G : zG) (v : V3) : va_W := (List.range (gn G)).map (fun c => (gad G c, ent G v c))
theorem WS_at {G : zG} {v : V3} {c : Nat} (h : c < gn G) : (WS G v)[c]? = some (gad G c, ent G v c) := by
  unfold WS
  rw [List.getElem?_map, List.getElem?_range h]
  rfl
theorem WS_get {G : zG} {v : V3} {c : Nat} {e : va_E} (h : c < gn G) (he : ent G v c = e) : (WS G v)[c]? = some (gad G c, e) := by rw [WS_at h, he]
theorem WS_set {G : zG} {v v' : V3} {c : Nat} {e : va_E} (h : c < gn G) (he : ent G v' c = e) (ho : ∀ c', c' ≠ c → v' c' = v c') : (WS G v).set c (gad G c, e) = WS G v' := by
  apply List.ext_getElem?
  intro k
  by_cases hk : k < gn G
  · rw [WS_at hk]
    by_cases hkc : k = c
    · subst hkc
      rw [List.getElem?_set_self (by simp [WS]; exact hk), he]
    · rw [List.getElem?_set_ne (Ne.symm hkc), WS_at hk, ent_cong (ho k hkc)]
  · have h1 : (WS G v').length ≤ k := by simp [WS]; omega
    have h2 : ((WS G v).set c (gad G c, e)).length ≤ k := by simp [WS]; omega
    rw [List.getElem?_eq_none h1, List.getElem?_eq_none h2]
def tysZ (G : zG) : List (ClassId × FieldType) := [(gcA G 0, .int), (gcA G 1, .byte), (gcA G 5, .array .int), (gcA G 6, .object "SpanLodge$Ledger")]
def Rp (G : zG) (v : V3) (H : Heap) : Prop := va_P (gD G) vwCl (WS G v) H ∧ va_D (zA G) (WS G v)
/-- what doesn't change at all: classes, static fields and their arrays -/
def f4 (a b c d : Int32) (j : Nat) : Int32 := match j with
  | 0 => a
  | 1 => b
  | 2 => c
  | _ => d
def zTx (i : Nat) : String := match i with
  | 0 => "size"
  | 1 => "owner"
  | 2 => "book"
  | 3 => "set"
  | 4 => "flex"
  | _ => "urgency"
def zBy (i : Nat) : List Int32 := match i with
  | 0 => [115, 105, 122, 101]
  | 1 => [111, 119, 110, 101, 114]
  | 2 => [98, 111, 111, 107]
  | 3 => [115, 101, 116]
  | 4 => [102, 108, 101, 120]
  | _ => [117, 114, 103, 101, 110, 99, 121]
def zlen (i : Nat) : Nat := (zBy i).length
def zch (i j : Nat) : Int32 := (zBy i).getD j 0
def zsn : Nat := 6
/-- where a text of a throw stands -/
def zMsg : List (String × Nat × String) := [("SpanLodge", 103, "there are 8 owners"), ("SpanLodge", 163, "all its times are over"), ("SpanLodge", 166, "there are 40 bookings"), ("SpanLodge", 171, "the owner may not book"), ("SpanLodge", 195, "the index is negative"), ("SpanLodge", 215, "both are the same"), ("SpanLodge", 237, "the time would be too great"), ("SpanLodge", 262, "nothing is saved there"), ("SpanLodge", 270, "an argument is out of range"), ("SpanLodge", 272, "there is no such owner"), ("SpanLodge", 274, "there is no such booking"), ("SpanLodge", 276, "there is no such byte"), ("SpanLodge", 278, "the span does not end within the file"), ("SpanLodge", 280, "the length is less than 1")]
/-- where a word of a setup stands, and which -/
def zSit : List (String × Nat × Nat) := []
/-- where a static field of the outer class is read -/
def zNst : List (String × Nat × String) := [("SpanLodge$Ledger", 52, "SETTING_FIRST")]
abbrev zst (G : zG) (i : Nat) : Nat := gk G (10 + i)
/-- the script -/
def zS (G : zG) (U : State) (H : Heap) : Prop := ∃ (L : Nat) (xs : Nat → Int32), L ≤ 260 ∧ va_T .int (gk G 3) L (fun j => .int (xs j)) (zA G) U H
def Wd1 (G : zG) (U : State) (H : Heap) : Prop :=
  (va_Z "SpanLodge" "SETTING_FIRST" "[I" (.ref (gk G 0)) (zA G) U H ∧ va_T .int (gk G 0) 4 (fun j => .int (f4 5 10 4 3 j)) (zA G) U H) ∧
  (va_Z "SpanLodge" "SETTING_LEAST" "[I" (.ref (gk G 1)) (zA G) U H ∧ va_T .int (gk G 1) 4 (fun j => .int (f4 0 0 1 1 j)) (zA G) U H) ∧
  (va_Z "SpanLodge" "SETTING_MOST" "[I" (.ref (gk G 2)) (zA G) U H ∧ va_T .int (gk G 2) 4 (fun j => .int (f4 50 99 9 9 j)) (zA G) U H)
def Wd2 (G : zG) (U : State) (H : Heap) : Prop := True ∧ True ∧ vx_Zq Bundle.tN "UNASSIGNED_STACK" Bundle.steD (zA G) U H ∧ vx_Zq Bundle.tN "SUPPRESSED_SENTINEL" Bundle.listD (zA G) U H
def Wd (G : zG) (U : State) (H : Heap) : Prop := Wd1 G U H ∧ Wd2 G U H ∧ zS G U H
abbrev nmE : List String := ["java/lang/RuntimeException", "java/lang/Exception"]
abbrev eIA : String := "java/lang/IllegalArgumentException"
abbrev eIS : String := "java/lang/IllegalStateException"
abbrev eIO : String := "java/lang/IndexOutOfBoundsException"
/-- words of throws that the tables alone decide, but no list keeps -/
def zThr : List Cond := [.declares (Bundle.initS "java/lang/RuntimeException"), .declares (Bundle.initS "java/lang/Exception"), .declares (Bundle.initS Bundle.tN), .castable eIA eIA, .castable eIS eIS, .castable eIO eIO]
/-- which class is no other's -/
def zNc : List (String × String) := [(eIA, eIO), (eIS, eIO), (eIS, eIA)]
theorem zThr_move {s U : State} (hv : s.vm.Alike U.vm) : ∀ w ∈ zThr, va_Nw w s → va_Nw w U := by
  intro w hw h
  have h1 : ∀ w' : Cond, w' ∈ zThr → w'.onTables = true := by decide +kernel
  have h2 : w.before #[] (s.setVm U.vm) = true := by
    simp only [zThr, List.mem_cons, List.not_mem_nil, or_false] at hw
    have h' : w.before #[] s = true := h
    rcases hw with rfl | rfl | rfl | rfl | rfl | rfl
    · exact (Cond.declares_setVm hv _).trans h'
    · exact (Cond.declares_setVm hv _).trans h'
    · exact (Cond.declares_setVm hv _).trans h'
    · exact (Cond.castable_setVm hv _ _).trans h'
    · exact (Cond.castable_setVm hv _ _).trans h'
    · exact (Cond.castable_setVm hv _ _).trans h'
  exact va_Nw.same (h1 w hw) (u := s.setVm U.vm) rfl h2
/-- the one array class over int arrays, and the one over ledgers (the first proof follows the kit's va_AO.moved) -/
def zAI (U : State) : Prop := (Cond.arrayOver (.array .int)).before #[] U = true
theorem zAI.moved {u U : State} (hvm : u.vm.Alike U.vm) (h : zAI u) : zAI U := by
  obtain ⟨comp, c, k, h1, h2, h3, h4, h5⟩ := arrayOverA_spec h
  obtain ⟨k', hk', he⟩ := hvm.2.2 _ _ h3
  have hi : (U.vm.classes.findIdx? fun (x : Class) => match x.kind with | .array component _ => component == comp | _ => false) = some c := by
    have e0 : ∀ vm : Vm, (vm.bare.classes.findIdx? fun (x : Class) => match x.kind with | .array component _ => component == comp | _ => false) = (vm.classes.findIdx? fun (x : Class) => match x.kind with | .array component _ => component == comp | _ => false) := fun vm => by
      simp only [Vm.bare, Array.findIdx?_map]
      rfl
    rw [← e0]
    first | rw [hvm.bare_eq] | rw [← hvm.bare_eq]
    rw [e0]
    exact h2
  have hkind : k'.kind = .array comp (.array .int) := by rw [he]; exact h4
  have f1 : U.vm.findClass (FieldType.array .int).toString = some comp := by rw [hvm.findClass]; exact h1
  have f2 : U.vm.findClass ("[" ++ (FieldType.array .int).toString) = some c := by rw [hvm.findClass]; exact h5
  unfold zAI Cond.before Cond.holds
  simp only [Cond.value]
  rw [f1, Option.bind_some]
  refine (congrArg (fun o : Option Nat => (o.bind (fun c => (U.vm.classes[c]?).map fun (k : Class) => match k.kind with | .array _ ty => decide (ty = FieldType.array .int) && decide (U.vm.findClass ("[" ++ (FieldType.array .int).toString) = some c) | _ => false) == some true)) hi).trans ?_
  simp [hk', hkind, f2]
def zAO (U : State) : Prop := va_AO "SpanLodge$Ledger" U ∧ zAI U
theorem zAO.moved {u U : State} (hvm : u.vm.Alike U.vm) (h : zAO u) : zAO U := ⟨h.1.moved hvm, h.2.moved hvm⟩
/-- the constants' places, which the tables alone decide -/
def Ws (G : zG) (U : State) : Prop := (∀ q ∈ zMsg, ∃ sa : Nat, vk_R q.1 q.2.1 q.2.2 sa U) ∧ (∀ q ∈ zSit, vk_R q.1 q.2.1 (zTx q.2.2) (zst G q.2.2) U) ∧ (∀ q ∈ zNst, va_Nw (.fieldLinkNest q.1 q.2.1 "SpanLodge" q.2.2 "[I" "SpanLodge") U) ∧ (∀ w ∈ zThr, va_Nw w U) ∧ (∀ q ∈ zNc, va_Nc q.1 q.2 U) ∧ zAO U
theorem Ws.warm {G : zG} {s U : State} (hW : s.WarmedH U.vm) (h : Ws G s) : Ws G U := ⟨fun q hq => by obtain ⟨sa, h1⟩ := h.1 q hq; exact ⟨sa, vk_R.warm hW h1⟩, fun q hq => vk_R.warm hW (h.2.1 q hq), fun q hq => va_Nw.warmF hW (h.2.2.1 q hq), fun w hw => zThr_move hW.alike w hw (h.2.2.2.1 w hw), fun q hq => va_Nc.moved hW.alike (h.2.2.2.2.1 q hq), h.2.2.2.2.2.moved hW.alike⟩
theorem Ws.same {G : zG} {u U : State} (hv : U.vm = u.vm) (h : Ws G u) : Ws G U := ⟨fun q hq => by obtain ⟨sa, h1⟩ := h.1 q hq; exact ⟨sa, vk_R.same hv h1⟩, fun q hq => vk_R.same hv (h.2.1 q hq), fun q hq => va_Nw.same rfl hv.symm (h.2.2.1 q hq), fun w hw => zThr_move (by rw [hv]; exact Vm.Alike.refl _) w hw (h.2.2.2.1 w hw), fun q hq => va_Nc.moved (by rw [hv]; exact Vm.Alike.refl _) (h.2.2.2.2.1 q hq), h.2.2.2.2.2.moved (by rw [hv]; exact Vm.Alike.refl _)⟩
theorem Wd.moved {G : zG} {u U : State} {H : Heap} (hvm : u.vm.Alike U.vm) (h : Wd G u H) : Wd G U H :=
  ⟨⟨⟨h.1.1.1.moved hvm, h.1.1.2.moved hvm⟩, ⟨h.1.2.1.1.moved hvm, h.1.2.1.2.moved hvm⟩, ⟨h.1.2.2.1.moved hvm, h.1.2.2.2.moved hvm⟩⟩,
   ⟨trivial, trivial, h.2.1.2.2.1.moved hvm, h.2.1.2.2.2.moved hvm⟩,
   by obtain ⟨L, xs, h1, h2⟩ := h.2.2; exact ⟨L, xs, h1, h2.moved hvm⟩⟩
theorem Wd.kept {G : zG} {U : State} {H H1 : Heap} (h : Wd G U H) (hq : ∀ a : Nat, a < H.size → ¬ zA G a → H1[a]? = H[a]?) : Wd G U H1 :=
  ⟨⟨⟨h.1.1.1.kept hq, h.1.1.2.kept hq⟩, ⟨h.1.2.1.1.kept hq, h.1.2.1.2.kept hq⟩, ⟨h.1.2.2.1.kept hq, h.1.2.2.2.kept hq⟩⟩,
   ⟨trivial, trivial, h.2.1.2.2.1.kept hq, h.2.1.2.2.2.kept hq⟩,
   by obtain ⟨L, xs, h1, h2⟩ := h.2.2; exact ⟨L, xs, h1, h2.kept hq⟩⟩
def KW (G : zG) (U : State) : Prop := va_K (gD G) vwCl (tysZ G) U ∧ Wd G U U.heap ∧ gb G ≤ U.heap.size ∧ Ws G U
/-- a method's state at a point -/
def Zs (G : zG) (s : State) (v : V3) (H : Heap) (locs : List Loc) : Prop := va_P (gD G) vwCl (WS G v) H ∧ va_D (zA G) (WS G v) ∧ va_S (zA G) s.heap H locs
def PcZ (G : zG) (av : List Value) (v : V3) : Array Value → State → Prop := fun a U => a = av.toArray ∧ Rp G v U.heap ∧ KW G U
abbrev QiZ (G : zG) (Q : Int32 → V3 → Prop) : Array Value → State → Outcome → State → Prop := va_Qi Q (fun u t => Rp G u t.heap) (zA G)
abbrev QvZ (G : zG) (Q : V3 → Prop) : Array Value → State → Outcome → State → Prop := va_Qv Q (fun u t => Rp G u t.heap) (zA G)
theorem PcZ.blind {G : zG} {av : List Value} {v : V3} : FrameBlind (PcZ G av v) := by
  intro a U g mk h
  obtain ⟨h1, h2, h3, h4, h5, h6⟩ := h
  exact ⟨h1, h2, va_K.moved (u := U) (U := U.calling g mk a) (Vm.Alike.refl U.vm) h3, Wd.moved (u := U) (U := U.calling g mk a) (Vm.Alike.refl U.vm) h4, h5, Ws.same (u := U) (U := U.calling g mk a) rfl h6⟩
theorem Zs.pre {G : zG} {s : State} {v : V3} {H : Heap} {locs : List Loc} (Z : Zs G s v H locs) (K : KW G s) {av : List Value} {U : State} (hU : U.heap = H) (hW : s.WarmedH U.vm) : PcZ G av v av.toArray U := by
  obtain ⟨hP, hD, hS⟩ := Z
  obtain ⟨hK, hw, hg, hst⟩ := K
  refine ⟨rfl, ⟨by rw [hU]; exact hP, hD⟩, va_K.moved hW.alike hK, ?_, ?_, Ws.warm hW hst⟩
  · rw [hU]
    exact (hw.kept hS.2.1).moved hW.alike
  · rw [hU]
    exact Nat.le_trans hg hS.1
theorem zA_old {G : zG} {s : State} (K : KW G s) {H : Heap} {v : V3} {locs : List Loc} (Z : Zs G s v H locs) : ∀ q, H.size ≤ q → zA G q := fun q h => Nat.le_trans K.2.2.1 (Nat.le_trans Z.2.2.1 h)
def tbg : List Cond := lw_tbl.filter goodWord
theorem tbg_in {w : Cond} (h : w ∈ lw_tbl) (hg : goodWord w = true) : w ∈ tbg := List.mem_filter.mpr ⟨h, hg⟩
theorem tbg_good {ws : List Cond} (h : ∀ w ∈ ws, w ∈ tbg) : GoodIn tbg ws := fun w hw => ⟨h w hw, good_of_word (List.mem_filter.mp (h w hw)).2⟩
theorem tb1 {w : Cond} (i : Nat) (h : tables_1_1[i]? = some w) (hg : goodWord w = true) : w ∈ tbg := tbg_in (List.mem_append_right _ (List.mem_append_left _ (List.mem_of_getElem? h))) hg
theorem tb2 {w : Cond} (i : Nat) (h : tables_1_2[i]? = some w) (hg : goodWord w = true) : w ∈ tbg := tbg_in (List.mem_append_right _ (List.mem_append_right _ (List.mem_append_left _ (List.mem_of_getElem? h)))) hg
theorem tb3 {w : Cond} (i : Nat) (h : tables_1_3[i]? = some w) (hg : goodWord w = true) : w ∈ tbg := tbg_in (List.mem_append_right _ (List.mem_append_right _ (List.mem_append_right _ (List.mem_append_left _ (List.mem_of_getElem? h))))) hg
theorem tb4 {w : Cond} (i : Nat) (h : tables_1_4[i]? = some w) (hg : goodWord w = true) : w ∈ tbg := tbg_in (List.mem_append_right _ (List.mem_append_right _ (List.mem_append_right _ (List.mem_append_right _ (List.mem_of_getElem? h))))) hg
theorem tb0 {w : Cond} (h : w ∈ k2_sels lw_privs) (hg : goodWord w = true) : w ∈ tbg := tbg_in (List.mem_append_left _ h) hg
end
section
/-! ROWS OVER THE STATE: an instruction that reads or writes a cell, a call, an end -/
theorem KW_n {G : zG} {s : State} (K : KW G s) : True := trivial
theorem isL_lt0 {G : zG} {b : Nat} (h : isL G b) : b < gn G := isL_lt h 0 (by omega)
theorem isL8 {G : zG} (h : 116 ≤ gn G) : isL G 8 := ⟨Or.inl rfl, by omega⟩
theorem isL62 {G : zG} (h : 116 ≤ gn G) : isL G 62 := ⟨Or.inr (Or.inl rfl), by omega⟩
theorem vp_lt {i : Int32} {n : Nat} (h : vp_in i n) : i.toNatClampNeg < n := Nat.not_le.mp fun q => h (Or.inr q)
/-- everything that stays the same in a body -/
def Cx (G : zG) (own : String) (cc : ByteArray) (nL : Nat) (ret : Option FieldType) (p : Program) (s : State) (m : MethodId) (args : Array Value) (meth : Method) (c : Code) : Prop :=
  p.tables.exec = Jvm.exec ∧ c.code = cc ∧ c.maxLocals = nL ∧ meth.sig.returnType = ret ∧ meth.locks = false ∧ s.vm.findClass own = some m.cls ∧ (∀ w ∈ tbg, w.before args s = true) ∧ KW G s ∧ 116 ≤ gn G
abbrev Mz (l : Launch) (y : MethodName) (cc : ByteArray) (nL : Nat) (ret : Option FieldType) (fr lo : Nat) (G : zG) (av : List Value) (v : V3) (Qc : Array Value → State → Outcome → State → Prop) : Prop :=
  Met l y (.code y cc nL ret :: tbg) { frames := fr, cells := 0, slots := 0, locals := lo } (PcZ G av v) Qc 0 0 (zA G)
section ZR
variable {p : Program} {l : Launch} {e : Env} {R : Room} {s : State} {m : MethodId} {args : Array Value} {below : List Frame} {meth : Method} {c : Code} {H : Heap} {locs : List Loc} {cells slots : Nat} {Q : State → Prop}
variable {cc : ByteArray} {pc nL : Nat} {ls : Array Slot} {rest : List Value} {G : zG} {v : V3} {own : String} {ret : Option FieldType}
theorem z_ofW {l : Launch} {y : MethodName} {cc : ByteArray} {nL : Nat} {ret : Option FieldType} {fr lo : Nat} {G : zG} {av : List Value} {v : V3} {Qc : Array Value → State → Outcome → State → Prop} (hg : 116 ≤ gn G) (hy : plainName y.cls = true) (hfit : (lg_sl av).length ≤ nL)
    (body : ∀ p e s m args below meth c ls, Cx G y.cls cc nL ret p s m args meth c → Zs G s v s.heap [] → lv_has ls nL (lv_args 0 av) → W p l e { frames := fr, cells := 0, slots := 0, locals := lo } s m args below meth c s.heap [] 0 0 (MQ below Qc args s 0 0 (zA G)) (F0 m 0 ls [])) :
    Mz l y cc nL ret fr lo G av v Qc := by
  refine Met.ofW (cc := cc) (maxL := nL) (ret := ret) hy rfl ?_
  intro p e s m args below meth c s₁ B hml hv
  obtain ⟨rfl, hR, K⟩ := hv
  have hts : ∀ w ∈ tbg, w.before av.toArray s = true := fun w h => atoms_spec (ws := .code y cc nL ret :: tbg) B.pre w (List.mem_cons_of_mem _ h)
  have hown : s.vm.findClass y.cls = some m.cls := findClass_of_methodNamed B.named
  have hl := lv_entry av (n := nL) hfit
  rw [lg_entry_eq]
  generalize (lg_sl av ++ List.replicate (nL - (lg_sl av).length) Slot.unset).toArray = ls at hl ⊢
  exact body p e s m av.toArray below meth c ls ⟨B.exec, B.bytes, hml, B.returns, B.notSynchronized, hown, hts, K, hg⟩ ⟨hR.1, hR.2, va_S.rf⟩ hl
theorem z_get (C0 : Cx G own cc nL ret p s m args meth c) (Z : Zs G s v H locs) {C : String} {T : u_T} {N ci index c0 : Nat} (hin : ∀ w ∈ u_ws C T N, w ∈ tbg) (hc : vwCl[ci]? = some (C, T, N)) (k : Nat) (hk : k < N) (hdc : (T k).1 = C) (hlink : Cond.fieldLink own index C (T k).2.1 (T k).2.2.1 ∈ tbg) {fs : List Value} (hc0 : c0 < gn G) (he : ent G v c0 = .inr (ci, fs)) {x : Value} (hv : fs[k]? = some x) (hdg : decode cc pc = .ok (.getfield index, 3))
    (kk : W p l e R s m args below meth c H locs cells slots Q (F0 m (pc + 3) ls (x :: rest))) : W p l e R s m args below meth c H locs cells slots Q (F0 m pc ls (.ref (gad G c0) :: rest)) := by
  obtain ⟨hx, hb, -, -, -, hown, hts, K, -⟩ := C0
  exact va_get hx hb hts hin hown K.1 Z.1 c0 (WS_get hc0 he) hc k hk (hts _ hlink) (fun x h => by rw [hdc] at h; exact h) hv hdg kk
theorem z_put (C0 : Cx G own cc nL ret p s m args meth c) (Z : Zs G s v H locs) {C : String} {T : u_T} {N ci index c0 : Nat} {ty0 : Nat → FieldType} (hin : ∀ w ∈ u_ws C T N, w ∈ tbg) (hty : ∀ k, k < N → parseFieldDescriptor (T k).2.2.1 = some (ty0 k)) (hnm : ∀ a, a < N → ∀ b, b < N → a ≠ b → (T a).2.1 ≠ (T b).2.1) (hc : vwCl[ci]? = some (C, T, N)) (k : Nat) (hk : k < N) (hdc : (T k).1 = C) (hfin : (T k).2.2.2 = false) (hlink : Cond.fieldLink own index C (T k).2.1 (T k).2.2.1 ∈ tbg) {fs : List Value} (hc0 : c0 < gn G) (he : ent G v c0 = .inr (ci, fs)) {x : Value} {v' : V3} (he' : ent G v' c0 = .inr (ci, fs.set k x)) (ho : ∀ c', c' ≠ c0 → v' c' = v c') (hn : narrow (ty0 k) x = x) (hfit : fits (ty0 k) x = true) (hl : k < fs.length) (hdg : decode cc pc = .ok (.putfield index, 3))
    (kk : ∀ (H1 : Heap) (locs1 : List Loc), Zs G s v' H1 locs1 → W p l e R s m args below meth c H1 locs1 cells slots Q (F0 m (pc + 3) ls rest)) : W p l e R s m args below meth c H locs cells slots Q (F0 m pc ls (x :: .ref (gad G c0) :: rest)) := by
  obtain ⟨hx, hb, -, -, -, hown, hts, K, -⟩ := C0
  refine va_put hx hb hts hin ty0 hty hnm hown K.1 Z.1 Z.2.1 Z.2.2 c0 (WS_get hc0 he) hc k hk (hts _ hlink) (fun x h => by rw [hdc] at h; exact h) hfin (hty k hk) hn hfit hl hdg (fun H1 locs1 hP hD hS => ?_)
  rw [WS_set hc0 he' ho] at hP hD
  exact kk H1 locs1 ⟨hP, hD, hS⟩
theorem z_iald (C0 : Cx G own cc nL ret p s m args meth c) (Z : Zs G s v H locs) {c0 N : Nat} {f : Nat → Int32} (hc0 : c0 < gn G) (he : ent G v c0 = .inl (gcA G 0, N, .inl f)) {i : Int32} (hin : vp_in i N) (hdg : decode cc pc = .ok (.iaload, 1))
    (kk : W p l e R s m args below meth c H locs cells slots Q (F0 m (pc + 1) ls (.int (f i.toNatClampNeg) :: rest))) : W p l e R s m args below meth c H locs cells slots Q (F0 m pc ls (.int i :: .ref (gad G c0) :: rest)) := by
  obtain ⟨hx, hb, -, -, -, hown, hts, K, -⟩ := C0
  exact va_iald hx hb K.1 Z.1 c0 0 (WS_get hc0 he) rfl hin hdg kk
theorem z_bald (C0 : Cx G own cc nL ret p s m args meth c) (Z : Zs G s v H locs) {c0 N : Nat} {f : Nat → Int32} (hc0 : c0 < gn G) (he : ent G v c0 = .inl (gcA G 1, N, .inl f)) {i : Int32} (hin : vp_in i N) (hdg : decode cc pc = .ok (.baload, 1))
    (kk : W p l e R s m args below meth c H locs cells slots Q (F0 m (pc + 1) ls (.int (f i.toNatClampNeg) :: rest))) : W p l e R s m args below meth c H locs cells slots Q (F0 m pc ls (.int i :: .ref (gad G c0) :: rest)) := by
  obtain ⟨hx, hb, -, -, -, hown, hts, K, -⟩ := C0
  exact va_bald hx hb K.1 Z.1 c0 1 (WS_get hc0 he) rfl hin hdg kk
/-- a row of an array of int arrays -/
theorem z_aald (C0 : Cx G own cc nL ret p s m args meth c) (Z : Zs G s v H locs) {c0 N : Nat} {g : Nat → Nat} (hc0 : c0 < gn G) (he : ent G v c0 = .inl (gcA G 5, N, .inr (.inr (.inr (.inr (fun j => some (gad G (g j)))))))) {i : Int32} (hin : vp_in i N) (hdg : decode cc pc = .ok (.aaload, 1))
    (kk : W p l e R s m args below meth c H locs cells slots Q (F0 m (pc + 1) ls (.ref (gad G (g i.toNatClampNeg)) :: rest))) : W p l e R s m args below meth c H locs cells slots Q (F0 m pc ls (.int i :: .ref (gad G c0) :: rest)) := by
  obtain ⟨hx, hb, -, -, -, hown, hts, K, -⟩ := C0
  exact W.aald (v := .ref (gad G (g i.toNatClampNeg))) (ty := .array .int) hx hb (Z.1 c0 _ (WS_get hc0 he)) ((K.1.2 2 _ rfl).1 N (fun j => va_rf ((fun j => some (gad G (g j))) j))) rfl (fun q => by cases q) (by show ¬ (i < 0 ∨ (arrV _ _ _).slots.size ≤ _); rw [arrV_size]; exact hin) (by show (arrV _ _ _).slots[_]? = _; rw [arrV_read _ _ (vp_lt hin)]; rfl) rfl rfl hdg kk
theorem z_iast (C0 : Cx G own cc nL ret p s m args meth c) (Z : Zs G s v H locs) {c0 N : Nat} (hc0 : c0 < gn G) (he : ∀ w : V3, ent G w c0 = .inl (gcA G 0, N, .inl (w c0))) {i x : Int32} (hin : vp_in i N) (hdg : decode cc pc = .ok (.iastore, 1))
    (kk : ∀ (H1 : Heap) (locs1 : List Loc), Zs G s (up2 v c0 i.toNatClampNeg x) H1 locs1 → W p l e R s m args below meth c H1 locs1 cells slots Q (F0 m (pc + 1) ls rest)) : W p l e R s m args below meth c H locs cells slots Q (F0 m pc ls (.int x :: .int i :: .ref (gad G c0) :: rest)) := by
  obtain ⟨hx, hb, -, -, -, hown, hts, K, -⟩ := C0
  refine va_iast hx hb K.1 Z.1 Z.2.1 Z.2.2 c0 0 (WS_get hc0 (he v)) rfl hin hdg (fun H1 locs1 hP hD hS => ?_)
  rw [WS_set (v' := up2 v c0 i.toNatClampNeg x) hc0 (by rw [he, up2_row]) (fun c' h => up2_off v _ _ h)] at hP hD
  exact kk H1 locs1 ⟨hP, hD, hS⟩
theorem z_bast (C0 : Cx G own cc nL ret p s m args meth c) (Z : Zs G s v H locs) {c0 N : Nat} (hc0 : c0 < gn G) (he : ∀ w : V3, ent G w c0 = .inl (gcA G 1, N, .inl (w c0))) {i x : Int32} (hin : vp_in i N) (hdg : decode cc pc = .ok (.bastore, 1))
    (kk : ∀ (H1 : Heap) (locs1 : List Loc), Zs G s (up2 v c0 i.toNatClampNeg (vp_nar .byte x)) H1 locs1 → W p l e R s m args below meth c H1 locs1 cells slots Q (F0 m (pc + 1) ls rest)) : W p l e R s m args below meth c H locs cells slots Q (F0 m pc ls (.int x :: .int i :: .ref (gad G c0) :: rest)) := by
  obtain ⟨hx, hb, -, -, -, hown, hts, K, -⟩ := C0
  refine va_bast hx hb K.1 Z.1 Z.2.1 Z.2.2 c0 1 (WS_get hc0 (he v)) rfl hin hdg (fun H1 locs1 hP hD hS => ?_)
  rw [WS_set (v' := up2 v c0 i.toNatClampNeg (vp_nar .byte x)) hc0 (by rw [he, up2_row]) (fun c' h => up2_off v _ _ h)] at hP hD
  exact kk H1 locs1 ⟨hP, hD, hS⟩
theorem z_alen (C0 : Cx G own cc nL ret p s m args meth c) (Z : Zs G s v H locs) {c0 N t0 : Nat} {cA : ClassId} {ty : FieldType} {f} (hc0 : c0 < gn G) (he : ent G v c0 = .inl (cA, N, f)) (ht : (tysZ G)[t0]? = some (cA, ty)) {x : Int32} (hv : Int32.ofNat N = x) (hdg : decode cc pc = .ok (.arraylength, 1))
    (kk : W p l e R s m args below meth c H locs cells slots Q (F0 m (pc + 1) ls (.int x :: rest))) : W p l e R s m args below meth c H locs cells slots Q (F0 m pc ls (.ref (gad G c0) :: rest)) := by
  obtain ⟨hx, hb, -, -, -, hown, hts, K, -⟩ := C0
  exact va_alen hx hb K.1 Z.1 c0 t0 (WS_get hc0 he) ht hv hdg kk
/-- ends -/
theorem z_iret (C0 : Cx G own cc nL (some .int) p s m args meth c) (Z : Zs G s v H locs) {Q : Int32 → V3 → Prop} {x : Int32} (hQ : Q x v) (hdg : decode cc pc = .ok (.ireturn, 1)) : W p l e R s m args below meth c H locs cells slots (MQ below (QiZ G Q) args s cells slots (zA G)) (F0 m pc ls [.int x]) := by
  obtain ⟨hx, hb, -, hr, hk, hown, hts, K, -⟩ := C0
  exact W.iret hx hb hr (fun t ht hW => ⟨⟨x, v, rfl, hQ, ⟨by rw [ht]; exact Z.1, Z.2.1⟩⟩, Z.2.2.F ht⟩) Z.2.2.2.2 hdg hk
theorem z_zret (C0 : Cx G own cc nL (some .boolean) p s m args meth c) (Z : Zs G s v H locs) {Q : Int32 → V3 → Prop} {x : Int32} (h01 : x = 0 ∨ x = 1) (hQ : Q x v) (hdg : decode cc pc = .ok (.ireturn, 1)) : W p l e R s m args below meth c H locs cells slots (MQ below (QiZ G Q) args s cells slots (zA G)) (F0 m pc ls [.int x]) := by
  obtain ⟨hx, hb, -, hr, hk, hown, hts, K, -⟩ := C0
  exact W.zret hx hb hr (by rcases h01 with h | h <;> subst h <;> rfl) (fun t ht hW => ⟨⟨x, v, rfl, hQ, ⟨by rw [ht]; exact Z.1, Z.2.1⟩⟩, Z.2.2.F ht⟩) Z.2.2.2.2 hdg hk
theorem z_vret (C0 : Cx G own cc nL none p s m args meth c) (Z : Zs G s v H locs) {Q : V3 → Prop} (hQ : Q v) (hdg : decode cc pc = .ok (.return_, 1)) : W p l e R s m args below meth c H locs cells slots (MQ below (QvZ G Q) args s cells slots (zA G)) (F0 m pc ls []) := by
  obtain ⟨hx, hb, -, hr, hk, hown, hts, K, -⟩ := C0
  exact W.vret hx hb hr (fun t ht hW => ⟨⟨v, rfl, hQ, ⟨by rw [ht]; exact Z.1, Z.2.1⟩⟩, Z.2.2.F ht⟩) Z.2.2.2.2 hdg hk
/-- calls -/
def dsc (y : MethodName) (n : Nat) : Prop := y.cls ≠ "java/lang/invoke/MethodHandle" ∧ y.cls ≠ "java/lang/invoke/VarHandle" ∧ (parseMethodDescriptor y.desc).map (fun d => d.parameters.length) = some n
theorem z_goodV {own : String} {index : Nat} {C : String} {y : MethodName} {cc : ByteArray} {nL : Nat} {ret : Option FieldType} (h1 : Cond.methodLink own index y ∈ tbg) (h2 : Cond.instanceMethod y ∈ tbg) (h3 : Cond.selects C y y ∈ tbg) (h4 : Cond.initialized C ∈ tbg) (h5 : Cond.code y cc nL ret ∈ tbg) : GoodIn tbg (wsV own index C y (.code y cc nL ret :: tbg)) := by
  refine tbg_good fun w hw => ?_
  simp only [wsV, List.cons_append, List.nil_append, List.mem_cons] at hw
  rcases hw with rfl | rfl | rfl | rfl | rfl | hw
  · exact h1
  · exact h2
  · exact h3
  · exact h4
  · exact h5
  · exact hw
theorem z_goodS {own : String} {index : Nat} {y : MethodName} {cc : ByteArray} {nL : Nat} {ret : Option FieldType} (h1 : Cond.methodLink own index y ∈ tbg) (h2 : Cond.static y ∈ tbg) (h4 : Cond.initialized y.cls ∈ tbg) (h5 : Cond.code y cc nL ret ∈ tbg) : GoodIn tbg (va_wsS own index y (.code y cc nL ret :: tbg)) := by
  refine tbg_good fun w hw => ?_
  simp only [va_wsS, List.cons_append, List.nil_append, List.mem_cons] at hw
  rcases hw with rfl | rfl | rfl | rfl | hw
  · exact h1
  · exact h2
  · exact h4
  · exact h5
  · exact hw
theorem z_callVi (C0 : Cx G own cc nL ret p s m args meth c) (Z : Zs G s v H locs) (hl : ls.size = nL) {y : MethodName} {cy : ByteArray} {nLy : Nat} {rety : Option FieldType} {fr lo index n ci c0 : Nat} {C : String} {T : u_T} {N : Nat} {fs As st0 : List Value} {Qy : Int32 → V3 → Prop} (hM : Mz l y cy nLy rety fr lo G (.ref (gad G c0) :: As) v (QiZ G Qy)) (hgd : GoodIn tbg (wsV own index C y (.code y cy nLy rety :: tbg))) (hyc : y.cls = C) (hd : dsc y n) (hR : fr + 1 ≤ R.frames ∧ 8 + (nLy + 11) + lo ≤ R.locals) (hc : vwCl[ci]? = some (C, T, N)) (hc0 : c0 < gn G) (he : ent G v c0 = .inr (ci, fs)) (hn : As.length = n) (hst : st0 = As.reverse ++ .ref (gad G c0) :: rest) (hW : (rest.map fun v => v.category).sum ≤ 8) (hf : cells ≤ R.cells ∧ slots ≤ R.slots) (hdg : decode cc pc = .ok (.invokevirtual index, 3))
    (kk : ∀ (r : Int32) (u : V3) (H1 : Heap) (locs1 : List Loc), Qy r u → Zs G s u H1 locs1 → W p l e R s m args below meth c H1 locs1 cells slots Q (F0 m (pc + 3) ls (.int r :: rest))) : W p l e R s m args below meth c H locs cells slots Q (F0 m pc ls st0) := by
  obtain ⟨hx, hb, hml, -, -, hown, hts, K, -⟩ := C0
  refine va_calli (va_runV (As := As) (rest := rest) ⟨hx, hb, hml, hown, hts⟩ hM (cwV n hts hgd rfl rfl rfl ⟨hyc, hd⟩ hR) ⟨PcZ.blind, va_recv K.1 Z.1 hc (WS_get hc0 he), fun U hU hW => Z.pre K hU hW⟩ rfl hn hl hst (lv_room hW) hdg hf) Z.2.2 (fun q _ h => h) (fun q h => h) (fun r u t H1 locs1 ht hvm hw hB hz1 hk1 hS => ?_)
  refine kk r u H1 locs1 hw ⟨?_, hB.2, hS⟩
  have := hB.1
  rw [ht] at this
  exact this
theorem z_callVv (C0 : Cx G own cc nL ret p s m args meth c) (Z : Zs G s v H locs) (hl : ls.size = nL) {y : MethodName} {cy : ByteArray} {nLy : Nat} {rety : Option FieldType} {fr lo index n ci c0 : Nat} {C : String} {T : u_T} {N : Nat} {fs As st0 : List Value} {Qy : V3 → Prop} (hM : Mz l y cy nLy rety fr lo G (.ref (gad G c0) :: As) v (QvZ G Qy)) (hgd : GoodIn tbg (wsV own index C y (.code y cy nLy rety :: tbg))) (hyc : y.cls = C) (hd : dsc y n) (hR : fr + 1 ≤ R.frames ∧ 8 + (nLy + 11) + lo ≤ R.locals) (hc : vwCl[ci]? = some (C, T, N)) (hc0 : c0 < gn G) (he : ent G v c0 = .inr (ci, fs)) (hn : As.length = n) (hst : st0 = As.reverse ++ .ref (gad G c0) :: rest) (hW : (rest.map fun v => v.category).sum ≤ 8) (hf : cells ≤ R.cells ∧ slots ≤ R.slots) (hdg : decode cc pc = .ok (.invokevirtual index, 3))
    (kk : ∀ (u : V3) (H1 : Heap) (locs1 : List Loc), Qy u → Zs G s u H1 locs1 → W p l e R s m args below meth c H1 locs1 cells slots Q (F0 m (pc + 3) ls rest)) : W p l e R s m args below meth c H locs cells slots Q (F0 m pc ls st0) := by
  obtain ⟨hx, hb, hml, -, -, hown, hts, K, -⟩ := C0
  refine va_callv (va_runV (As := As) (rest := rest) ⟨hx, hb, hml, hown, hts⟩ hM (cwV n hts hgd rfl rfl rfl ⟨hyc, hd⟩ hR) ⟨PcZ.blind, va_recv K.1 Z.1 hc (WS_get hc0 he), fun U hU hW => Z.pre K hU hW⟩ rfl hn hl hst (lv_room hW) hdg hf) Z.2.2 (fun q _ h => h) (fun q h => h) (fun u t H1 locs1 ht hvm hw hB hz1 hk1 hS => ?_)
  refine kk u H1 locs1 hw ⟨?_, hB.2, hS⟩
  have := hB.1
  rw [ht] at this
  exact this
theorem z_callSi (C0 : Cx G own cc nL ret p s m args meth c) (Z : Zs G s v H locs) (hl : ls.size = nL) {y : MethodName} {cy : ByteArray} {nLy : Nat} {rety : Option FieldType} {fr lo index n : Nat} {As st0 : List Value} {Qy : Int32 → V3 → Prop} (hM : Mz l y cy nLy rety fr lo G As v (QiZ G Qy)) (hgd : GoodIn tbg (va_wsS own index y (.code y cy nLy rety :: tbg))) (hd : dsc y n) (hR : fr + 1 ≤ R.frames ∧ 8 + (nLy + 11) + lo ≤ R.locals) (hn : As.length = n) (hst : st0 = As.reverse ++ rest) (hW : (rest.map fun v => v.category).sum ≤ 8) (hf : cells ≤ R.cells ∧ slots ≤ R.slots) (hdg : decode cc pc = .ok (.invokestatic index, 3))
    (kk : ∀ (r : Int32) (u : V3) (H1 : Heap) (locs1 : List Loc), Qy r u → Zs G s u H1 locs1 → W p l e R s m args below meth c H1 locs1 cells slots Q (F0 m (pc + 3) ls (.int r :: rest))) : W p l e R s m args below meth c H locs cells slots Q (F0 m pc ls st0) := by
  obtain ⟨hx, hb, hml, -, -, hown, hts, K, -⟩ := C0
  refine va_calli (va_runS (As := As) (rest := rest) ⟨hx, hb, hml, hown, hts⟩ hM (va_cwS n hts hgd rfl rfl rfl hd hR) ⟨PcZ.blind, fun U hU hW => Z.pre K hU hW⟩ rfl hn hl hst (lv_room hW) hdg hf) Z.2.2 (fun q _ h => h) (fun q h => h) (fun r u t H1 locs1 ht hvm hw hB hz1 hk1 hS => ?_)
  refine kk r u H1 locs1 hw ⟨?_, hB.2, hS⟩
  have := hB.1
  rw [ht] at this
  exact this
theorem z_callSv (C0 : Cx G own cc nL ret p s m args meth c) (Z : Zs G s v H locs) (hl : ls.size = nL) {y : MethodName} {cy : ByteArray} {nLy : Nat} {rety : Option FieldType} {fr lo index n : Nat} {As st0 : List Value} {Qy : V3 → Prop} (hM : Mz l y cy nLy rety fr lo G As v (QvZ G Qy)) (hgd : GoodIn tbg (va_wsS own index y (.code y cy nLy rety :: tbg))) (hd : dsc y n) (hR : fr + 1 ≤ R.frames ∧ 8 + (nLy + 11) + lo ≤ R.locals) (hn : As.length = n) (hst : st0 = As.reverse ++ rest) (hW : (rest.map fun v => v.category).sum ≤ 8) (hf : cells ≤ R.cells ∧ slots ≤ R.slots) (hdg : decode cc pc = .ok (.invokestatic index, 3))
    (kk : ∀ (u : V3) (H1 : Heap) (locs1 : List Loc), Qy u → Zs G s u H1 locs1 → W p l e R s m args below meth c H1 locs1 cells slots Q (F0 m (pc + 3) ls rest)) : W p l e R s m args below meth c H locs cells slots Q (F0 m pc ls st0) := by
  obtain ⟨hx, hb, hml, -, -, hown, hts, K, -⟩ := C0
  refine va_callv (va_runS (As := As) (rest := rest) ⟨hx, hb, hml, hown, hts⟩ hM (va_cwS n hts hgd rfl rfl rfl hd hR) ⟨PcZ.blind, fun U hU hW => Z.pre K hU hW⟩ rfl hn hl hst (lv_room hW) hdg hf) Z.2.2 (fun q _ h => h) (fun q h => h) (fun u t H1 locs1 ht hvm hw hB hz1 hk1 hS => ?_)
  refine kk u H1 locs1 hw ⟨?_, hB.2, hS⟩
  have := hB.1
  rw [ht] at this
  exact this
end ZR
end
section
/-! words of a method with a table -/
theorem z_goodSW {own : String} {index : Nat} {y : MethodName} {cc : ByteArray} {nL : Nat} {ret : Option FieldType} {hh : List (Nat × Nat × Nat × Nat)} (h1 : Cond.methodLink own index y ∈ tbg) (h2 : Cond.static y ∈ tbg) (h4 : Cond.initialized y.cls ∈ tbg) (h5 : Cond.codeWith y cc nL ret hh ∈ tbg) : GoodIn tbg (va_wsS own index y (.codeWith y cc nL ret hh :: tbg)) := by
  refine tbg_good fun w hw => ?_
  simp only [va_wsS, List.cons_append, List.nil_append, List.mem_cons] at hw
  rcases hw with rfl | rfl | rfl | rfl | hw
  · exact h1
  · exact h2
  · exact h4
  · exact h5
  · exact hw
end
section
/-! words of the tables, by their places -/
theorem tm_abs_s : Cond.static Lib.Math.abs.name ∈ tbg := tb2 188 (by decide +kernel) (by decide +kernel)
theorem tm_abs_c : Cond.code Lib.Math.abs.name Lib.Math.abs.code 1 (some .int) ∈ tbg := tb2 189 (by decide +kernel) (by decide +kernel)
theorem tm_max_s : Cond.static Lib.Math.max.name ∈ tbg := tb1 209 (by decide +kernel) (by decide +kernel)
theorem tm_max_c : Cond.code Lib.Math.max.name Lib.Math.max.code 2 (some .int) ∈ tbg := tb1 210 (by decide +kernel) (by decide +kernel)
theorem tm_min_s : Cond.static Lib.Math.min.name ∈ tbg := tb2 109 (by decide +kernel) (by decide +kernel)
theorem tm_min_c : Cond.code Lib.Math.min.name Lib.Math.min.code 2 (some .int) ∈ tbg := tb2 110 (by decide +kernel) (by decide +kernel)
theorem tm_math : Cond.initialized "java/lang/Math" ∈ tbg := tb1 6 (by decide +kernel) (by decide +kernel)
theorem tm_cpy_n : Cond.native arraycopyName ∈ tbg := tb1 43 (by decide +kernel) (by decide +kernel)
theorem tm_cpy_s : Cond.static arraycopyName ∈ tbg := tb1 42 (by decide +kernel) (by decide +kernel)
theorem tm_sys : Cond.initialized "java/lang/System" ∈ tbg := tb1 3 (by decide +kernel) (by decide +kernel)
theorem tm_1_0 : Cond.initialized RL ∈ tbg := tb1 0 (by decide +kernel) (by decide +kernel)
theorem tm_1_1 : Cond.initialized RX3 ∈ tbg := tb1 1 (by decide +kernel) (by decide +kernel)
theorem tm_1_2 : Cond.initialized RX1 ∈ tbg := tb1 2 (by decide +kernel) (by decide +kernel)
theorem tm_1_4 : Cond.initialized RX0 ∈ tbg := tb1 4 (by decide +kernel) (by decide +kernel)
theorem tm_1_10 : Cond.initialized eIA ∈ tbg := tb1 10 (by decide +kernel) (by decide +kernel)
theorem tm_1_11 : Cond.initialized eIS ∈ tbg := tb1 11 (by decide +kernel) (by decide +kernel)
theorem tm_1_12 : Cond.initialized eIO ∈ tbg := tb1 12 (by decide +kernel) (by decide +kernel)
theorem tm_1_41 : Cond.methodLink RX1 55 arraycopyName ∈ tbg := tb1 41 (by decide +kernel) (by decide +kernel)
theorem tm_1_44 : Cond.fieldLink RX1 9 RX1 (TX1 0).2.1 (TX1 0).2.2.1 ∈ tbg := tb1 44 (by decide +kernel) (by decide +kernel)
theorem tm_1_45 : Cond.fieldLink RX3 116 RX1 (TX1 0).2.1 (TX1 0).2.2.1 ∈ tbg := tb1 45 (by decide +kernel) (by decide +kernel)
theorem tm_1_46 : Cond.fieldLink RX1 17 RX1 (TX1 1).2.1 (TX1 1).2.2.1 ∈ tbg := tb1 46 (by decide +kernel) (by decide +kernel)
theorem tm_1_47 : Cond.fieldLink RX0 46 RX1 (TX1 1).2.1 (TX1 1).2.2.1 ∈ tbg := tb1 47 (by decide +kernel) (by decide +kernel)
theorem tm_1_48 : Cond.fieldLink RX3 150 RX1 (TX1 1).2.1 (TX1 1).2.2.1 ∈ tbg := tb1 48 (by decide +kernel) (by decide +kernel)
theorem tm_1_49 : Cond.fieldLink RX1 20 RX1 (TX1 2).2.1 (TX1 2).2.2.1 ∈ tbg := tb1 49 (by decide +kernel) (by decide +kernel)
theorem tm_1_50 : Cond.fieldLink RX0 19 RX1 (TX1 2).2.1 (TX1 2).2.2.1 ∈ tbg := tb1 50 (by decide +kernel) (by decide +kernel)
theorem tm_1_51 : Cond.fieldLink RX3 190 RX1 (TX1 2).2.1 (TX1 2).2.2.1 ∈ tbg := tb1 51 (by decide +kernel) (by decide +kernel)
theorem tm_1_52 : Cond.fieldLink RX1 23 RX1 (TX1 3).2.1 (TX1 3).2.2.1 ∈ tbg := tb1 52 (by decide +kernel) (by decide +kernel)
theorem tm_1_53 : Cond.fieldLink RX3 267 RX1 (TX1 3).2.1 (TX1 3).2.2.1 ∈ tbg := tb1 53 (by decide +kernel) (by decide +kernel)
theorem tm_1_54 : Cond.fieldLink RX1 26 RX1 (TX1 4).2.1 (TX1 4).2.2.1 ∈ tbg := tb1 54 (by decide +kernel) (by decide +kernel)
theorem tm_1_55 : Cond.fieldLink RX1 33 RX1 (TX1 5).2.1 (TX1 5).2.2.1 ∈ tbg := tb1 55 (by decide +kernel) (by decide +kernel)
theorem tm_1_56 : Cond.fieldLink RX3 119 RX1 (TX1 5).2.1 (TX1 5).2.2.1 ∈ tbg := tb1 56 (by decide +kernel) (by decide +kernel)
theorem tm_1_57 : Cond.fieldLink RX1 37 RX1 (TX1 6).2.1 (TX1 6).2.2.1 ∈ tbg := tb1 57 (by decide +kernel) (by decide +kernel)
theorem tm_1_58 : Cond.fieldLink RX0 25 RX1 (TX1 6).2.1 (TX1 6).2.2.1 ∈ tbg := tb1 58 (by decide +kernel) (by decide +kernel)
theorem tm_1_59 : Cond.fieldLink RX3 122 RX1 (TX1 6).2.1 (TX1 6).2.2.1 ∈ tbg := tb1 59 (by decide +kernel) (by decide +kernel)
theorem tm_1_60 : Cond.fieldLink RX1 40 RX1 (TX1 7).2.1 (TX1 7).2.2.1 ∈ tbg := tb1 60 (by decide +kernel) (by decide +kernel)
theorem tm_1_61 : Cond.fieldLink RX3 100 RX1 (TX1 7).2.1 (TX1 7).2.2.1 ∈ tbg := tb1 61 (by decide +kernel) (by decide +kernel)
theorem tm_1_62 : Cond.fieldLink RX1 43 RX1 (TX1 8).2.1 (TX1 8).2.2.1 ∈ tbg := tb1 62 (by decide +kernel) (by decide +kernel)
theorem tm_1_63 : Cond.fieldLink RX0 73 RX1 (TX1 8).2.1 (TX1 8).2.2.1 ∈ tbg := tb1 63 (by decide +kernel) (by decide +kernel)
theorem tm_1_64 : Cond.fieldLink RX3 97 RX1 (TX1 8).2.1 (TX1 8).2.2.1 ∈ tbg := tb1 64 (by decide +kernel) (by decide +kernel)
theorem tm_1_65 : Cond.fieldLink RX1 46 RX1 (TX1 9).2.1 (TX1 9).2.2.1 ∈ tbg := tb1 65 (by decide +kernel) (by decide +kernel)
theorem tm_1_66 : Cond.fieldLink RX0 53 RX1 (TX1 9).2.1 (TX1 9).2.2.1 ∈ tbg := tb1 66 (by decide +kernel) (by decide +kernel)
theorem tm_1_67 : Cond.fieldLink RX3 128 RX1 (TX1 9).2.1 (TX1 9).2.2.1 ∈ tbg := tb1 67 (by decide +kernel) (by decide +kernel)
theorem tm_1_68 : Cond.fieldLink RX1 49 RX1 (TX1 10).2.1 (TX1 10).2.2.1 ∈ tbg := tb1 68 (by decide +kernel) (by decide +kernel)
theorem tm_1_69 : Cond.fieldLink RX0 64 RX1 (TX1 10).2.1 (TX1 10).2.2.1 ∈ tbg := tb1 69 (by decide +kernel) (by decide +kernel)
theorem tm_1_70 : Cond.fieldLink RX3 131 RX1 (TX1 10).2.1 (TX1 10).2.2.1 ∈ tbg := tb1 70 (by decide +kernel) (by decide +kernel)
theorem tm_1_103 : Cond.fieldLink RX0 15 RX0 (TX0 0).2.1 (TX0 0).2.2.1 ∈ tbg := tb1 103 (by decide +kernel) (by decide +kernel)
theorem tm_1_104 : Cond.fieldLink RX0 9 RX0 (TX0 1).2.1 (TX0 1).2.2.1 ∈ tbg := tb1 104 (by decide +kernel) (by decide +kernel)
theorem tm_1_105 : Cond.fieldLink RX3 243 RX0 (TX0 1).2.1 (TX0 1).2.2.1 ∈ tbg := tb1 105 (by decide +kernel) (by decide +kernel)
theorem tm_1_142 : Cond.fieldLink RX3 26 RX3 (TX3 4).2.1 (TX3 4).2.2.1 ∈ tbg := tb1 142 (by decide +kernel) (by decide +kernel)
theorem tm_1_143 : Cond.fieldLink RX3 30 RX3 (TX3 5).2.1 (TX3 5).2.2.1 ∈ tbg := tb1 143 (by decide +kernel) (by decide +kernel)
theorem tm_1_145 : Cond.fieldLink RX3 42 RX3 (TX3 7).2.1 (TX3 7).2.2.1 ∈ tbg := tb1 145 (by decide +kernel) (by decide +kernel)
theorem tm_1_147 : Cond.fieldLink RX3 55 RX3 (TX3 9).2.1 (TX3 9).2.2.1 ∈ tbg := tb1 147 (by decide +kernel) (by decide +kernel)
theorem tm_1_148 : Cond.fieldLink RX3 58 RX3 (TX3 10).2.1 (TX3 10).2.2.1 ∈ tbg := tb1 148 (by decide +kernel) (by decide +kernel)
theorem tm_1_149 : Cond.fieldLink RX3 61 RX3 (TX3 11).2.1 (TX3 11).2.2.1 ∈ tbg := tb1 149 (by decide +kernel) (by decide +kernel)
theorem tm_1_150 : Cond.fieldLink RX3 64 RX3 (TX3 12).2.1 (TX3 12).2.2.1 ∈ tbg := tb1 150 (by decide +kernel) (by decide +kernel)
theorem tm_1_151 : Cond.fieldLink RX3 67 RX3 (TX3 13).2.1 (TX3 13).2.2.1 ∈ tbg := tb1 151 (by decide +kernel) (by decide +kernel)
theorem tm_1_181 : Cond.fieldLink RL 10 RL (TL 0).2.1 (TL 0).2.2.1 ∈ tbg := tb1 181 (by decide +kernel) (by decide +kernel)
theorem tm_1_182 : Cond.fieldLink RL 18 RL (TL 1).2.1 (TL 1).2.2.1 ∈ tbg := tb1 182 (by decide +kernel) (by decide +kernel)
theorem tm_1_183 : Cond.fieldLink RL 22 RL (TL 2).2.1 (TL 2).2.2.1 ∈ tbg := tb1 183 (by decide +kernel) (by decide +kernel)
theorem tm_1_184 : Cond.fieldLink RL 145 RL (TL 3).2.1 (TL 3).2.2.1 ∈ tbg := tb1 184 (by decide +kernel) (by decide +kernel)
theorem tm_1_204 : Cond.methodLink RL 142 yL_draw ∈ tbg := tb1 204 (by decide +kernel) (by decide +kernel)
theorem tm_1_206 : Cond.instanceMethod yL_draw ∈ tbg := tb1 206 (by decide +kernel) (by decide +kernel)
theorem tm_1_207 : Cond.code yL_draw cL_draw 3 (some .int) ∈ tbg := tb1 207 (by decide +kernel) (by decide +kernel)
theorem tm_1_208 : Cond.methodLink RL 26 Lib.Math.max.name ∈ tbg := tb1 208 (by decide +kernel) (by decide +kernel)
theorem tm_1_211 : Cond.methodLink RL 32 yL_at ∈ tbg := tb1 211 (by decide +kernel) (by decide +kernel)
theorem tm_1_212 : Cond.static yL_at ∈ tbg := tb1 212 (by decide +kernel) (by decide +kernel)
theorem tm_1_213 : Cond.code yL_at cL_at 3 (some .int) ∈ tbg := tb1 213 (by decide +kernel) (by decide +kernel)
theorem tm_1_214 : Cond.constant RL 16 (-1640531535) ∈ tbg := tb1 214 (by decide +kernel) (by decide +kernel)
theorem tm_1_215 : Cond.constant RL 17 (-2048144789) ∈ tbg := tb1 215 (by decide +kernel) (by decide +kernel)
theorem tm_1_216 : Cond.constant RL 36 668265263 ∈ tbg := tb1 216 (by decide +kernel) (by decide +kernel)
theorem tm_1_217 : Cond.constant RL 37 739982445 ∈ tbg := tb1 217 (by decide +kernel) (by decide +kernel)
theorem tm_1_218 : Cond.constant RL 38 2147483647 ∈ tbg := tb1 218 (by decide +kernel) (by decide +kernel)
theorem tm_1_219 : Cond.methodLink RL 148 yL_addOwner ∈ tbg := tb1 219 (by decide +kernel) (by decide +kernel)
theorem tm_1_220 : Cond.static yL_addOwner ∈ tbg := tb1 220 (by decide +kernel) (by decide +kernel)
theorem tm_1_221 : Cond.codeWith yL_addOwner cL_addOwner 3 (some .int) [(0, 5, 6, 43), (0, 5, 10, 45)] ∈ tbg := tb1 221 (by decide +kernel) (by decide +kernel)
theorem tm_1_222 : Cond.classLink RL 43 eIA ∈ tbg := tb1 222 (by decide +kernel) (by decide +kernel)
theorem tm_1_223 : Cond.classLink RL 45 eIS ∈ tbg := tb1 223 (by decide +kernel) (by decide +kernel)
theorem tm_1_224 : Cond.methodLink RL 39 yX3_addOwner ∈ tbg := tb1 224 (by decide +kernel) (by decide +kernel)
theorem tm_1_225 : Cond.instanceMethod yX3_addOwner ∈ tbg := tb1 225 (by decide +kernel) (by decide +kernel)
theorem tm_1_226 : Cond.selects RX3 yX3_addOwner yX3_addOwner ∈ tbg := tb1 226 (by decide +kernel) (by decide +kernel)
theorem tm_1_227 : Cond.code yX3_addOwner cX3_addOwner 2 (some .int) ∈ tbg := tb1 227 (by decide +kernel) (by decide +kernel)
theorem tm_1_228 : Cond.methodLink RX3 77 yX3_needWithin ∈ tbg := tb1 228 (by decide +kernel) (by decide +kernel)
theorem tm_1_229 : Cond.static yX3_needWithin ∈ tbg := tb1 229 (by decide +kernel) (by decide +kernel)
theorem tm_1_230 : Cond.code yX3_needWithin cX3_needWithin 3 none ∈ tbg := tb1 230 (by decide +kernel) (by decide +kernel)
theorem tm_1_231 : Cond.classLink RX3 161 eIA ∈ tbg := tb1 231 (by decide +kernel) (by decide +kernel)
theorem tm_2_58 : Cond.classLink RX3 70 eIS ∈ tbg := tb2 58 (by decide +kernel) (by decide +kernel)
theorem tm_2_74 : Cond.methodLink RX3 105 yX1_enterOwner ∈ tbg := tb2 74 (by decide +kernel) (by decide +kernel)
theorem tm_2_75 : Cond.instanceMethod yX1_enterOwner ∈ tbg := tb2 75 (by decide +kernel) (by decide +kernel)
theorem tm_2_76 : Cond.selects RX1 yX1_enterOwner yX1_enterOwner ∈ tbg := tb2 76 (by decide +kernel) (by decide +kernel)
theorem tm_2_77 : Cond.code yX1_enterOwner cX1_enterOwner 4 (some .int) ∈ tbg := tb2 77 (by decide +kernel) (by decide +kernel)
theorem tm_2_78 : Cond.methodLink RL 151 yL_set ∈ tbg := tb2 78 (by decide +kernel) (by decide +kernel)
theorem tm_2_79 : Cond.static yL_set ∈ tbg := tb2 79 (by decide +kernel) (by decide +kernel)
theorem tm_2_80 : Cond.codeWith yL_set cL_set 4 (some .int) [(0, 6, 7, 43)] ∈ tbg := tb2 80 (by decide +kernel) (by decide +kernel)
theorem tm_2_81 : Cond.methodLink RL 47 yX3_set ∈ tbg := tb2 81 (by decide +kernel) (by decide +kernel)
theorem tm_2_82 : Cond.instanceMethod yX3_set ∈ tbg := tb2 82 (by decide +kernel) (by decide +kernel)
theorem tm_2_83 : Cond.selects RX3 yX3_set yX3_set ∈ tbg := tb2 83 (by decide +kernel) (by decide +kernel)
theorem tm_2_84 : Cond.code yX3_set cX3_set 4 (some .int) ∈ tbg := tb2 84 (by decide +kernel) (by decide +kernel)
theorem tm_2_85 : Cond.fieldLink RX3 109 "SpanLodge" "SETTING_LEAST" "[I" ∈ tbg := tb2 85 (by decide +kernel) (by decide +kernel)
theorem tm_2_87 : Cond.fieldLink RX3 113 "SpanLodge" "SETTING_MOST" "[I" ∈ tbg := tb2 87 (by decide +kernel) (by decide +kernel)
theorem tm_2_93 : Cond.methodLink RL 154 yL_count ∈ tbg := tb2 93 (by decide +kernel) (by decide +kernel)
theorem tm_2_94 : Cond.static yL_count ∈ tbg := tb2 94 (by decide +kernel) (by decide +kernel)
theorem tm_2_95 : Cond.codeWith yL_count cL_count 3 (some .int) [(0, 5, 6, 43)] ∈ tbg := tb2 95 (by decide +kernel) (by decide +kernel)
theorem tm_2_96 : Cond.methodLink RL 50 yX3_count ∈ tbg := tb2 96 (by decide +kernel) (by decide +kernel)
theorem tm_2_97 : Cond.instanceMethod yX3_count ∈ tbg := tb2 97 (by decide +kernel) (by decide +kernel)
theorem tm_2_98 : Cond.selects RX3 yX3_count yX3_count ∈ tbg := tb2 98 (by decide +kernel) (by decide +kernel)
theorem tm_2_99 : Cond.code yX3_count cX3_count 2 (some .int) ∈ tbg := tb2 99 (by decide +kernel) (by decide +kernel)
theorem tm_2_100 : Cond.methodLink RX3 125 yX1_countIn ∈ tbg := tb2 100 (by decide +kernel) (by decide +kernel)
theorem tm_2_101 : Cond.instanceMethod yX1_countIn ∈ tbg := tb2 101 (by decide +kernel) (by decide +kernel)
theorem tm_2_102 : Cond.selects RX1 yX1_countIn yX1_countIn ∈ tbg := tb2 102 (by decide +kernel) (by decide +kernel)
theorem tm_2_103 : Cond.code yX1_countIn cX1_countIn 4 (some .int) ∈ tbg := tb2 103 (by decide +kernel) (by decide +kernel)
theorem tm_2_104 : Cond.methodLink RX3 134 yX1_usedWithin ∈ tbg := tb2 104 (by decide +kernel) (by decide +kernel)
theorem tm_2_105 : Cond.instanceMethod yX1_usedWithin ∈ tbg := tb2 105 (by decide +kernel) (by decide +kernel)
theorem tm_2_106 : Cond.selects RX1 yX1_usedWithin yX1_usedWithin ∈ tbg := tb2 106 (by decide +kernel) (by decide +kernel)
theorem tm_2_107 : Cond.code yX1_usedWithin cX1_usedWithin 6 (some .int) ∈ tbg := tb2 107 (by decide +kernel) (by decide +kernel)
theorem tm_2_108 : Cond.methodLink RX1 101 Lib.Math.min.name ∈ tbg := tb2 108 (by decide +kernel) (by decide +kernel)
theorem tm_2_111 : Cond.methodLink RX1 104 Lib.Math.max.name ∈ tbg := tb2 111 (by decide +kernel) (by decide +kernel)
theorem tm_2_112 : Cond.methodLink RL 156 Lib.Math.min.name ∈ tbg := tb2 112 (by decide +kernel) (by decide +kernel)
theorem tm_2_113 : Cond.methodLink RL 159 yL_draft ∈ tbg := tb2 113 (by decide +kernel) (by decide +kernel)
theorem tm_2_114 : Cond.static yL_draft ∈ tbg := tb2 114 (by decide +kernel) (by decide +kernel)
theorem tm_2_115 : Cond.codeWith yL_draft cL_draft 5 (some .int) [(0, 8, 9, 56), (0, 8, 14, 43)] ∈ tbg := tb2 115 (by decide +kernel) (by decide +kernel)
theorem tm_2_116 : Cond.classLink RL 56 eIO ∈ tbg := tb2 116 (by decide +kernel) (by decide +kernel)
theorem tm_2_117 : Cond.methodLink RL 67 yX3_draft ∈ tbg := tb2 117 (by decide +kernel) (by decide +kernel)
theorem tm_2_118 : Cond.instanceMethod yX3_draft ∈ tbg := tb2 118 (by decide +kernel) (by decide +kernel)
theorem tm_2_119 : Cond.selects RX3 yX3_draft yX3_draft ∈ tbg := tb2 119 (by decide +kernel) (by decide +kernel)
theorem tm_2_120 : Cond.code yX3_draft cX3_draft 4 none ∈ tbg := tb2 120 (by decide +kernel) (by decide +kernel)
theorem tm_2_121 : Cond.methodLink RX3 157 yX3_needSpan ∈ tbg := tb2 121 (by decide +kernel) (by decide +kernel)
theorem tm_2_123 : Cond.instanceMethod yX3_needSpan ∈ tbg := tb2 123 (by decide +kernel) (by decide +kernel)
theorem tm_2_124 : Cond.code yX3_needSpan cX3_needSpan 3 none ∈ tbg := tb2 124 (by decide +kernel) (by decide +kernel)
theorem tm_2_125 : Cond.methodLink RX3 246 yX3_needByte ∈ tbg := tb2 125 (by decide +kernel) (by decide +kernel)
theorem tm_2_127 : Cond.instanceMethod yX3_needByte ∈ tbg := tb2 127 (by decide +kernel) (by decide +kernel)
theorem tm_2_128 : Cond.code yX3_needByte cX3_needByte 2 none ∈ tbg := tb2 128 (by decide +kernel) (by decide +kernel)
theorem tm_2_129 : Cond.classLink RX3 193 eIO ∈ tbg := tb2 129 (by decide +kernel) (by decide +kernel)
theorem tm_2_147 : Cond.methodLink RL 162 yL_owner ∈ tbg := tb2 147 (by decide +kernel) (by decide +kernel)
theorem tm_2_148 : Cond.static yL_owner ∈ tbg := tb2 148 (by decide +kernel) (by decide +kernel)
theorem tm_2_149 : Cond.codeWith yL_owner cL_owner 4 (some .int) [(0, 6, 7, 56), (0, 6, 11, 43)] ∈ tbg := tb2 149 (by decide +kernel) (by decide +kernel)
theorem tm_2_150 : Cond.methodLink RL 53 yX3_owner ∈ tbg := tb2 150 (by decide +kernel) (by decide +kernel)
theorem tm_2_151 : Cond.instanceMethod yX3_owner ∈ tbg := tb2 151 (by decide +kernel) (by decide +kernel)
theorem tm_2_152 : Cond.selects RX3 yX3_owner yX3_owner ∈ tbg := tb2 152 (by decide +kernel) (by decide +kernel)
theorem tm_2_153 : Cond.code yX3_owner cX3_owner 3 (some .int) ∈ tbg := tb2 153 (by decide +kernel) (by decide +kernel)
theorem tm_2_154 : Cond.methodLink RX3 137 yX3_needOwner ∈ tbg := tb2 154 (by decide +kernel) (by decide +kernel)
theorem tm_2_156 : Cond.instanceMethod yX3_needOwner ∈ tbg := tb2 156 (by decide +kernel) (by decide +kernel)
theorem tm_2_157 : Cond.code yX3_needOwner cX3_needOwner 2 none ∈ tbg := tb2 157 (by decide +kernel) (by decide +kernel)
theorem tm_2_159 : Cond.methodLink RX3 141 yX1_activeOf ∈ tbg := tb2 159 (by decide +kernel) (by decide +kernel)
theorem tm_2_160 : Cond.instanceMethod yX1_activeOf ∈ tbg := tb2 160 (by decide +kernel) (by decide +kernel)
theorem tm_2_161 : Cond.selects RX1 yX1_activeOf yX1_activeOf ∈ tbg := tb2 161 (by decide +kernel) (by decide +kernel)
theorem tm_2_162 : Cond.code yX1_activeOf cX1_activeOf 4 (some .int) ∈ tbg := tb2 162 (by decide +kernel) (by decide +kernel)
theorem tm_2_163 : Cond.methodLink RX1 65 yX1_isActive ∈ tbg := tb2 163 (by decide +kernel) (by decide +kernel)
theorem tm_2_164 : Cond.instanceMethod yX1_isActive ∈ tbg := tb2 164 (by decide +kernel) (by decide +kernel)
theorem tm_2_165 : Cond.selects RX1 yX1_isActive yX1_isActive ∈ tbg := tb2 165 (by decide +kernel) (by decide +kernel)
theorem tm_2_166 : Cond.code yX1_isActive cX1_isActive 3 (some .boolean) ∈ tbg := tb2 166 (by decide +kernel) (by decide +kernel)
theorem tm_2_167 : Cond.methodLink RX3 144 yX1_isBarred ∈ tbg := tb2 167 (by decide +kernel) (by decide +kernel)
theorem tm_2_168 : Cond.instanceMethod yX1_isBarred ∈ tbg := tb2 168 (by decide +kernel) (by decide +kernel)
theorem tm_2_169 : Cond.selects RX1 yX1_isBarred yX1_isBarred ∈ tbg := tb2 169 (by decide +kernel) (by decide +kernel)
theorem tm_2_170 : Cond.code yX1_isBarred cX1_isBarred 2 (some .boolean) ∈ tbg := tb2 170 (by decide +kernel) (by decide +kernel)
theorem tm_2_171 : Cond.methodLink RX1 61 yX1_brokenOf ∈ tbg := tb2 171 (by decide +kernel) (by decide +kernel)
theorem tm_2_172 : Cond.instanceMethod yX1_brokenOf ∈ tbg := tb2 172 (by decide +kernel) (by decide +kernel)
theorem tm_2_173 : Cond.selects RX1 yX1_brokenOf yX1_brokenOf ∈ tbg := tb2 173 (by decide +kernel) (by decide +kernel)
theorem tm_2_174 : Cond.code yX1_brokenOf cX1_brokenOf 2 (some .int) ∈ tbg := tb2 174 (by decide +kernel) (by decide +kernel)
theorem tm_2_175 : Cond.methodLink RX3 147 yX1_joyOfOwner ∈ tbg := tb2 175 (by decide +kernel) (by decide +kernel)
theorem tm_2_176 : Cond.instanceMethod yX1_joyOfOwner ∈ tbg := tb2 176 (by decide +kernel) (by decide +kernel)
theorem tm_2_177 : Cond.selects RX1 yX1_joyOfOwner yX1_joyOfOwner ∈ tbg := tb2 177 (by decide +kernel) (by decide +kernel)
theorem tm_2_178 : Cond.code yX1_joyOfOwner cX1_joyOfOwner 4 (some .int) ∈ tbg := tb2 178 (by decide +kernel) (by decide +kernel)
theorem tm_2_179 : Cond.methodLink RX1 72 yX1_joyOf ∈ tbg := tb2 179 (by decide +kernel) (by decide +kernel)
theorem tm_2_180 : Cond.instanceMethod yX1_joyOf ∈ tbg := tb2 180 (by decide +kernel) (by decide +kernel)
theorem tm_2_181 : Cond.selects RX1 yX1_joyOf yX1_joyOf ∈ tbg := tb2 181 (by decide +kernel) (by decide +kernel)
theorem tm_2_182 : Cond.code yX1_joyOf cX1_joyOf 3 (some .int) ∈ tbg := tb2 182 (by decide +kernel) (by decide +kernel)
theorem tm_2_183 : Cond.methodLink RX1 85 yX1_joyAt ∈ tbg := tb2 183 (by decide +kernel) (by decide +kernel)
theorem tm_2_184 : Cond.instanceMethod yX1_joyAt ∈ tbg := tb2 184 (by decide +kernel) (by decide +kernel)
theorem tm_2_185 : Cond.selects RX1 yX1_joyAt yX1_joyAt ∈ tbg := tb2 185 (by decide +kernel) (by decide +kernel)
theorem tm_2_186 : Cond.code yX1_joyAt cX1_joyAt 5 (some .int) ∈ tbg := tb2 186 (by decide +kernel) (by decide +kernel)
theorem tm_2_187 : Cond.methodLink RX1 89 Lib.Math.abs.name ∈ tbg := tb2 187 (by decide +kernel) (by decide +kernel)
theorem tm_2_190 : Cond.methodLink RL 114 yX3_nextFree ∈ tbg := tb2 190 (by decide +kernel) (by decide +kernel)
theorem tm_2_191 : Cond.instanceMethod yX3_nextFree ∈ tbg := tb2 191 (by decide +kernel) (by decide +kernel)
theorem tm_2_192 : Cond.selects RX3 yX3_nextFree yX3_nextFree ∈ tbg := tb2 192 (by decide +kernel) (by decide +kernel)
theorem tm_2_193 : Cond.code yX3_nextFree cX3_nextFree 2 (some .int) ∈ tbg := tb2 193 (by decide +kernel) (by decide +kernel)
theorem tm_2_194 : Cond.methodLink RX3 252 yX1_earliestFit ∈ tbg := tb2 194 (by decide +kernel) (by decide +kernel)
theorem tm_2_195 : Cond.instanceMethod yX1_earliestFit ∈ tbg := tb2 195 (by decide +kernel) (by decide +kernel)
theorem tm_2_196 : Cond.selects RX1 yX1_earliestFit yX1_earliestFit ∈ tbg := tb2 196 (by decide +kernel) (by decide +kernel)
theorem tm_2_197 : Cond.code yX1_earliestFit cX1_earliestFit 9 (some .int) ∈ tbg := tb2 197 (by decide +kernel) (by decide +kernel)
theorem tm_2_198 : Cond.methodLink RX1 94 yX1_clashing ∈ tbg := tb2 198 (by decide +kernel) (by decide +kernel)
theorem tm_2_199 : Cond.instanceMethod yX1_clashing ∈ tbg := tb2 199 (by decide +kernel) (by decide +kernel)
theorem tm_2_200 : Cond.selects RX1 yX1_clashing yX1_clashing ∈ tbg := tb2 200 (by decide +kernel) (by decide +kernel)
theorem tm_2_201 : Cond.code yX1_clashing cX1_clashing 9 (some .int) ∈ tbg := tb2 201 (by decide +kernel) (by decide +kernel)
theorem tm_2_202 : Cond.methodLink RL 164 yL_book ∈ tbg := tb2 202 (by decide +kernel) (by decide +kernel)
theorem tm_2_203 : Cond.static yL_book ∈ tbg := tb2 203 (by decide +kernel) (by decide +kernel)
theorem tm_2_204 : Cond.codeWith yL_book cL_book 6 (some .int) [(0, 9, 10, 56), (0, 9, 15, 43), (0, 9, 20, 45)] ∈ tbg := tb2 204 (by decide +kernel) (by decide +kernel)
theorem tm_2_205 : Cond.methodLink RL 71 yX3_book ∈ tbg := tb2 205 (by decide +kernel) (by decide +kernel)
theorem tm_2_206 : Cond.instanceMethod yX3_book ∈ tbg := tb2 206 (by decide +kernel) (by decide +kernel)
theorem tm_2_207 : Cond.selects RX3 yX3_book yX3_book ∈ tbg := tb2 207 (by decide +kernel) (by decide +kernel)
theorem tm_2_208 : Cond.code yX3_book cX3_book 5 (some .int) ∈ tbg := tb2 208 (by decide +kernel) (by decide +kernel)
theorem tm_2_211 : Cond.methodLink RX3 168 yX1_hasLimit ∈ tbg := tb2 211 (by decide +kernel) (by decide +kernel)
theorem tm_2_212 : Cond.instanceMethod yX1_hasLimit ∈ tbg := tb2 212 (by decide +kernel) (by decide +kernel)
theorem tm_2_213 : Cond.selects RX1 yX1_hasLimit yX1_hasLimit ∈ tbg := tb2 213 (by decide +kernel) (by decide +kernel)
theorem tm_2_214 : Cond.code yX1_hasLimit cX1_hasLimit 2 (some .boolean) ∈ tbg := tb2 214 (by decide +kernel) (by decide +kernel)
theorem tm_2_215 : Cond.methodLink RX1 69 yX1_activeOf ∈ tbg := tb2 215 (by decide +kernel) (by decide +kernel)
theorem tm_2_217 : Cond.methodLink RX3 173 yX1_enterBooking ∈ tbg := tb2 217 (by decide +kernel) (by decide +kernel)
theorem tm_2_218 : Cond.instanceMethod yX1_enterBooking ∈ tbg := tb2 218 (by decide +kernel) (by decide +kernel)
theorem tm_2_219 : Cond.selects RX1 yX1_enterBooking yX1_enterBooking ∈ tbg := tb2 219 (by decide +kernel) (by decide +kernel)
theorem tm_2_220 : Cond.code yX1_enterBooking cX1_enterBooking 10 (some .int) ∈ tbg := tb2 220 (by decide +kernel) (by decide +kernel)
theorem tm_2_221 : Cond.methodLink RX1 75 yX1_letWait ∈ tbg := tb2 221 (by decide +kernel) (by decide +kernel)
theorem tm_2_222 : Cond.instanceMethod yX1_letWait ∈ tbg := tb2 222 (by decide +kernel) (by decide +kernel)
theorem tm_2_223 : Cond.selects RX1 yX1_letWait yX1_letWait ∈ tbg := tb2 223 (by decide +kernel) (by decide +kernel)
theorem tm_2_224 : Cond.code yX1_letWait cX1_letWait 3 none ∈ tbg := tb2 224 (by decide +kernel) (by decide +kernel)
theorem tm_2_225 : Cond.methodLink RX1 78 yX1_bestTime ∈ tbg := tb2 225 (by decide +kernel) (by decide +kernel)
theorem tm_2_226 : Cond.instanceMethod yX1_bestTime ∈ tbg := tb2 226 (by decide +kernel) (by decide +kernel)
theorem tm_2_227 : Cond.selects RX1 yX1_bestTime yX1_bestTime ∈ tbg := tb2 227 (by decide +kernel) (by decide +kernel)
theorem tm_2_228 : Cond.code yX1_bestTime cX1_bestTime 6 (some .int) ∈ tbg := tb2 228 (by decide +kernel) (by decide +kernel)
theorem tm_2_229 : Cond.methodLink RX1 107 yX1_earliestFit ∈ tbg := tb2 229 (by decide +kernel) (by decide +kernel)
theorem tm_2_230 : Cond.methodLink RX1 111 yX1_latestFit ∈ tbg := tb2 230 (by decide +kernel) (by decide +kernel)
theorem tm_2_231 : Cond.instanceMethod yX1_latestFit ∈ tbg := tb2 231 (by decide +kernel) (by decide +kernel)
theorem tm_2_232 : Cond.selects RX1 yX1_latestFit yX1_latestFit ∈ tbg := tb2 232 (by decide +kernel) (by decide +kernel)
theorem tm_2_233 : Cond.code yX1_latestFit cX1_latestFit 10 (some .int) ∈ tbg := tb2 233 (by decide +kernel) (by decide +kernel)
theorem tm_2_234 : Cond.methodLink RX1 81 yX1_bookAt ∈ tbg := tb2 234 (by decide +kernel) (by decide +kernel)
theorem tm_2_235 : Cond.instanceMethod yX1_bookAt ∈ tbg := tb2 235 (by decide +kernel) (by decide +kernel)
theorem tm_2_236 : Cond.selects RX1 yX1_bookAt yX1_bookAt ∈ tbg := tb2 236 (by decide +kernel) (by decide +kernel)
theorem tm_2_237 : Cond.code yX1_bookAt cX1_bookAt 4 (some .boolean) ∈ tbg := tb2 237 (by decide +kernel) (by decide +kernel)
theorem tm_2_238 : Cond.methodLink RL 167 yL_booking ∈ tbg := tb2 238 (by decide +kernel) (by decide +kernel)
theorem tm_2_239 : Cond.static yL_booking ∈ tbg := tb2 239 (by decide +kernel) (by decide +kernel)
theorem tm_3_0 : Cond.codeWith yL_booking cL_booking 4 (some .int) [(0, 6, 7, 56), (0, 6, 11, 43)] ∈ tbg := tb3 0 (by decide +kernel) (by decide +kernel)
theorem tm_3_1 : Cond.methodLink RL 75 yX3_booking ∈ tbg := tb3 1 (by decide +kernel) (by decide +kernel)
theorem tm_3_2 : Cond.instanceMethod yX3_booking ∈ tbg := tb3 2 (by decide +kernel) (by decide +kernel)
theorem tm_3_3 : Cond.selects RX3 yX3_booking yX3_booking ∈ tbg := tb3 3 (by decide +kernel) (by decide +kernel)
theorem tm_3_4 : Cond.code yX3_booking cX3_booking 3 (some .int) ∈ tbg := tb3 4 (by decide +kernel) (by decide +kernel)
theorem tm_3_5 : Cond.methodLink RX3 177 yX3_needBooking ∈ tbg := tb3 5 (by decide +kernel) (by decide +kernel)
theorem tm_3_7 : Cond.instanceMethod yX3_needBooking ∈ tbg := tb3 7 (by decide +kernel) (by decide +kernel)
theorem tm_3_8 : Cond.code yX3_needBooking cX3_needBooking 2 none ∈ tbg := tb3 8 (by decide +kernel) (by decide +kernel)
theorem tm_3_10 : Cond.methodLink RX3 180 yX1_joyOf ∈ tbg := tb3 10 (by decide +kernel) (by decide +kernel)
theorem tm_3_11 : Cond.methodLink RX3 183 yX1_isIn ∈ tbg := tb3 11 (by decide +kernel) (by decide +kernel)
theorem tm_3_12 : Cond.instanceMethod yX1_isIn ∈ tbg := tb3 12 (by decide +kernel) (by decide +kernel)
theorem tm_3_13 : Cond.selects RX1 yX1_isIn yX1_isIn ∈ tbg := tb3 13 (by decide +kernel) (by decide +kernel)
theorem tm_3_14 : Cond.code yX1_isIn cX1_isIn 3 (some .boolean) ∈ tbg := tb3 14 (by decide +kernel) (by decide +kernel)
theorem tm_3_15 : Cond.methodLink RX3 187 yX1_bestTime ∈ tbg := tb3 15 (by decide +kernel) (by decide +kernel)
theorem tm_3_16 : Cond.methodLink RL 169 Lib.Math.abs.name ∈ tbg := tb3 16 (by decide +kernel) (by decide +kernel)
theorem tm_3_21 : Cond.methodLink RL 177 yL_leave ∈ tbg := tb3 21 (by decide +kernel) (by decide +kernel)
theorem tm_3_22 : Cond.static yL_leave ∈ tbg := tb3 22 (by decide +kernel) (by decide +kernel)
theorem tm_3_23 : Cond.codeWith yL_leave cL_leave 3 (some .int) [(0, 5, 6, 56)] ∈ tbg := tb3 23 (by decide +kernel) (by decide +kernel)
theorem tm_3_24 : Cond.methodLink RL 84 yX3_leave ∈ tbg := tb3 24 (by decide +kernel) (by decide +kernel)
theorem tm_3_25 : Cond.instanceMethod yX3_leave ∈ tbg := tb3 25 (by decide +kernel) (by decide +kernel)
theorem tm_3_26 : Cond.selects RX3 yX3_leave yX3_leave ∈ tbg := tb3 26 (by decide +kernel) (by decide +kernel)
theorem tm_3_27 : Cond.code yX3_leave cX3_leave 3 (some .int) ∈ tbg := tb3 27 (by decide +kernel) (by decide +kernel)
theorem tm_3_28 : Cond.methodLink RX3 205 yX1_placeWaiting ∈ tbg := tb3 28 (by decide +kernel) (by decide +kernel)
theorem tm_3_29 : Cond.instanceMethod yX1_placeWaiting ∈ tbg := tb3 29 (by decide +kernel) (by decide +kernel)
theorem tm_3_30 : Cond.selects RX1 yX1_placeWaiting yX1_placeWaiting ∈ tbg := tb3 30 (by decide +kernel) (by decide +kernel)
theorem tm_3_31 : Cond.code yX1_placeWaiting cX1_placeWaiting 3 none ∈ tbg := tb3 31 (by decide +kernel) (by decide +kernel)
theorem tm_3_32 : Cond.methodLink RX1 114 yX1_queueUp ∈ tbg := tb3 32 (by decide +kernel) (by decide +kernel)
theorem tm_3_34 : Cond.instanceMethod yX1_queueUp ∈ tbg := tb3 34 (by decide +kernel) (by decide +kernel)
theorem tm_3_35 : Cond.code yX1_queueUp cX1_queueUp 5 (some .int) ∈ tbg := tb3 35 (by decide +kernel) (by decide +kernel)
theorem tm_3_36 : Cond.methodLink RL 179 yL_arrive ∈ tbg := tb3 36 (by decide +kernel) (by decide +kernel)
theorem tm_3_37 : Cond.static yL_arrive ∈ tbg := tb3 37 (by decide +kernel) (by decide +kernel)
theorem tm_3_38 : Cond.codeWith yL_arrive cL_arrive 3 (some .int) [(0, 5, 6, 56)] ∈ tbg := tb3 38 (by decide +kernel) (by decide +kernel)
theorem tm_3_39 : Cond.methodLink RL 81 yX3_arrive ∈ tbg := tb3 39 (by decide +kernel) (by decide +kernel)
theorem tm_3_40 : Cond.instanceMethod yX3_arrive ∈ tbg := tb3 40 (by decide +kernel) (by decide +kernel)
theorem tm_3_41 : Cond.selects RX3 yX3_arrive yX3_arrive ∈ tbg := tb3 41 (by decide +kernel) (by decide +kernel)
theorem tm_3_42 : Cond.code yX3_arrive cX3_arrive 3 (some .int) ∈ tbg := tb3 42 (by decide +kernel) (by decide +kernel)
theorem tm_3_43 : Cond.methodLink RL 181 yL_nobodyCould ∈ tbg := tb3 43 (by decide +kernel) (by decide +kernel)
theorem tm_3_45 : Cond.instanceMethod yL_nobodyCould ∈ tbg := tb3 45 (by decide +kernel) (by decide +kernel)
theorem tm_3_46 : Cond.code yL_nobodyCould cL_nobodyCould 2 (some .boolean) ∈ tbg := tb3 46 (by decide +kernel) (by decide +kernel)
theorem tm_3_47 : Cond.methodLink RL 185 yL_cancel ∈ tbg := tb3 47 (by decide +kernel) (by decide +kernel)
theorem tm_3_48 : Cond.static yL_cancel ∈ tbg := tb3 48 (by decide +kernel) (by decide +kernel)
theorem tm_3_49 : Cond.codeWith yL_cancel cL_cancel 3 (some .int) [(0, 5, 6, 56)] ∈ tbg := tb3 49 (by decide +kernel) (by decide +kernel)
theorem tm_3_50 : Cond.methodLink RL 90 yX3_cancel ∈ tbg := tb3 50 (by decide +kernel) (by decide +kernel)
theorem tm_3_51 : Cond.instanceMethod yX3_cancel ∈ tbg := tb3 51 (by decide +kernel) (by decide +kernel)
theorem tm_3_52 : Cond.selects RX3 yX3_cancel yX3_cancel ∈ tbg := tb3 52 (by decide +kernel) (by decide +kernel)
theorem tm_3_53 : Cond.code yX3_cancel cX3_cancel 3 (some .int) ∈ tbg := tb3 53 (by decide +kernel) (by decide +kernel)
theorem tm_3_54 : Cond.methodLink RL 187 yL_extend ∈ tbg := tb3 54 (by decide +kernel) (by decide +kernel)
theorem tm_3_55 : Cond.static yL_extend ∈ tbg := tb3 55 (by decide +kernel) (by decide +kernel)
theorem tm_3_56 : Cond.codeWith yL_extend cL_extend 4 (some .int) [(0, 6, 7, 56), (0, 6, 11, 43)] ∈ tbg := tb3 56 (by decide +kernel) (by decide +kernel)
theorem tm_3_57 : Cond.methodLink RL 87 yX3_extend ∈ tbg := tb3 57 (by decide +kernel) (by decide +kernel)
theorem tm_3_58 : Cond.instanceMethod yX3_extend ∈ tbg := tb3 58 (by decide +kernel) (by decide +kernel)
theorem tm_3_59 : Cond.selects RX3 yX3_extend yX3_extend ∈ tbg := tb3 59 (by decide +kernel) (by decide +kernel)
theorem tm_3_60 : Cond.code yX3_extend cX3_extend 4 (some .int) ∈ tbg := tb3 60 (by decide +kernel) (by decide +kernel)
theorem tm_3_61 : Cond.methodLink RX3 208 yX1_wouldClash ∈ tbg := tb3 61 (by decide +kernel) (by decide +kernel)
theorem tm_3_62 : Cond.instanceMethod yX1_wouldClash ∈ tbg := tb3 62 (by decide +kernel) (by decide +kernel)
theorem tm_3_63 : Cond.selects RX1 yX1_wouldClash yX1_wouldClash ∈ tbg := tb3 63 (by decide +kernel) (by decide +kernel)
theorem tm_3_64 : Cond.code yX1_wouldClash cX1_wouldClash 6 (some .boolean) ∈ tbg := tb3 64 (by decide +kernel) (by decide +kernel)
theorem tm_3_65 : Cond.methodLink RL 189 yL_evict ∈ tbg := tb3 65 (by decide +kernel) (by decide +kernel)
theorem tm_3_66 : Cond.static yL_evict ∈ tbg := tb3 66 (by decide +kernel) (by decide +kernel)
theorem tm_3_67 : Cond.codeWith yL_evict cL_evict 3 (some .int) [(0, 5, 6, 56)] ∈ tbg := tb3 67 (by decide +kernel) (by decide +kernel)
theorem tm_3_68 : Cond.methodLink RL 93 yX3_evict ∈ tbg := tb3 68 (by decide +kernel) (by decide +kernel)
theorem tm_3_69 : Cond.instanceMethod yX3_evict ∈ tbg := tb3 69 (by decide +kernel) (by decide +kernel)
theorem tm_3_70 : Cond.selects RX3 yX3_evict yX3_evict ∈ tbg := tb3 70 (by decide +kernel) (by decide +kernel)
theorem tm_3_71 : Cond.code yX3_evict cX3_evict 3 (some .int) ∈ tbg := tb3 71 (by decide +kernel) (by decide +kernel)
theorem tm_3_72 : Cond.methodLink RX3 212 yX1_letWait ∈ tbg := tb3 72 (by decide +kernel) (by decide +kernel)
theorem tm_3_73 : Cond.methodLink RL 191 yL_gain ∈ tbg := tb3 73 (by decide +kernel) (by decide +kernel)
theorem tm_3_74 : Cond.static yL_gain ∈ tbg := tb3 74 (by decide +kernel) (by decide +kernel)
theorem tm_3_75 : Cond.codeWith yL_gain cL_gain 4 (some .int) [(0, 6, 7, 56)] ∈ tbg := tb3 75 (by decide +kernel) (by decide +kernel)
theorem tm_3_76 : Cond.methodLink RL 105 yX3_gain ∈ tbg := tb3 76 (by decide +kernel) (by decide +kernel)
theorem tm_3_77 : Cond.instanceMethod yX3_gain ∈ tbg := tb3 77 (by decide +kernel) (by decide +kernel)
theorem tm_3_78 : Cond.selects RX3 yX3_gain yX3_gain ∈ tbg := tb3 78 (by decide +kernel) (by decide +kernel)
theorem tm_3_79 : Cond.code yX3_gain cX3_gain 3 (some .int) ∈ tbg := tb3 79 (by decide +kernel) (by decide +kernel)
theorem tm_3_80 : Cond.methodLink RX3 217 yX0_swapGain ∈ tbg := tb3 80 (by decide +kernel) (by decide +kernel)
theorem tm_3_81 : Cond.instanceMethod yX0_swapGain ∈ tbg := tb3 81 (by decide +kernel) (by decide +kernel)
theorem tm_3_82 : Cond.selects RX0 yX0_swapGain yX0_swapGain ∈ tbg := tb3 82 (by decide +kernel) (by decide +kernel)
theorem tm_3_83 : Cond.code yX0_swapGain cX0_swapGain 7 (some .int) ∈ tbg := tb3 83 (by decide +kernel) (by decide +kernel)
theorem tm_3_84 : Cond.methodLink RX0 29 yX1_joyAt ∈ tbg := tb3 84 (by decide +kernel) (by decide +kernel)
theorem tm_3_85 : Cond.methodLink RX0 33 yX1_wouldClash ∈ tbg := tb3 85 (by decide +kernel) (by decide +kernel)
theorem tm_3_86 : Cond.methodLink RX3 224 yX0_buyoutGain ∈ tbg := tb3 86 (by decide +kernel) (by decide +kernel)
theorem tm_3_87 : Cond.instanceMethod yX0_buyoutGain ∈ tbg := tb3 87 (by decide +kernel) (by decide +kernel)
theorem tm_3_88 : Cond.selects RX0 yX0_buyoutGain yX0_buyoutGain ∈ tbg := tb3 88 (by decide +kernel) (by decide +kernel)
theorem tm_3_89 : Cond.code yX0_buyoutGain cX0_buyoutGain 8 (some .int) ∈ tbg := tb3 89 (by decide +kernel) (by decide +kernel)
theorem tm_3_90 : Cond.methodLink RX0 37 Lib.Math.abs.name ∈ tbg := tb3 90 (by decide +kernel) (by decide +kernel)
theorem tm_3_91 : Cond.methodLink RX0 43 yX0_priceOf ∈ tbg := tb3 91 (by decide +kernel) (by decide +kernel)
theorem tm_3_93 : Cond.instanceMethod yX0_priceOf ∈ tbg := tb3 93 (by decide +kernel) (by decide +kernel)
theorem tm_3_94 : Cond.code yX0_priceOf cX0_priceOf 4 (some .int) ∈ tbg := tb3 94 (by decide +kernel) (by decide +kernel)
theorem tm_3_95 : Cond.methodLink RL 193 yL_best ∈ tbg := tb3 95 (by decide +kernel) (by decide +kernel)
theorem tm_3_96 : Cond.static yL_best ∈ tbg := tb3 96 (by decide +kernel) (by decide +kernel)
theorem tm_3_97 : Cond.codeWith yL_best cL_best 3 (some .int) [(0, 5, 6, 43)] ∈ tbg := tb3 97 (by decide +kernel) (by decide +kernel)
theorem tm_3_98 : Cond.methodLink RL 108 yX3_best ∈ tbg := tb3 98 (by decide +kernel) (by decide +kernel)
theorem tm_3_99 : Cond.instanceMethod yX3_best ∈ tbg := tb3 99 (by decide +kernel) (by decide +kernel)
theorem tm_3_100 : Cond.selects RX3 yX3_best yX3_best ∈ tbg := tb3 100 (by decide +kernel) (by decide +kernel)
theorem tm_3_101 : Cond.code yX3_best cX3_best 2 (some .int) ∈ tbg := tb3 101 (by decide +kernel) (by decide +kernel)
theorem tm_3_102 : Cond.methodLink RX3 230 yX0_findBest ∈ tbg := tb3 102 (by decide +kernel) (by decide +kernel)
theorem tm_3_103 : Cond.instanceMethod yX0_findBest ∈ tbg := tb3 103 (by decide +kernel) (by decide +kernel)
theorem tm_3_104 : Cond.selects RX0 yX0_findBest yX0_findBest ∈ tbg := tb3 104 (by decide +kernel) (by decide +kernel)
theorem tm_3_105 : Cond.code yX0_findBest cX0_findBest 1 (some .boolean) ∈ tbg := tb3 105 (by decide +kernel) (by decide +kernel)
theorem tm_3_106 : Cond.methodLink RX0 67 yX0_findBestSwap ∈ tbg := tb3 106 (by decide +kernel) (by decide +kernel)
theorem tm_3_108 : Cond.instanceMethod yX0_findBestSwap ∈ tbg := tb3 108 (by decide +kernel) (by decide +kernel)
theorem tm_3_109 : Cond.code yX0_findBestSwap cX0_findBestSwap 3 none ∈ tbg := tb3 109 (by decide +kernel) (by decide +kernel)
theorem tm_3_110 : Cond.methodLink RX0 76 yX1_isIn ∈ tbg := tb3 110 (by decide +kernel) (by decide +kernel)
theorem tm_3_111 : Cond.methodLink RX0 79 yX0_swapGain ∈ tbg := tb3 111 (by decide +kernel) (by decide +kernel)
theorem tm_3_112 : Cond.methodLink RX0 82 yX0_keepBetter ∈ tbg := tb3 112 (by decide +kernel) (by decide +kernel)
theorem tm_3_114 : Cond.instanceMethod yX0_keepBetter ∈ tbg := tb3 114 (by decide +kernel) (by decide +kernel)
theorem tm_3_115 : Cond.code yX0_keepBetter cX0_keepBetter 5 none ∈ tbg := tb3 115 (by decide +kernel) (by decide +kernel)
theorem tm_3_116 : Cond.methodLink RX0 70 yX0_findBestBuyout ∈ tbg := tb3 116 (by decide +kernel) (by decide +kernel)
theorem tm_3_118 : Cond.instanceMethod yX0_findBestBuyout ∈ tbg := tb3 118 (by decide +kernel) (by decide +kernel)
theorem tm_3_119 : Cond.code yX0_findBestBuyout cX0_findBestBuyout 3 none ∈ tbg := tb3 119 (by decide +kernel) (by decide +kernel)
theorem tm_3_120 : Cond.methodLink RX0 86 yX0_buyoutGain ∈ tbg := tb3 120 (by decide +kernel) (by decide +kernel)
theorem tm_3_121 : Cond.methodLink RL 195 yL_swap ∈ tbg := tb3 121 (by decide +kernel) (by decide +kernel)
theorem tm_3_122 : Cond.static yL_swap ∈ tbg := tb3 122 (by decide +kernel) (by decide +kernel)
theorem tm_3_123 : Cond.codeWith yL_swap cL_swap 4 (some .int) [(0, 6, 7, 56), (0, 6, 11, 43)] ∈ tbg := tb3 123 (by decide +kernel) (by decide +kernel)
theorem tm_3_124 : Cond.methodLink RL 96 yX3_swap ∈ tbg := tb3 124 (by decide +kernel) (by decide +kernel)
theorem tm_3_125 : Cond.instanceMethod yX3_swap ∈ tbg := tb3 125 (by decide +kernel) (by decide +kernel)
theorem tm_3_126 : Cond.selects RX3 yX3_swap yX3_swap ∈ tbg := tb3 126 (by decide +kernel) (by decide +kernel)
theorem tm_3_127 : Cond.code yX3_swap cX3_swap 3 (some .int) ∈ tbg := tb3 127 (by decide +kernel) (by decide +kernel)
theorem tm_3_129 : Cond.methodLink RX3 221 yX0_makeSwap ∈ tbg := tb3 129 (by decide +kernel) (by decide +kernel)
theorem tm_3_130 : Cond.instanceMethod yX0_makeSwap ∈ tbg := tb3 130 (by decide +kernel) (by decide +kernel)
theorem tm_3_131 : Cond.selects RX0 yX0_makeSwap yX0_makeSwap ∈ tbg := tb3 131 (by decide +kernel) (by decide +kernel)
theorem tm_3_132 : Cond.code yX0_makeSwap cX0_makeSwap 7 none ∈ tbg := tb3 132 (by decide +kernel) (by decide +kernel)
theorem tm_3_133 : Cond.methodLink RX0 49 yX0_countBargain ∈ tbg := tb3 133 (by decide +kernel) (by decide +kernel)
theorem tm_3_135 : Cond.instanceMethod yX0_countBargain ∈ tbg := tb3 135 (by decide +kernel) (by decide +kernel)
theorem tm_3_136 : Cond.code yX0_countBargain cX0_countBargain 3 none ∈ tbg := tb3 136 (by decide +kernel) (by decide +kernel)
theorem tm_3_137 : Cond.methodLink RL 197 yL_buy ∈ tbg := tb3 137 (by decide +kernel) (by decide +kernel)
theorem tm_3_138 : Cond.static yL_buy ∈ tbg := tb3 138 (by decide +kernel) (by decide +kernel)
theorem tm_3_139 : Cond.codeWith yL_buy cL_buy 4 (some .int) [(0, 6, 7, 56)] ∈ tbg := tb3 139 (by decide +kernel) (by decide +kernel)
theorem tm_3_140 : Cond.methodLink RL 99 yX3_buy ∈ tbg := tb3 140 (by decide +kernel) (by decide +kernel)
theorem tm_3_141 : Cond.instanceMethod yX3_buy ∈ tbg := tb3 141 (by decide +kernel) (by decide +kernel)
theorem tm_3_142 : Cond.selects RX3 yX3_buy yX3_buy ∈ tbg := tb3 142 (by decide +kernel) (by decide +kernel)
theorem tm_3_143 : Cond.code yX3_buy cX3_buy 3 (some .int) ∈ tbg := tb3 143 (by decide +kernel) (by decide +kernel)
theorem tm_3_144 : Cond.methodLink RX3 227 yX0_makeBuyout ∈ tbg := tb3 144 (by decide +kernel) (by decide +kernel)
theorem tm_3_145 : Cond.instanceMethod yX0_makeBuyout ∈ tbg := tb3 145 (by decide +kernel) (by decide +kernel)
theorem tm_3_146 : Cond.selects RX0 yX0_makeBuyout yX0_makeBuyout ∈ tbg := tb3 146 (by decide +kernel) (by decide +kernel)
theorem tm_3_147 : Cond.code yX0_makeBuyout cX0_makeBuyout 5 none ∈ tbg := tb3 147 (by decide +kernel) (by decide +kernel)
theorem tm_3_148 : Cond.methodLink RX0 56 yX1_letWait ∈ tbg := tb3 148 (by decide +kernel) (by decide +kernel)
theorem tm_3_149 : Cond.methodLink RX0 60 yX1_bookAt ∈ tbg := tb3 149 (by decide +kernel) (by decide +kernel)
theorem tm_3_150 : Cond.methodLink RL 199 yX3_bargain ∈ tbg := tb3 150 (by decide +kernel) (by decide +kernel)
theorem tm_3_151 : Cond.instanceMethod yX3_bargain ∈ tbg := tb3 151 (by decide +kernel) (by decide +kernel)
theorem tm_3_152 : Cond.selects RX3 yX3_bargain yX3_bargain ∈ tbg := tb3 152 (by decide +kernel) (by decide +kernel)
theorem tm_3_153 : Cond.code yX3_bargain cX3_bargain 1 (some .int) ∈ tbg := tb3 153 (by decide +kernel) (by decide +kernel)
theorem tm_3_154 : Cond.methodLink RX3 234 yX0_makeFound ∈ tbg := tb3 154 (by decide +kernel) (by decide +kernel)
theorem tm_3_155 : Cond.instanceMethod yX0_makeFound ∈ tbg := tb3 155 (by decide +kernel) (by decide +kernel)
theorem tm_3_156 : Cond.selects RX0 yX0_makeFound yX0_makeFound ∈ tbg := tb3 156 (by decide +kernel) (by decide +kernel)
theorem tm_3_157 : Cond.code yX0_makeFound cX0_makeFound 1 none ∈ tbg := tb3 157 (by decide +kernel) (by decide +kernel)
theorem tm_3_158 : Cond.methodLink RX0 89 yX0_makeSwap ∈ tbg := tb3 158 (by decide +kernel) (by decide +kernel)
theorem tm_3_159 : Cond.methodLink RX0 92 yX0_makeBuyout ∈ tbg := tb3 159 (by decide +kernel) (by decide +kernel)
theorem tm_3_168 : Cond.methodLink RL 203 yL_ahead ∈ tbg := tb3 168 (by decide +kernel) (by decide +kernel)
theorem tm_3_169 : Cond.static yL_ahead ∈ tbg := tb3 169 (by decide +kernel) (by decide +kernel)
theorem tm_3_170 : Cond.codeWith yL_ahead cL_ahead 4 (some .int) [(0, 6, 7, 43)] ∈ tbg := tb3 170 (by decide +kernel) (by decide +kernel)
theorem tm_3_171 : Cond.methodLink RL 129 yX3_ahead ∈ tbg := tb3 171 (by decide +kernel) (by decide +kernel)
theorem tm_3_172 : Cond.instanceMethod yX3_ahead ∈ tbg := tb3 172 (by decide +kernel) (by decide +kernel)
theorem tm_3_173 : Cond.selects RX3 yX3_ahead yX3_ahead ∈ tbg := tb3 173 (by decide +kernel) (by decide +kernel)
theorem tm_3_174 : Cond.code yX3_ahead cX3_ahead 3 (some .int) ∈ tbg := tb3 174 (by decide +kernel) (by decide +kernel)
theorem tm_3_175 : Cond.methodLink RX3 91 yX1_copyFrom ∈ tbg := tb3 175 (by decide +kernel) (by decide +kernel)
theorem tm_3_176 : Cond.instanceMethod yX1_copyFrom ∈ tbg := tb3 176 (by decide +kernel) (by decide +kernel)
theorem tm_3_177 : Cond.selects RX1 yX1_copyFrom yX1_copyFrom ∈ tbg := tb3 177 (by decide +kernel) (by decide +kernel)
theorem tm_3_178 : Cond.code yX1_copyFrom cX1_copyFrom 3 none ∈ tbg := tb3 178 (by decide +kernel) (by decide +kernel)
theorem tm_3_179 : Cond.methodLink RX3 239 yX3_tallyOf ∈ tbg := tb3 179 (by decide +kernel) (by decide +kernel)
theorem tm_3_180 : Cond.static yX3_tallyOf ∈ tbg := tb3 180 (by decide +kernel) (by decide +kernel)
theorem tm_3_181 : Cond.code yX3_tallyOf cX3_tallyOf 4 (some .int) ∈ tbg := tb3 181 (by decide +kernel) (by decide +kernel)
theorem tm_3_182 : Cond.methodLink RX3 264 yX1_clearTally ∈ tbg := tb3 182 (by decide +kernel) (by decide +kernel)
theorem tm_3_183 : Cond.instanceMethod yX1_clearTally ∈ tbg := tb3 183 (by decide +kernel) (by decide +kernel)
theorem tm_3_184 : Cond.selects RX1 yX1_clearTally yX1_clearTally ∈ tbg := tb3 184 (by decide +kernel) (by decide +kernel)
theorem tm_3_185 : Cond.code yX1_clearTally cX1_clearTally 2 none ∈ tbg := tb3 185 (by decide +kernel) (by decide +kernel)
theorem tm_3_186 : Cond.methodLink RX3 259 yX1_tick ∈ tbg := tb3 186 (by decide +kernel) (by decide +kernel)
theorem tm_3_187 : Cond.instanceMethod yX1_tick ∈ tbg := tb3 187 (by decide +kernel) (by decide +kernel)
theorem tm_3_188 : Cond.selects RX1 yX1_tick yX1_tick ∈ tbg := tb3 188 (by decide +kernel) (by decide +kernel)
theorem tm_3_189 : Cond.code yX1_tick cX1_tick 2 none ∈ tbg := tb3 189 (by decide +kernel) (by decide +kernel)
theorem tm_3_190 : Cond.methodLink RX1 118 yX1_finishHeld ∈ tbg := tb3 190 (by decide +kernel) (by decide +kernel)
theorem tm_3_192 : Cond.instanceMethod yX1_finishHeld ∈ tbg := tb3 192 (by decide +kernel) (by decide +kernel)
theorem tm_3_193 : Cond.code yX1_finishHeld cX1_finishHeld 4 (some .int) ∈ tbg := tb3 193 (by decide +kernel) (by decide +kernel)
theorem tm_3_194 : Cond.methodLink RX1 121 yX1_bumpLate ∈ tbg := tb3 194 (by decide +kernel) (by decide +kernel)
theorem tm_3_196 : Cond.instanceMethod yX1_bumpLate ∈ tbg := tb3 196 (by decide +kernel) (by decide +kernel)
theorem tm_3_197 : Cond.code yX1_bumpLate cX1_bumpLate 4 (some .int) ∈ tbg := tb3 197 (by decide +kernel) (by decide +kernel)
theorem tm_3_198 : Cond.methodLink RX1 124 yX1_expireWaiting ∈ tbg := tb3 198 (by decide +kernel) (by decide +kernel)
theorem tm_3_200 : Cond.instanceMethod yX1_expireWaiting ∈ tbg := tb3 200 (by decide +kernel) (by decide +kernel)
theorem tm_3_201 : Cond.code yX1_expireWaiting cX1_expireWaiting 3 none ∈ tbg := tb3 201 (by decide +kernel) (by decide +kernel)
theorem tm_3_202 : Cond.methodLink RX1 127 yX1_placeWaiting ∈ tbg := tb3 202 (by decide +kernel) (by decide +kernel)
theorem tm_3_203 : Cond.methodLink RL 205 yL_pass ∈ tbg := tb3 203 (by decide +kernel) (by decide +kernel)
theorem tm_3_204 : Cond.static yL_pass ∈ tbg := tb3 204 (by decide +kernel) (by decide +kernel)
theorem tm_3_205 : Cond.codeWith yL_pass cL_pass 3 (some .int) [(0, 5, 6, 43), (0, 5, 10, 45)] ∈ tbg := tb3 205 (by decide +kernel) (by decide +kernel)
theorem tm_3_206 : Cond.methodLink RL 102 yX3_pass ∈ tbg := tb3 206 (by decide +kernel) (by decide +kernel)
theorem tm_3_207 : Cond.instanceMethod yX3_pass ∈ tbg := tb3 207 (by decide +kernel) (by decide +kernel)
theorem tm_3_208 : Cond.selects RX3 yX3_pass yX3_pass ∈ tbg := tb3 208 (by decide +kernel) (by decide +kernel)
theorem tm_3_209 : Cond.code yX3_pass cX3_pass 2 (some .int) ∈ tbg := tb3 209 (by decide +kernel) (by decide +kernel)
theorem tm_3_215 : Cond.methodLink RL 172 yL_trust ∈ tbg := tb3 215 (by decide +kernel) (by decide +kernel)
theorem tm_3_216 : Cond.static yL_trust ∈ tbg := tb3 216 (by decide +kernel) (by decide +kernel)
theorem tm_3_217 : Cond.codeWith yL_trust cL_trust 3 (some .double) [(0, 5, 6, 56)] ∈ tbg := tb3 217 (by decide +kernel) (by decide +kernel)
theorem tm_3_218 : Cond.methodLink RL 58 yX3_trust ∈ tbg := tb3 218 (by decide +kernel) (by decide +kernel)
theorem tm_3_219 : Cond.instanceMethod yX3_trust ∈ tbg := tb3 219 (by decide +kernel) (by decide +kernel)
theorem tm_3_220 : Cond.selects RX3 yX3_trust yX3_trust ∈ tbg := tb3 220 (by decide +kernel) (by decide +kernel)
theorem tm_3_221 : Cond.code yX3_trust cX3_trust 4 (some .double) ∈ tbg := tb3 221 (by decide +kernel) (by decide +kernel)
theorem tm_3_222 : Cond.methodLink RX3 154 yX1_brokenOf ∈ tbg := tb3 222 (by decide +kernel) (by decide +kernel)
theorem tm_3_224 : Cond.methodLink RL 175 yL_waiter ∈ tbg := tb3 224 (by decide +kernel) (by decide +kernel)
theorem tm_3_225 : Cond.static yL_waiter ∈ tbg := tb3 225 (by decide +kernel) (by decide +kernel)
theorem tm_3_226 : Cond.codeWith yL_waiter cL_waiter 3 (some .int) [(0, 5, 6, 56)] ∈ tbg := tb3 226 (by decide +kernel) (by decide +kernel)
theorem tm_3_227 : Cond.methodLink RL 78 yX3_waiter ∈ tbg := tb3 227 (by decide +kernel) (by decide +kernel)
theorem tm_3_228 : Cond.instanceMethod yX3_waiter ∈ tbg := tb3 228 (by decide +kernel) (by decide +kernel)
theorem tm_3_229 : Cond.selects RX3 yX3_waiter yX3_waiter ∈ tbg := tb3 229 (by decide +kernel) (by decide +kernel)
theorem tm_3_230 : Cond.code yX3_waiter cX3_waiter 2 (some .int) ∈ tbg := tb3 230 (by decide +kernel) (by decide +kernel)
theorem tm_3_232 : Cond.methodLink RX3 198 yX1_waiterAt ∈ tbg := tb3 232 (by decide +kernel) (by decide +kernel)
theorem tm_3_233 : Cond.instanceMethod yX1_waiterAt ∈ tbg := tb3 233 (by decide +kernel) (by decide +kernel)
theorem tm_3_234 : Cond.selects RX1 yX1_waiterAt yX1_waiterAt ∈ tbg := tb3 234 (by decide +kernel) (by decide +kernel)
theorem tm_3_235 : Cond.code yX1_waiterAt cX1_waiterAt 3 (some .int) ∈ tbg := tb3 235 (by decide +kernel) (by decide +kernel)
theorem tm_4_0 : Cond.methodLink RL 213 yL_show ∈ tbg := tb4 0 (by decide +kernel) (by decide +kernel)
theorem tm_4_1 : Cond.static yL_show ∈ tbg := tb4 1 (by decide +kernel) (by decide +kernel)
theorem tm_4_2 : Cond.codeWith yL_show cL_show 3 (some .int) [(0, 5, 6, 43)] ∈ tbg := tb4 2 (by decide +kernel) (by decide +kernel)
theorem tm_4_3 : Cond.methodLink RL 132 yX3_show ∈ tbg := tb4 3 (by decide +kernel) (by decide +kernel)
theorem tm_4_4 : Cond.instanceMethod yX3_show ∈ tbg := tb4 4 (by decide +kernel) (by decide +kernel)
theorem tm_4_5 : Cond.selects RX3 yX3_show yX3_show ∈ tbg := tb4 5 (by decide +kernel) (by decide +kernel)
theorem tm_4_6 : Cond.code yX3_show cX3_show 4 (some .int) ∈ tbg := tb4 6 (by decide +kernel) (by decide +kernel)
theorem tm_4_7 : Cond.methodLink RX3 249 yX1_holderAt ∈ tbg := tb4 7 (by decide +kernel) (by decide +kernel)
theorem tm_4_8 : Cond.instanceMethod yX1_holderAt ∈ tbg := tb4 8 (by decide +kernel) (by decide +kernel)
theorem tm_4_9 : Cond.selects RX1 yX1_holderAt yX1_holderAt ∈ tbg := tb4 9 (by decide +kernel) (by decide +kernel)
theorem tm_4_10 : Cond.code yX1_holderAt cX1_holderAt 3 (some .int) ∈ tbg := tb4 10 (by decide +kernel) (by decide +kernel)
theorem tm_4_11 : Cond.methodLink RL 215 yL_holder ∈ tbg := tb4 11 (by decide +kernel) (by decide +kernel)
theorem tm_4_12 : Cond.static yL_holder ∈ tbg := tb4 12 (by decide +kernel) (by decide +kernel)
theorem tm_4_13 : Cond.codeWith yL_holder cL_holder 4 (some .int) [(0, 6, 7, 56), (0, 6, 11, 43)] ∈ tbg := tb4 13 (by decide +kernel) (by decide +kernel)
theorem tm_4_14 : Cond.methodLink RL 111 yX3_holder ∈ tbg := tb4 14 (by decide +kernel) (by decide +kernel)
theorem tm_4_15 : Cond.instanceMethod yX3_holder ∈ tbg := tb4 15 (by decide +kernel) (by decide +kernel)
theorem tm_4_16 : Cond.selects RX3 yX3_holder yX3_holder ∈ tbg := tb4 16 (by decide +kernel) (by decide +kernel)
theorem tm_4_17 : Cond.code yX3_holder cX3_holder 3 (some .int) ∈ tbg := tb4 17 (by decide +kernel) (by decide +kernel)
theorem tm_4_18 : Cond.methodLink RL 217 yX3_shown ∈ tbg := tb4 18 (by decide +kernel) (by decide +kernel)
theorem tm_4_19 : Cond.instanceMethod yX3_shown ∈ tbg := tb4 19 (by decide +kernel) (by decide +kernel)
theorem tm_4_20 : Cond.selects RX3 yX3_shown yX3_shown ∈ tbg := tb4 20 (by decide +kernel) (by decide +kernel)
theorem tm_4_21 : Cond.code yX3_shown cX3_shown 2 (some .int) ∈ tbg := tb4 21 (by decide +kernel) (by decide +kernel)
theorem tm_4_36 : Cond.methodLink RL 126 yX3_waitsFor ∈ tbg := tb4 36 (by decide +kernel) (by decide +kernel)
theorem tm_4_37 : Cond.instanceMethod yX3_waitsFor ∈ tbg := tb4 37 (by decide +kernel) (by decide +kernel)
theorem tm_4_38 : Cond.selects RX3 yX3_waitsFor yX3_waitsFor ∈ tbg := tb4 38 (by decide +kernel) (by decide +kernel)
theorem tm_4_39 : Cond.code yX3_waitsFor cX3_waitsFor 4 (some .int) ∈ tbg := tb4 39 (by decide +kernel) (by decide +kernel)
theorem tm_4_56 : Cond.methodLink RX3 201 yX1_dropEnded ∈ tbg := tb4 56 (by decide +kernel) (by decide +kernel)
theorem tm_4_57 : Cond.instanceMethod yX1_dropEnded ∈ tbg := tb4 57 (by decide +kernel) (by decide +kernel)
theorem tm_4_58 : Cond.selects RX1 yX1_dropEnded yX1_dropEnded ∈ tbg := tb4 58 (by decide +kernel) (by decide +kernel)
theorem tm_4_59 : Cond.code yX1_dropEnded cX1_dropEnded 3 (some .int) ∈ tbg := tb4 59 (by decide +kernel) (by decide +kernel)
end
section
/-! MORE ROWS OVER THE STATE: constant places, Math, statics, copies -/
abbrev ix (x : Int32) : Nat := x.toNatClampNeg
def zabs (x : Int32) : Int32 := if 0 ≤ x then x else 0 - x
def zmax (x y : Int32) : Int32 := if x < y then y else x
def zmin (x y : Int32) : Int32 := if y < x then y else x
def zushr (x y : Int32) : Int32 := (x.toUInt32 >>> (y.toUInt32 &&& Int32.toUInt32 31)).toInt32
/-- an int array that is handed over -/
def isIA (G : zG) (c N : Nat) : Prop := c < gn G ∧ ∀ w : V3, ent G w c = .inl (gcA G 0, N, .inl (w c))
/-- n places of cell a over those of cell b -/
def cp2 (v : V3) (a b n : Nat) : V3 := fun c => if c = b then (fun j => if j < n then v a j else v b j) else v c
def cpT (v : V3) (b : Nat) (f : Nat → Int32) (n : Nat) : V3 := fun c => if c = b then (fun j => if j < n then f j else v b j) else v c
theorem z_nb {x : Int32} (h : x = 0 ∨ x = 1) : narrow .boolean (.int x) = .int x := by rcases h with h | h <;> subst h <;> rfl
theorem z_fb {x : Int32} (h : x = 0 ∨ x = 1) : fits .boolean (.int x) = true := by rcases h with h | h <;> subst h <;> rfl
section ZR2
variable {p : Program} {l : Launch} {e : Env} {R : Room} {s : State} {m : MethodId} {args : Array Value} {below : List Frame} {meth : Method} {c : Code} {H : Heap} {locs : List Loc} {cells slots : Nat} {Q : State → Prop}
variable {cc : ByteArray} {pc nL : Nat} {ls : Array Slot} {rest : List Value} {G : zG} {v : V3} {own : String} {ret : Option FieldType}
theorem cx_g (C0 : Cx G own cc nL ret p s m args meth c) : 116 ≤ gn G := C0.2.2.2.2.2.2.2.2
theorem cx_lt (C0 : Cx G own cc nL ret p s m args meth c) {k : Nat} (h : k < 116) : k < gn G := Nat.lt_of_lt_of_le h (cx_g C0)
theorem cx_own (C0 : Cx G own cc nL ret p s m args meth c) : s.vm.findClass own = some m.cls := C0.2.2.2.2.2.1
theorem cx_w (C0 : Cx G own cc nL ret p s m args meth c) {w : Cond} (h : w ∈ tbg) : w.before args s = true := C0.2.2.2.2.2.2.1 w h
theorem cx_K (C0 : Cx G own cc nL ret p s m args meth c) : KW G s := C0.2.2.2.2.2.2.2.1
theorem z_ialdk (C0 : Cx G own cc nL ret p s m args meth c) (Z : Zs G s v H locs) {c0 N j : Nat} {f : Nat → Int32} (hc0 : c0 < gn G) (he : ent G v c0 = .inl (gcA G 0, N, .inl f)) {i : Int32} (hin : vp_in i N) (hj : ix i = j) (hdg : decode cc pc = .ok (.iaload, 1))
    (kk : W p l e R s m args below meth c H locs cells slots Q (F0 m (pc + 1) ls (.int (f j) :: rest))) : W p l e R s m args below meth c H locs cells slots Q (F0 m pc ls (.int i :: .ref (gad G c0) :: rest)) := by
  subst hj
  exact z_iald C0 Z hc0 he hin hdg kk
theorem z_baldk (C0 : Cx G own cc nL ret p s m args meth c) (Z : Zs G s v H locs) {c0 N j : Nat} {f : Nat → Int32} (hc0 : c0 < gn G) (he : ent G v c0 = .inl (gcA G 1, N, .inl f)) {i : Int32} (hin : vp_in i N) (hj : ix i = j) (hdg : decode cc pc = .ok (.baload, 1))
    (kk : W p l e R s m args below meth c H locs cells slots Q (F0 m (pc + 1) ls (.int (f j) :: rest))) : W p l e R s m args below meth c H locs cells slots Q (F0 m pc ls (.int i :: .ref (gad G c0) :: rest)) := by
  subst hj
  exact z_bald C0 Z hc0 he hin hdg kk
theorem z_iastk (C0 : Cx G own cc nL ret p s m args meth c) (Z : Zs G s v H locs) {c0 N j : Nat} (hc0 : c0 < gn G) (he : ∀ w : V3, ent G w c0 = .inl (gcA G 0, N, .inl (w c0))) {i x : Int32} (hin : vp_in i N) (hj : ix i = j) (hdg : decode cc pc = .ok (.iastore, 1))
    (kk : ∀ (H1 : Heap) (locs1 : List Loc), Zs G s (up2 v c0 j x) H1 locs1 → W p l e R s m args below meth c H1 locs1 cells slots Q (F0 m (pc + 1) ls rest)) : W p l e R s m args below meth c H locs cells slots Q (F0 m pc ls (.int x :: .int i :: .ref (gad G c0) :: rest)) := by
  subst hj
  exact z_iast C0 Z hc0 he hin hdg kk
theorem z_abs (C0 : Cx G own cc nL ret p s m args meth c) (hl : ls.size = nL) {index : Nat} (hlink : Cond.methodLink own index Lib.Math.abs.name ∈ tbg) (hf : 1 ≤ R.frames) (hlo : (rest.map fun v => v.category).sum + 13 ≤ R.locals) (hc : cells ≤ R.cells) (hs : slots ≤ R.slots) {x : Int32} (hdg : decode cc pc = .ok (.invokestatic index, 3))
    (kk : W p l e R s m args below meth c H locs cells slots Q (F0 m (pc + 3) ls (.int (zabs x) :: rest))) : W p l e R s m args below meth c H locs cells slots Q (F0 m pc ls (.int x :: rest)) :=
  va_mabs C0.1 C0.2.1 (C0.2.2.1.trans hl.symm) (cx_own C0) (cx_w C0 hlink) (cx_w C0 tm_abs_s) (cx_w C0 tm_math) (cx_w C0 tm_abs_c) hf hlo hc hs hdg kk
theorem z_max (C0 : Cx G own cc nL ret p s m args meth c) (hl : ls.size = nL) {index : Nat} (hlink : Cond.methodLink own index Lib.Math.max.name ∈ tbg) (hf : 1 ≤ R.frames) (hlo : (rest.map fun v => v.category).sum + 13 ≤ R.locals) (hc : cells ≤ R.cells) (hs : slots ≤ R.slots) {x y : Int32} (hdg : decode cc pc = .ok (.invokestatic index, 3))
    (kk : W p l e R s m args below meth c H locs cells slots Q (F0 m (pc + 3) ls (.int (zmax x y) :: rest))) : W p l e R s m args below meth c H locs cells slots Q (F0 m pc ls (.int y :: .int x :: rest)) :=
  va_mmax C0.1 C0.2.1 (C0.2.2.1.trans hl.symm) (cx_own C0) (cx_w C0 hlink) (cx_w C0 tm_max_s) (cx_w C0 tm_math) (cx_w C0 tm_max_c) hf hlo hc hs hdg kk
theorem z_min (C0 : Cx G own cc nL ret p s m args meth c) (hl : ls.size = nL) {index : Nat} (hlink : Cond.methodLink own index Lib.Math.min.name ∈ tbg) (hf : 1 ≤ R.frames) (hlo : (rest.map fun v => v.category).sum + 13 ≤ R.locals) (hc : cells ≤ R.cells) (hs : slots ≤ R.slots) {x y : Int32} (hdg : decode cc pc = .ok (.invokestatic index, 3))
    (kk : W p l e R s m args below meth c H locs cells slots Q (F0 m (pc + 3) ls (.int (zmin x y) :: rest))) : W p l e R s m args below meth c H locs cells slots Q (F0 m pc ls (.int y :: .int x :: rest)) :=
  va_mmin C0.1 C0.2.1 (C0.2.2.1.trans hl.symm) (cx_own C0) (cx_w C0 hlink) (cx_w C0 tm_min_s) (cx_w C0 tm_math) (cx_w C0 tm_min_c) hf hlo hc hs hdg kk
end ZR2
end
section
theorem in_X0 : ∀ w ∈ u_ws RX0 TX0 2, w ∈ tbg := by decide +kernel
theorem in_X1 : ∀ w ∈ u_ws RX1 TX1 11, w ∈ tbg := by decide +kernel
theorem in_X2 : ∀ w ∈ u_ws RX2 TX2 9, w ∈ tbg := by decide +kernel
theorem in_X3 : ∀ w ∈ u_ws RX3 TX3 14, w ∈ tbg := by decide +kernel
theorem in_L : ∀ w ∈ u_ws RL TL 5, w ∈ tbg := by decide +kernel
theorem in_0_4 : vp_in 0 4 := by unfold vp_in; decide
theorem in_0_5 : vp_in 0 5 := by unfold vp_in; decide
theorem in_0_8 : vp_in 0 8 := by unfold vp_in; decide
theorem in_0_10 : vp_in 0 10 := by unfold vp_in; decide
theorem in_1_4 : vp_in 1 4 := by unfold vp_in; decide
theorem in_1_5 : vp_in 1 5 := by unfold vp_in; decide
theorem in_1_8 : vp_in 1 8 := by unfold vp_in; decide
theorem in_1_10 : vp_in 1 10 := by unfold vp_in; decide
theorem in_2_4 : vp_in 2 4 := by unfold vp_in; decide
theorem in_2_5 : vp_in 2 5 := by unfold vp_in; decide
theorem in_2_8 : vp_in 2 8 := by unfold vp_in; decide
theorem in_2_10 : vp_in 2 10 := by unfold vp_in; decide
theorem in_3_4 : vp_in 3 4 := by unfold vp_in; decide
theorem in_3_5 : vp_in 3 5 := by unfold vp_in; decide
theorem in_3_8 : vp_in 3 8 := by unfold vp_in; decide
theorem in_3_10 : vp_in 3 10 := by unfold vp_in; decide
theorem in_4_8 : vp_in 4 8 := by unfold vp_in; decide
theorem in_4_10 : vp_in 4 10 := by unfold vp_in; decide
theorem in_5_8 : vp_in 5 8 := by unfold vp_in; decide
theorem in_5_10 : vp_in 5 10 := by unfold vp_in; decide
theorem in_6_8 : vp_in 6 8 := by unfold vp_in; decide
theorem in_6_10 : vp_in 6 10 := by unfold vp_in; decide
theorem in_7_8 : vp_in 7 8 := by unfold vp_in; decide
theorem in_7_10 : vp_in 7 10 := by unfold vp_in; decide
theorem in_8_10 : vp_in 8 10 := by unfold vp_in; decide
theorem in_9_10 : vp_in 9 10 := by unfold vp_in; decide
theorem nc_0 : ix 0 = 0 := by decide
theorem nc_1 : ix 1 = 1 := by decide
theorem nc_2 : ix 2 = 2 := by decide
theorem nc_3 : ix 3 = 3 := by decide
theorem nc_4 : ix 4 = 4 := by decide
theorem nc_5 : ix 5 = 5 := by decide
theorem nc_6 : ix 6 = 6 := by decide
theorem nc_7 : ix 7 = 7 := by decide
theorem nc_8 : ix 8 = 8 := by decide
theorem nc_9 : ix 9 = 9 := by decide
theorem p_X3_1 {G : zG} {v : V3} {x : Int32} : ent G (up2 v 0 1 x) 0 = .inr (3, [.ref (gad G 1), .int x, .int (v 0 2), .int (v 0 3), .ref (gad G 8), .ref (gad G 62), .ref (gad G 3), .ref (gad G 4), .ref (gad G 6), .int (v 0 9), .int (v 0 10), .int (v 0 11), .ref (gad G 2), .int (v 0 13)]) := rfl
theorem p_X3_2 {G : zG} {v : V3} {x : Int32} : ent G (up2 v 0 2 x) 0 = .inr (3, [.ref (gad G 1), .int (v 0 1), .int x, .int (v 0 3), .ref (gad G 8), .ref (gad G 62), .ref (gad G 3), .ref (gad G 4), .ref (gad G 6), .int (v 0 9), .int (v 0 10), .int (v 0 11), .ref (gad G 2), .int (v 0 13)]) := rfl
theorem p_X3_3 {G : zG} {v : V3} {x : Int32} : ent G (up2 v 0 3 x) 0 = .inr (3, [.ref (gad G 1), .int (v 0 1), .int (v 0 2), .int x, .ref (gad G 8), .ref (gad G 62), .ref (gad G 3), .ref (gad G 4), .ref (gad G 6), .int (v 0 9), .int (v 0 10), .int (v 0 11), .ref (gad G 2), .int (v 0 13)]) := rfl
theorem p_X3_9 {G : zG} {v : V3} {x : Int32} : ent G (up2 v 0 9 x) 0 = .inr (3, [.ref (gad G 1), .int (v 0 1), .int (v 0 2), .int (v 0 3), .ref (gad G 8), .ref (gad G 62), .ref (gad G 3), .ref (gad G 4), .ref (gad G 6), .int x, .int (v 0 10), .int (v 0 11), .ref (gad G 2), .int (v 0 13)]) := rfl
theorem p_X3_10 {G : zG} {v : V3} {x : Int32} : ent G (up2 v 0 10 x) 0 = .inr (3, [.ref (gad G 1), .int (v 0 1), .int (v 0 2), .int (v 0 3), .ref (gad G 8), .ref (gad G 62), .ref (gad G 3), .ref (gad G 4), .ref (gad G 6), .int (v 0 9), .int x, .int (v 0 11), .ref (gad G 2), .int (v 0 13)]) := rfl
theorem p_X3_11 {G : zG} {v : V3} {x : Int32} : ent G (up2 v 0 11 x) 0 = .inr (3, [.ref (gad G 1), .int (v 0 1), .int (v 0 2), .int (v 0 3), .ref (gad G 8), .ref (gad G 62), .ref (gad G 3), .ref (gad G 4), .ref (gad G 6), .int (v 0 9), .int (v 0 10), .int x, .ref (gad G 2), .int (v 0 13)]) := rfl
theorem p_X3_13 {G : zG} {v : V3} {x : Int32} : ent G (up2 v 0 13 x) 0 = .inr (3, [.ref (gad G 1), .int (v 0 1), .int (v 0 2), .int (v 0 3), .ref (gad G 8), .ref (gad G 62), .ref (gad G 3), .ref (gad G 4), .ref (gad G 6), .int (v 0 9), .int (v 0 10), .int (v 0 11), .ref (gad G 2), .int x]) := rfl
theorem p_X2_2 {G : zG} {v : V3} {x : Int32} : ent G (up2 v 6 2 x) 6 = .inr (2, [.ref (gad G 1), .ref (gad G 62), .int x, .int (v 6 3), .int (v 6 4), .int (v 6 5), .int (v 6 6), .int (v 6 7), .int (v 6 8)]) := rfl
theorem p_X2_3 {G : zG} {v : V3} {x : Int32} : ent G (up2 v 6 3 x) 6 = .inr (2, [.ref (gad G 1), .ref (gad G 62), .int (v 6 2), .int x, .int (v 6 4), .int (v 6 5), .int (v 6 6), .int (v 6 7), .int (v 6 8)]) := rfl
theorem p_X2_4 {G : zG} {v : V3} {x : Int32} : ent G (up2 v 6 4 x) 6 = .inr (2, [.ref (gad G 1), .ref (gad G 62), .int (v 6 2), .int (v 6 3), .int x, .int (v 6 5), .int (v 6 6), .int (v 6 7), .int (v 6 8)]) := rfl
theorem p_X2_5 {G : zG} {v : V3} {x : Int32} : ent G (up2 v 6 5 x) 6 = .inr (2, [.ref (gad G 1), .ref (gad G 62), .int (v 6 2), .int (v 6 3), .int (v 6 4), .int x, .int (v 6 6), .int (v 6 7), .int (v 6 8)]) := rfl
theorem p_X2_6 {G : zG} {v : V3} {x : Int32} : ent G (up2 v 6 6 x) 6 = .inr (2, [.ref (gad G 1), .ref (gad G 62), .int (v 6 2), .int (v 6 3), .int (v 6 4), .int (v 6 5), .int x, .int (v 6 7), .int (v 6 8)]) := rfl
theorem p_X2_7 {G : zG} {v : V3} {x : Int32} : ent G (up2 v 6 7 x) 6 = .inr (2, [.ref (gad G 1), .ref (gad G 62), .int (v 6 2), .int (v 6 3), .int (v 6 4), .int (v 6 5), .int (v 6 6), .int x, .int (v 6 8)]) := rfl
theorem p_X2_8 {G : zG} {v : V3} {x : Int32} : ent G (up2 v 6 8 x) 6 = .inr (2, [.ref (gad G 1), .ref (gad G 62), .int (v 6 2), .int (v 6 3), .int (v 6 4), .int (v 6 5), .int (v 6 6), .int (v 6 7), .int x]) := rfl
theorem p_L_2 {G : zG} {v : V3} {x : Int32} : ent G (up2 v 7 2 x) 7 = .inr (4, [.ref (gad G 0), (if v 7 1 = 0 then .null else .ref (gk G 3)), .int x, .int (v 7 3), .int (v 7 4)]) := rfl
theorem p_L_3 {G : zG} {v : V3} {x : Int32} : ent G (up2 v 7 3 x) 7 = .inr (4, [.ref (gad G 0), (if v 7 1 = 0 then .null else .ref (gk G 3)), .int (v 7 2), .int x, .int (v 7 4)]) := rfl
theorem p_L_4 {G : zG} {v : V3} {x : Int32} : ent G (up2 v 7 4 x) 7 = .inr (4, [.ref (gad G 0), (if v 7 1 = 0 then .null else .ref (gk G 3)), .int (v 7 2), .int (v 7 3), .int x]) := rfl
theorem p_X1_5 {G : zG} {v : V3} {b : Nat} {x : Int32} (h : isL G b) : ent G (up2 v b 5 x) b = .inr (1, [.ref (gad G (b + 1)), .ref (gad G (b + 2)), .ref (gad G (b + 3)), .ref (gad G (b + 4)), .ref (gad G (b + 5)), .int x, .int (v b 6), .int (v b 7), .int (v b 8), .int (v b 9), .int (v b 10)]) := by rw [ent_L h]; simp [up2_row, upd]
theorem p_X1_6 {G : zG} {v : V3} {b : Nat} {x : Int32} (h : isL G b) : ent G (up2 v b 6 x) b = .inr (1, [.ref (gad G (b + 1)), .ref (gad G (b + 2)), .ref (gad G (b + 3)), .ref (gad G (b + 4)), .ref (gad G (b + 5)), .int (v b 5), .int x, .int (v b 7), .int (v b 8), .int (v b 9), .int (v b 10)]) := by rw [ent_L h]; simp [up2_row, upd]
theorem p_X1_7 {G : zG} {v : V3} {b : Nat} {x : Int32} (h : isL G b) : ent G (up2 v b 7 x) b = .inr (1, [.ref (gad G (b + 1)), .ref (gad G (b + 2)), .ref (gad G (b + 3)), .ref (gad G (b + 4)), .ref (gad G (b + 5)), .int (v b 5), .int (v b 6), .int x, .int (v b 8), .int (v b 9), .int (v b 10)]) := by rw [ent_L h]; simp [up2_row, upd]
theorem p_X1_8 {G : zG} {v : V3} {b : Nat} {x : Int32} (h : isL G b) : ent G (up2 v b 8 x) b = .inr (1, [.ref (gad G (b + 1)), .ref (gad G (b + 2)), .ref (gad G (b + 3)), .ref (gad G (b + 4)), .ref (gad G (b + 5)), .int (v b 5), .int (v b 6), .int (v b 7), .int x, .int (v b 9), .int (v b 10)]) := by rw [ent_L h]; simp [up2_row, upd]
theorem p_X1_9 {G : zG} {v : V3} {b : Nat} {x : Int32} (h : isL G b) : ent G (up2 v b 9 x) b = .inr (1, [.ref (gad G (b + 1)), .ref (gad G (b + 2)), .ref (gad G (b + 3)), .ref (gad G (b + 4)), .ref (gad G (b + 5)), .int (v b 5), .int (v b 6), .int (v b 7), .int (v b 8), .int x, .int (v b 10)]) := by rw [ent_L h]; simp [up2_row, upd]
theorem p_X1_10 {G : zG} {v : V3} {b : Nat} {x : Int32} (h : isL G b) : ent G (up2 v b 10 x) b = .inr (1, [.ref (gad G (b + 1)), .ref (gad G (b + 2)), .ref (gad G (b + 3)), .ref (gad G (b + 4)), .ref (gad G (b + 5)), .int (v b 5), .int (v b 6), .int (v b 7), .int (v b 8), .int (v b 9), .int x]) := by rw [ent_L h]; simp [up2_row, upd]
theorem eL_1 {G : zG} {v : V3} (h : ¬ v 7 1 = 0) : ent G v 7 = .inr (4, [.ref (gad G 0), .ref (gk G 3), .int (v 7 2), .int (v 7 3), .int (v 7 4)]) := by
  show Sum.inr (4, [Value.ref (gad G 0), (if v 7 1 = 0 then .null else .ref (gk G 3)), .int (v 7 2), .int (v 7 3), .int (v 7 4)]) = _
  rw [if_neg h]
theorem gv_L_addOwner {own : String} {idx : Nat} (h : Cond.methodLink own idx yL_addOwner ∈ tbg) : GoodIn tbg (va_wsS own idx yL_addOwner (.codeWith yL_addOwner cL_addOwner 3 (some .int) [(0, 5, 6, 43), (0, 5, 10, 45)] :: tbg)) := z_goodSW h tm_1_220 tm_1_0 tm_1_221
theorem ds_L_addOwner : dsc yL_addOwner 2 := ⟨by decide +kernel, by decide +kernel, by decide +kernel⟩
theorem gv_L_ahead {own : String} {idx : Nat} (h : Cond.methodLink own idx yL_ahead ∈ tbg) : GoodIn tbg (va_wsS own idx yL_ahead (.codeWith yL_ahead cL_ahead 4 (some .int) [(0, 6, 7, 43)] :: tbg)) := z_goodSW h tm_3_169 tm_1_0 tm_3_170
theorem ds_L_ahead : dsc yL_ahead 3 := ⟨by decide +kernel, by decide +kernel, by decide +kernel⟩
theorem gv_L_arrive {own : String} {idx : Nat} (h : Cond.methodLink own idx yL_arrive ∈ tbg) : GoodIn tbg (va_wsS own idx yL_arrive (.codeWith yL_arrive cL_arrive 3 (some .int) [(0, 5, 6, 56)] :: tbg)) := z_goodSW h tm_3_37 tm_1_0 tm_3_38
theorem ds_L_arrive : dsc yL_arrive 2 := ⟨by decide +kernel, by decide +kernel, by decide +kernel⟩
theorem gv_L_at {own : String} {idx : Nat} (h : Cond.methodLink own idx yL_at ∈ tbg) : GoodIn tbg (va_wsS own idx yL_at (.code yL_at cL_at 3 (some .int) :: tbg)) := z_goodS h tm_1_212 tm_1_0 tm_1_213
theorem ds_L_at : dsc yL_at 2 := ⟨by decide +kernel, by decide +kernel, by decide +kernel⟩
theorem gv_L_best {own : String} {idx : Nat} (h : Cond.methodLink own idx yL_best ∈ tbg) : GoodIn tbg (va_wsS own idx yL_best (.codeWith yL_best cL_best 3 (some .int) [(0, 5, 6, 43)] :: tbg)) := z_goodSW h tm_3_96 tm_1_0 tm_3_97
theorem ds_L_best : dsc yL_best 2 := ⟨by decide +kernel, by decide +kernel, by decide +kernel⟩
theorem gv_L_book {own : String} {idx : Nat} (h : Cond.methodLink own idx yL_book ∈ tbg) : GoodIn tbg (va_wsS own idx yL_book (.codeWith yL_book cL_book 6 (some .int) [(0, 9, 10, 56), (0, 9, 15, 43), (0, 9, 20, 45)] :: tbg)) := z_goodSW h tm_2_203 tm_1_0 tm_2_204
theorem ds_L_book : dsc yL_book 5 := ⟨by decide +kernel, by decide +kernel, by decide +kernel⟩
theorem gv_L_booking {own : String} {idx : Nat} (h : Cond.methodLink own idx yL_booking ∈ tbg) : GoodIn tbg (va_wsS own idx yL_booking (.codeWith yL_booking cL_booking 4 (some .int) [(0, 6, 7, 56), (0, 6, 11, 43)] :: tbg)) := z_goodSW h tm_2_239 tm_1_0 tm_3_0
theorem ds_L_booking : dsc yL_booking 3 := ⟨by decide +kernel, by decide +kernel, by decide +kernel⟩
theorem gv_L_buy {own : String} {idx : Nat} (h : Cond.methodLink own idx yL_buy ∈ tbg) : GoodIn tbg (va_wsS own idx yL_buy (.codeWith yL_buy cL_buy 4 (some .int) [(0, 6, 7, 56)] :: tbg)) := z_goodSW h tm_3_138 tm_1_0 tm_3_139
theorem ds_L_buy : dsc yL_buy 3 := ⟨by decide +kernel, by decide +kernel, by decide +kernel⟩
theorem gv_L_cancel {own : String} {idx : Nat} (h : Cond.methodLink own idx yL_cancel ∈ tbg) : GoodIn tbg (va_wsS own idx yL_cancel (.codeWith yL_cancel cL_cancel 3 (some .int) [(0, 5, 6, 56)] :: tbg)) := z_goodSW h tm_3_48 tm_1_0 tm_3_49
theorem ds_L_cancel : dsc yL_cancel 2 := ⟨by decide +kernel, by decide +kernel, by decide +kernel⟩
theorem gv_L_count {own : String} {idx : Nat} (h : Cond.methodLink own idx yL_count ∈ tbg) : GoodIn tbg (va_wsS own idx yL_count (.codeWith yL_count cL_count 3 (some .int) [(0, 5, 6, 43)] :: tbg)) := z_goodSW h tm_2_94 tm_1_0 tm_2_95
theorem ds_L_count : dsc yL_count 2 := ⟨by decide +kernel, by decide +kernel, by decide +kernel⟩
theorem gv_L_draft {own : String} {idx : Nat} (h : Cond.methodLink own idx yL_draft ∈ tbg) : GoodIn tbg (va_wsS own idx yL_draft (.codeWith yL_draft cL_draft 5 (some .int) [(0, 8, 9, 56), (0, 8, 14, 43)] :: tbg)) := z_goodSW h tm_2_114 tm_1_0 tm_2_115
theorem ds_L_draft : dsc yL_draft 4 := ⟨by decide +kernel, by decide +kernel, by decide +kernel⟩
theorem gv_L_draw {own : String} {idx : Nat} (h : Cond.methodLink own idx yL_draw ∈ tbg) : GoodIn tbg (wsV own idx RL yL_draw (.code yL_draw cL_draw 3 (some .int) :: tbg)) := z_goodV h tm_1_206 (tb0 (by decide +kernel) (by decide +kernel)) tm_1_0 tm_1_207
theorem ds_L_draw : dsc yL_draw 1 := ⟨by decide +kernel, by decide +kernel, by decide +kernel⟩
theorem gv_L_evict {own : String} {idx : Nat} (h : Cond.methodLink own idx yL_evict ∈ tbg) : GoodIn tbg (va_wsS own idx yL_evict (.codeWith yL_evict cL_evict 3 (some .int) [(0, 5, 6, 56)] :: tbg)) := z_goodSW h tm_3_66 tm_1_0 tm_3_67
theorem ds_L_evict : dsc yL_evict 2 := ⟨by decide +kernel, by decide +kernel, by decide +kernel⟩
theorem gv_L_extend {own : String} {idx : Nat} (h : Cond.methodLink own idx yL_extend ∈ tbg) : GoodIn tbg (va_wsS own idx yL_extend (.codeWith yL_extend cL_extend 4 (some .int) [(0, 6, 7, 56), (0, 6, 11, 43)] :: tbg)) := z_goodSW h tm_3_55 tm_1_0 tm_3_56
theorem ds_L_extend : dsc yL_extend 3 := ⟨by decide +kernel, by decide +kernel, by decide +kernel⟩
theorem gv_L_gain {own : String} {idx : Nat} (h : Cond.methodLink own idx yL_gain ∈ tbg) : GoodIn tbg (va_wsS own idx yL_gain (.codeWith yL_gain cL_gain 4 (some .int) [(0, 6, 7, 56)] :: tbg)) := z_goodSW h tm_3_74 tm_1_0 tm_3_75
theorem ds_L_gain : dsc yL_gain 3 := ⟨by decide +kernel, by decide +kernel, by decide +kernel⟩
theorem gv_L_holder {own : String} {idx : Nat} (h : Cond.methodLink own idx yL_holder ∈ tbg) : GoodIn tbg (va_wsS own idx yL_holder (.codeWith yL_holder cL_holder 4 (some .int) [(0, 6, 7, 56), (0, 6, 11, 43)] :: tbg)) := z_goodSW h tm_4_12 tm_1_0 tm_4_13
theorem ds_L_holder : dsc yL_holder 3 := ⟨by decide +kernel, by decide +kernel, by decide +kernel⟩
theorem gv_L_leave {own : String} {idx : Nat} (h : Cond.methodLink own idx yL_leave ∈ tbg) : GoodIn tbg (va_wsS own idx yL_leave (.codeWith yL_leave cL_leave 3 (some .int) [(0, 5, 6, 56)] :: tbg)) := z_goodSW h tm_3_22 tm_1_0 tm_3_23
theorem ds_L_leave : dsc yL_leave 2 := ⟨by decide +kernel, by decide +kernel, by decide +kernel⟩
theorem gv_L_nobodyCould {own : String} {idx : Nat} (h : Cond.methodLink own idx yL_nobodyCould ∈ tbg) : GoodIn tbg (wsV own idx RL yL_nobodyCould (.code yL_nobodyCould cL_nobodyCould 2 (some .boolean) :: tbg)) := z_goodV h tm_3_45 (tb0 (by decide +kernel) (by decide +kernel)) tm_1_0 tm_3_46
theorem ds_L_nobodyCould : dsc yL_nobodyCould 0 := ⟨by decide +kernel, by decide +kernel, by decide +kernel⟩
theorem gv_L_owner {own : String} {idx : Nat} (h : Cond.methodLink own idx yL_owner ∈ tbg) : GoodIn tbg (va_wsS own idx yL_owner (.codeWith yL_owner cL_owner 4 (some .int) [(0, 6, 7, 56), (0, 6, 11, 43)] :: tbg)) := z_goodSW h tm_2_148 tm_1_0 tm_2_149
theorem ds_L_owner : dsc yL_owner 3 := ⟨by decide +kernel, by decide +kernel, by decide +kernel⟩
theorem gv_L_pass {own : String} {idx : Nat} (h : Cond.methodLink own idx yL_pass ∈ tbg) : GoodIn tbg (va_wsS own idx yL_pass (.codeWith yL_pass cL_pass 3 (some .int) [(0, 5, 6, 43), (0, 5, 10, 45)] :: tbg)) := z_goodSW h tm_3_204 tm_1_0 tm_3_205
theorem ds_L_pass : dsc yL_pass 2 := ⟨by decide +kernel, by decide +kernel, by decide +kernel⟩
theorem gv_L_set {own : String} {idx : Nat} (h : Cond.methodLink own idx yL_set ∈ tbg) : GoodIn tbg (va_wsS own idx yL_set (.codeWith yL_set cL_set 4 (some .int) [(0, 6, 7, 43)] :: tbg)) := z_goodSW h tm_2_79 tm_1_0 tm_2_80
theorem ds_L_set : dsc yL_set 3 := ⟨by decide +kernel, by decide +kernel, by decide +kernel⟩
theorem gv_L_show {own : String} {idx : Nat} (h : Cond.methodLink own idx yL_show ∈ tbg) : GoodIn tbg (va_wsS own idx yL_show (.codeWith yL_show cL_show 3 (some .int) [(0, 5, 6, 43)] :: tbg)) := z_goodSW h tm_4_1 tm_1_0 tm_4_2
theorem ds_L_show : dsc yL_show 2 := ⟨by decide +kernel, by decide +kernel, by decide +kernel⟩
theorem gv_L_swap {own : String} {idx : Nat} (h : Cond.methodLink own idx yL_swap ∈ tbg) : GoodIn tbg (va_wsS own idx yL_swap (.codeWith yL_swap cL_swap 4 (some .int) [(0, 6, 7, 56), (0, 6, 11, 43)] :: tbg)) := z_goodSW h tm_3_122 tm_1_0 tm_3_123
theorem ds_L_swap : dsc yL_swap 3 := ⟨by decide +kernel, by decide +kernel, by decide +kernel⟩
theorem gv_L_trust {own : String} {idx : Nat} (h : Cond.methodLink own idx yL_trust ∈ tbg) : GoodIn tbg (va_wsS own idx yL_trust (.codeWith yL_trust cL_trust 3 (some .double) [(0, 5, 6, 56)] :: tbg)) := z_goodSW h tm_3_216 tm_1_0 tm_3_217
theorem ds_L_trust : dsc yL_trust 2 := ⟨by decide +kernel, by decide +kernel, by decide +kernel⟩
theorem gv_L_waiter {own : String} {idx : Nat} (h : Cond.methodLink own idx yL_waiter ∈ tbg) : GoodIn tbg (va_wsS own idx yL_waiter (.codeWith yL_waiter cL_waiter 3 (some .int) [(0, 5, 6, 56)] :: tbg)) := z_goodSW h tm_3_225 tm_1_0 tm_3_226
theorem ds_L_waiter : dsc yL_waiter 2 := ⟨by decide +kernel, by decide +kernel, by decide +kernel⟩
theorem gv_X0_buyoutGain {own : String} {idx : Nat} (h : Cond.methodLink own idx yX0_buyoutGain ∈ tbg) : GoodIn tbg (wsV own idx RX0 yX0_buyoutGain (.code yX0_buyoutGain cX0_buyoutGain 8 (some .int) :: tbg)) := z_goodV h tm_3_87 tm_3_88 tm_1_4 tm_3_89
theorem ds_X0_buyoutGain : dsc yX0_buyoutGain 2 := ⟨by decide +kernel, by decide +kernel, by decide +kernel⟩
theorem gv_X0_countBargain {own : String} {idx : Nat} (h : Cond.methodLink own idx yX0_countBargain ∈ tbg) : GoodIn tbg (wsV own idx RX0 yX0_countBargain (.code yX0_countBargain cX0_countBargain 3 none :: tbg)) := z_goodV h tm_3_135 (tb0 (by decide +kernel) (by decide +kernel)) tm_1_4 tm_3_136
theorem ds_X0_countBargain : dsc yX0_countBargain 2 := ⟨by decide +kernel, by decide +kernel, by decide +kernel⟩
theorem gv_X0_findBest {own : String} {idx : Nat} (h : Cond.methodLink own idx yX0_findBest ∈ tbg) : GoodIn tbg (wsV own idx RX0 yX0_findBest (.code yX0_findBest cX0_findBest 1 (some .boolean) :: tbg)) := z_goodV h tm_3_103 tm_3_104 tm_1_4 tm_3_105
theorem ds_X0_findBest : dsc yX0_findBest 0 := ⟨by decide +kernel, by decide +kernel, by decide +kernel⟩
theorem gv_X0_findBestBuyout {own : String} {idx : Nat} (h : Cond.methodLink own idx yX0_findBestBuyout ∈ tbg) : GoodIn tbg (wsV own idx RX0 yX0_findBestBuyout (.code yX0_findBestBuyout cX0_findBestBuyout 3 none :: tbg)) := z_goodV h tm_3_118 (tb0 (by decide +kernel) (by decide +kernel)) tm_1_4 tm_3_119
theorem ds_X0_findBestBuyout : dsc yX0_findBestBuyout 0 := ⟨by decide +kernel, by decide +kernel, by decide +kernel⟩
theorem gv_X0_findBestSwap {own : String} {idx : Nat} (h : Cond.methodLink own idx yX0_findBestSwap ∈ tbg) : GoodIn tbg (wsV own idx RX0 yX0_findBestSwap (.code yX0_findBestSwap cX0_findBestSwap 3 none :: tbg)) := z_goodV h tm_3_108 (tb0 (by decide +kernel) (by decide +kernel)) tm_1_4 tm_3_109
theorem ds_X0_findBestSwap : dsc yX0_findBestSwap 0 := ⟨by decide +kernel, by decide +kernel, by decide +kernel⟩
theorem gv_X0_keepBetter {own : String} {idx : Nat} (h : Cond.methodLink own idx yX0_keepBetter ∈ tbg) : GoodIn tbg (wsV own idx RX0 yX0_keepBetter (.code yX0_keepBetter cX0_keepBetter 5 none :: tbg)) := z_goodV h tm_3_114 (tb0 (by decide +kernel) (by decide +kernel)) tm_1_4 tm_3_115
theorem ds_X0_keepBetter : dsc yX0_keepBetter 4 := ⟨by decide +kernel, by decide +kernel, by decide +kernel⟩
theorem gv_X0_makeBuyout {own : String} {idx : Nat} (h : Cond.methodLink own idx yX0_makeBuyout ∈ tbg) : GoodIn tbg (wsV own idx RX0 yX0_makeBuyout (.code yX0_makeBuyout cX0_makeBuyout 5 none :: tbg)) := z_goodV h tm_3_145 tm_3_146 tm_1_4 tm_3_147
theorem ds_X0_makeBuyout : dsc yX0_makeBuyout 2 := ⟨by decide +kernel, by decide +kernel, by decide +kernel⟩
theorem gv_X0_makeFound {own : String} {idx : Nat} (h : Cond.methodLink own idx yX0_makeFound ∈ tbg) : GoodIn tbg (wsV own idx RX0 yX0_makeFound (.code yX0_makeFound cX0_makeFound 1 none :: tbg)) := z_goodV h tm_3_155 tm_3_156 tm_1_4 tm_3_157
theorem ds_X0_makeFound : dsc yX0_makeFound 0 := ⟨by decide +kernel, by decide +kernel, by decide +kernel⟩
theorem gv_X0_makeSwap {own : String} {idx : Nat} (h : Cond.methodLink own idx yX0_makeSwap ∈ tbg) : GoodIn tbg (wsV own idx RX0 yX0_makeSwap (.code yX0_makeSwap cX0_makeSwap 7 none :: tbg)) := z_goodV h tm_3_130 tm_3_131 tm_1_4 tm_3_132
theorem ds_X0_makeSwap : dsc yX0_makeSwap 2 := ⟨by decide +kernel, by decide +kernel, by decide +kernel⟩
theorem gv_X0_priceOf {own : String} {idx : Nat} (h : Cond.methodLink own idx yX0_priceOf ∈ tbg) : GoodIn tbg (wsV own idx RX0 yX0_priceOf (.code yX0_priceOf cX0_priceOf 4 (some .int) :: tbg)) := z_goodV h tm_3_93 (tb0 (by decide +kernel) (by decide +kernel)) tm_1_4 tm_3_94
theorem ds_X0_priceOf : dsc yX0_priceOf 2 := ⟨by decide +kernel, by decide +kernel, by decide +kernel⟩
theorem gv_X0_swapGain {own : String} {idx : Nat} (h : Cond.methodLink own idx yX0_swapGain ∈ tbg) : GoodIn tbg (wsV own idx RX0 yX0_swapGain (.code yX0_swapGain cX0_swapGain 7 (some .int) :: tbg)) := z_goodV h tm_3_81 tm_3_82 tm_1_4 tm_3_83
theorem ds_X0_swapGain : dsc yX0_swapGain 2 := ⟨by decide +kernel, by decide +kernel, by decide +kernel⟩
theorem gv_X1_activeOf {own : String} {idx : Nat} (h : Cond.methodLink own idx yX1_activeOf ∈ tbg) : GoodIn tbg (wsV own idx RX1 yX1_activeOf (.code yX1_activeOf cX1_activeOf 4 (some .int) :: tbg)) := z_goodV h tm_2_160 tm_2_161 tm_1_2 tm_2_162
theorem ds_X1_activeOf : dsc yX1_activeOf 1 := ⟨by decide +kernel, by decide +kernel, by decide +kernel⟩
theorem gv_X1_bestTime {own : String} {idx : Nat} (h : Cond.methodLink own idx yX1_bestTime ∈ tbg) : GoodIn tbg (wsV own idx RX1 yX1_bestTime (.code yX1_bestTime cX1_bestTime 6 (some .int) :: tbg)) := z_goodV h tm_2_226 tm_2_227 tm_1_2 tm_2_228
theorem ds_X1_bestTime : dsc yX1_bestTime 1 := ⟨by decide +kernel, by decide +kernel, by decide +kernel⟩
theorem gv_X1_bookAt {own : String} {idx : Nat} (h : Cond.methodLink own idx yX1_bookAt ∈ tbg) : GoodIn tbg (wsV own idx RX1 yX1_bookAt (.code yX1_bookAt cX1_bookAt 4 (some .boolean) :: tbg)) := z_goodV h tm_2_235 tm_2_236 tm_1_2 tm_2_237
theorem ds_X1_bookAt : dsc yX1_bookAt 2 := ⟨by decide +kernel, by decide +kernel, by decide +kernel⟩
theorem gv_X1_brokenOf {own : String} {idx : Nat} (h : Cond.methodLink own idx yX1_brokenOf ∈ tbg) : GoodIn tbg (wsV own idx RX1 yX1_brokenOf (.code yX1_brokenOf cX1_brokenOf 2 (some .int) :: tbg)) := z_goodV h tm_2_172 tm_2_173 tm_1_2 tm_2_174
theorem ds_X1_brokenOf : dsc yX1_brokenOf 1 := ⟨by decide +kernel, by decide +kernel, by decide +kernel⟩
theorem gv_X1_bumpLate {own : String} {idx : Nat} (h : Cond.methodLink own idx yX1_bumpLate ∈ tbg) : GoodIn tbg (wsV own idx RX1 yX1_bumpLate (.code yX1_bumpLate cX1_bumpLate 4 (some .int) :: tbg)) := z_goodV h tm_3_196 (tb0 (by decide +kernel) (by decide +kernel)) tm_1_2 tm_3_197
theorem ds_X1_bumpLate : dsc yX1_bumpLate 0 := ⟨by decide +kernel, by decide +kernel, by decide +kernel⟩
theorem gv_X1_clashing {own : String} {idx : Nat} (h : Cond.methodLink own idx yX1_clashing ∈ tbg) : GoodIn tbg (wsV own idx RX1 yX1_clashing (.code yX1_clashing cX1_clashing 9 (some .int) :: tbg)) := z_goodV h tm_2_199 tm_2_200 tm_1_2 tm_2_201
theorem ds_X1_clashing : dsc yX1_clashing 6 := ⟨by decide +kernel, by decide +kernel, by decide +kernel⟩
theorem gv_X1_clearTally {own : String} {idx : Nat} (h : Cond.methodLink own idx yX1_clearTally ∈ tbg) : GoodIn tbg (wsV own idx RX1 yX1_clearTally (.code yX1_clearTally cX1_clearTally 2 none :: tbg)) := z_goodV h tm_3_183 tm_3_184 tm_1_2 tm_3_185
theorem ds_X1_clearTally : dsc yX1_clearTally 0 := ⟨by decide +kernel, by decide +kernel, by decide +kernel⟩
theorem gv_X1_copyFrom {own : String} {idx : Nat} (h : Cond.methodLink own idx yX1_copyFrom ∈ tbg) : GoodIn tbg (wsV own idx RX1 yX1_copyFrom (.code yX1_copyFrom cX1_copyFrom 3 none :: tbg)) := z_goodV h tm_3_176 tm_3_177 tm_1_2 tm_3_178
theorem ds_X1_copyFrom : dsc yX1_copyFrom 1 := ⟨by decide +kernel, by decide +kernel, by decide +kernel⟩
theorem gv_X1_countIn {own : String} {idx : Nat} (h : Cond.methodLink own idx yX1_countIn ∈ tbg) : GoodIn tbg (wsV own idx RX1 yX1_countIn (.code yX1_countIn cX1_countIn 4 (some .int) :: tbg)) := z_goodV h tm_2_101 tm_2_102 tm_1_2 tm_2_103
theorem ds_X1_countIn : dsc yX1_countIn 1 := ⟨by decide +kernel, by decide +kernel, by decide +kernel⟩
theorem gv_X1_dropEnded {own : String} {idx : Nat} (h : Cond.methodLink own idx yX1_dropEnded ∈ tbg) : GoodIn tbg (wsV own idx RX1 yX1_dropEnded (.code yX1_dropEnded cX1_dropEnded 3 (some .int) :: tbg)) := z_goodV h tm_4_57 tm_4_58 tm_1_2 tm_4_59
theorem ds_X1_dropEnded : dsc yX1_dropEnded 0 := ⟨by decide +kernel, by decide +kernel, by decide +kernel⟩
theorem gv_X1_earliestFit {own : String} {idx : Nat} (h : Cond.methodLink own idx yX1_earliestFit ∈ tbg) : GoodIn tbg (wsV own idx RX1 yX1_earliestFit (.code yX1_earliestFit cX1_earliestFit 9 (some .int) :: tbg)) := z_goodV h tm_2_195 tm_2_196 tm_1_2 tm_2_197
theorem ds_X1_earliestFit : dsc yX1_earliestFit 5 := ⟨by decide +kernel, by decide +kernel, by decide +kernel⟩
theorem gv_X1_enterBooking {own : String} {idx : Nat} (h : Cond.methodLink own idx yX1_enterBooking ∈ tbg) : GoodIn tbg (wsV own idx RX1 yX1_enterBooking (.code yX1_enterBooking cX1_enterBooking 10 (some .int) :: tbg)) := z_goodV h tm_2_218 tm_2_219 tm_1_2 tm_2_220
theorem ds_X1_enterBooking : dsc yX1_enterBooking 7 := ⟨by decide +kernel, by decide +kernel, by decide +kernel⟩
theorem gv_X1_enterOwner {own : String} {idx : Nat} (h : Cond.methodLink own idx yX1_enterOwner ∈ tbg) : GoodIn tbg (wsV own idx RX1 yX1_enterOwner (.code yX1_enterOwner cX1_enterOwner 4 (some .int) :: tbg)) := z_goodV h tm_2_75 tm_2_76 tm_1_2 tm_2_77
theorem ds_X1_enterOwner : dsc yX1_enterOwner 1 := ⟨by decide +kernel, by decide +kernel, by decide +kernel⟩
theorem gv_X1_expireWaiting {own : String} {idx : Nat} (h : Cond.methodLink own idx yX1_expireWaiting ∈ tbg) : GoodIn tbg (wsV own idx RX1 yX1_expireWaiting (.code yX1_expireWaiting cX1_expireWaiting 3 none :: tbg)) := z_goodV h tm_3_200 (tb0 (by decide +kernel) (by decide +kernel)) tm_1_2 tm_3_201
theorem ds_X1_expireWaiting : dsc yX1_expireWaiting 0 := ⟨by decide +kernel, by decide +kernel, by decide +kernel⟩
theorem gv_X1_finishHeld {own : String} {idx : Nat} (h : Cond.methodLink own idx yX1_finishHeld ∈ tbg) : GoodIn tbg (wsV own idx RX1 yX1_finishHeld (.code yX1_finishHeld cX1_finishHeld 4 (some .int) :: tbg)) := z_goodV h tm_3_192 (tb0 (by decide +kernel) (by decide +kernel)) tm_1_2 tm_3_193
theorem ds_X1_finishHeld : dsc yX1_finishHeld 0 := ⟨by decide +kernel, by decide +kernel, by decide +kernel⟩
theorem gv_X1_hasLimit {own : String} {idx : Nat} (h : Cond.methodLink own idx yX1_hasLimit ∈ tbg) : GoodIn tbg (wsV own idx RX1 yX1_hasLimit (.code yX1_hasLimit cX1_hasLimit 2 (some .boolean) :: tbg)) := z_goodV h tm_2_212 tm_2_213 tm_1_2 tm_2_214
theorem ds_X1_hasLimit : dsc yX1_hasLimit 1 := ⟨by decide +kernel, by decide +kernel, by decide +kernel⟩
theorem gv_X1_holderAt {own : String} {idx : Nat} (h : Cond.methodLink own idx yX1_holderAt ∈ tbg) : GoodIn tbg (wsV own idx RX1 yX1_holderAt (.code yX1_holderAt cX1_holderAt 3 (some .int) :: tbg)) := z_goodV h tm_4_8 tm_4_9 tm_1_2 tm_4_10
theorem ds_X1_holderAt : dsc yX1_holderAt 2 := ⟨by decide +kernel, by decide +kernel, by decide +kernel⟩
theorem gv_X1_isActive {own : String} {idx : Nat} (h : Cond.methodLink own idx yX1_isActive ∈ tbg) : GoodIn tbg (wsV own idx RX1 yX1_isActive (.code yX1_isActive cX1_isActive 3 (some .boolean) :: tbg)) := z_goodV h tm_2_164 tm_2_165 tm_1_2 tm_2_166
theorem ds_X1_isActive : dsc yX1_isActive 1 := ⟨by decide +kernel, by decide +kernel, by decide +kernel⟩
theorem gv_X1_isBarred {own : String} {idx : Nat} (h : Cond.methodLink own idx yX1_isBarred ∈ tbg) : GoodIn tbg (wsV own idx RX1 yX1_isBarred (.code yX1_isBarred cX1_isBarred 2 (some .boolean) :: tbg)) := z_goodV h tm_2_168 tm_2_169 tm_1_2 tm_2_170
theorem ds_X1_isBarred : dsc yX1_isBarred 1 := ⟨by decide +kernel, by decide +kernel, by decide +kernel⟩
theorem gv_X1_isIn {own : String} {idx : Nat} (h : Cond.methodLink own idx yX1_isIn ∈ tbg) : GoodIn tbg (wsV own idx RX1 yX1_isIn (.code yX1_isIn cX1_isIn 3 (some .boolean) :: tbg)) := z_goodV h tm_3_12 tm_3_13 tm_1_2 tm_3_14
theorem ds_X1_isIn : dsc yX1_isIn 2 := ⟨by decide +kernel, by decide +kernel, by decide +kernel⟩
theorem gv_X1_joyAt {own : String} {idx : Nat} (h : Cond.methodLink own idx yX1_joyAt ∈ tbg) : GoodIn tbg (wsV own idx RX1 yX1_joyAt (.code yX1_joyAt cX1_joyAt 5 (some .int) :: tbg)) := z_goodV h tm_2_184 tm_2_185 tm_1_2 tm_2_186
theorem ds_X1_joyAt : dsc yX1_joyAt 2 := ⟨by decide +kernel, by decide +kernel, by decide +kernel⟩
theorem gv_X1_joyOf {own : String} {idx : Nat} (h : Cond.methodLink own idx yX1_joyOf ∈ tbg) : GoodIn tbg (wsV own idx RX1 yX1_joyOf (.code yX1_joyOf cX1_joyOf 3 (some .int) :: tbg)) := z_goodV h tm_2_180 tm_2_181 tm_1_2 tm_2_182
theorem ds_X1_joyOf : dsc yX1_joyOf 1 := ⟨by decide +kernel, by decide +kernel, by decide +kernel⟩
theorem gv_X1_joyOfOwner {own : String} {idx : Nat} (h : Cond.methodLink own idx yX1_joyOfOwner ∈ tbg) : GoodIn tbg (wsV own idx RX1 yX1_joyOfOwner (.code yX1_joyOfOwner cX1_joyOfOwner 4 (some .int) :: tbg)) := z_goodV h tm_2_176 tm_2_177 tm_1_2 tm_2_178
theorem ds_X1_joyOfOwner : dsc yX1_joyOfOwner 1 := ⟨by decide +kernel, by decide +kernel, by decide +kernel⟩
theorem gv_X1_latestFit {own : String} {idx : Nat} (h : Cond.methodLink own idx yX1_latestFit ∈ tbg) : GoodIn tbg (wsV own idx RX1 yX1_latestFit (.code yX1_latestFit cX1_latestFit 10 (some .int) :: tbg)) := z_goodV h tm_2_231 tm_2_232 tm_1_2 tm_2_233
theorem ds_X1_latestFit : dsc yX1_latestFit 5 := ⟨by decide +kernel, by decide +kernel, by decide +kernel⟩
theorem gv_X1_letWait {own : String} {idx : Nat} (h : Cond.methodLink own idx yX1_letWait ∈ tbg) : GoodIn tbg (wsV own idx RX1 yX1_letWait (.code yX1_letWait cX1_letWait 3 none :: tbg)) := z_goodV h tm_2_222 tm_2_223 tm_1_2 tm_2_224
theorem ds_X1_letWait : dsc yX1_letWait 1 := ⟨by decide +kernel, by decide +kernel, by decide +kernel⟩
theorem gv_X1_placeWaiting {own : String} {idx : Nat} (h : Cond.methodLink own idx yX1_placeWaiting ∈ tbg) : GoodIn tbg (wsV own idx RX1 yX1_placeWaiting (.code yX1_placeWaiting cX1_placeWaiting 3 none :: tbg)) := z_goodV h tm_3_29 tm_3_30 tm_1_2 tm_3_31
theorem ds_X1_placeWaiting : dsc yX1_placeWaiting 0 := ⟨by decide +kernel, by decide +kernel, by decide +kernel⟩
theorem gv_X1_queueUp {own : String} {idx : Nat} (h : Cond.methodLink own idx yX1_queueUp ∈ tbg) : GoodIn tbg (wsV own idx RX1 yX1_queueUp (.code yX1_queueUp cX1_queueUp 5 (some .int) :: tbg)) := z_goodV h tm_3_34 (tb0 (by decide +kernel) (by decide +kernel)) tm_1_2 tm_3_35
theorem ds_X1_queueUp : dsc yX1_queueUp 0 := ⟨by decide +kernel, by decide +kernel, by decide +kernel⟩
theorem gv_X1_tick {own : String} {idx : Nat} (h : Cond.methodLink own idx yX1_tick ∈ tbg) : GoodIn tbg (wsV own idx RX1 yX1_tick (.code yX1_tick cX1_tick 2 none :: tbg)) := z_goodV h tm_3_187 tm_3_188 tm_1_2 tm_3_189
theorem ds_X1_tick : dsc yX1_tick 0 := ⟨by decide +kernel, by decide +kernel, by decide +kernel⟩
theorem gv_X1_usedWithin {own : String} {idx : Nat} (h : Cond.methodLink own idx yX1_usedWithin ∈ tbg) : GoodIn tbg (wsV own idx RX1 yX1_usedWithin (.code yX1_usedWithin cX1_usedWithin 6 (some .int) :: tbg)) := z_goodV h tm_2_105 tm_2_106 tm_1_2 tm_2_107
theorem ds_X1_usedWithin : dsc yX1_usedWithin 1 := ⟨by decide +kernel, by decide +kernel, by decide +kernel⟩
theorem gv_X1_waiterAt {own : String} {idx : Nat} (h : Cond.methodLink own idx yX1_waiterAt ∈ tbg) : GoodIn tbg (wsV own idx RX1 yX1_waiterAt (.code yX1_waiterAt cX1_waiterAt 3 (some .int) :: tbg)) := z_goodV h tm_3_233 tm_3_234 tm_1_2 tm_3_235
theorem ds_X1_waiterAt : dsc yX1_waiterAt 1 := ⟨by decide +kernel, by decide +kernel, by decide +kernel⟩
theorem gv_X1_wouldClash {own : String} {idx : Nat} (h : Cond.methodLink own idx yX1_wouldClash ∈ tbg) : GoodIn tbg (wsV own idx RX1 yX1_wouldClash (.code yX1_wouldClash cX1_wouldClash 6 (some .boolean) :: tbg)) := z_goodV h tm_3_62 tm_3_63 tm_1_2 tm_3_64
theorem ds_X1_wouldClash : dsc yX1_wouldClash 4 := ⟨by decide +kernel, by decide +kernel, by decide +kernel⟩
theorem gv_X3_addOwner {own : String} {idx : Nat} (h : Cond.methodLink own idx yX3_addOwner ∈ tbg) : GoodIn tbg (wsV own idx RX3 yX3_addOwner (.code yX3_addOwner cX3_addOwner 2 (some .int) :: tbg)) := z_goodV h tm_1_225 tm_1_226 tm_1_1 tm_1_227
theorem ds_X3_addOwner : dsc yX3_addOwner 1 := ⟨by decide +kernel, by decide +kernel, by decide +kernel⟩
theorem gv_X3_ahead {own : String} {idx : Nat} (h : Cond.methodLink own idx yX3_ahead ∈ tbg) : GoodIn tbg (wsV own idx RX3 yX3_ahead (.code yX3_ahead cX3_ahead 3 (some .int) :: tbg)) := z_goodV h tm_3_172 tm_3_173 tm_1_1 tm_3_174
theorem ds_X3_ahead : dsc yX3_ahead 2 := ⟨by decide +kernel, by decide +kernel, by decide +kernel⟩
theorem gv_X3_arrive {own : String} {idx : Nat} (h : Cond.methodLink own idx yX3_arrive ∈ tbg) : GoodIn tbg (wsV own idx RX3 yX3_arrive (.code yX3_arrive cX3_arrive 3 (some .int) :: tbg)) := z_goodV h tm_3_40 tm_3_41 tm_1_1 tm_3_42
theorem ds_X3_arrive : dsc yX3_arrive 1 := ⟨by decide +kernel, by decide +kernel, by decide +kernel⟩
theorem gv_X3_bargain {own : String} {idx : Nat} (h : Cond.methodLink own idx yX3_bargain ∈ tbg) : GoodIn tbg (wsV own idx RX3 yX3_bargain (.code yX3_bargain cX3_bargain 1 (some .int) :: tbg)) := z_goodV h tm_3_151 tm_3_152 tm_1_1 tm_3_153
theorem ds_X3_bargain : dsc yX3_bargain 0 := ⟨by decide +kernel, by decide +kernel, by decide +kernel⟩
theorem gv_X3_best {own : String} {idx : Nat} (h : Cond.methodLink own idx yX3_best ∈ tbg) : GoodIn tbg (wsV own idx RX3 yX3_best (.code yX3_best cX3_best 2 (some .int) :: tbg)) := z_goodV h tm_3_99 tm_3_100 tm_1_1 tm_3_101
theorem ds_X3_best : dsc yX3_best 1 := ⟨by decide +kernel, by decide +kernel, by decide +kernel⟩
theorem gv_X3_book {own : String} {idx : Nat} (h : Cond.methodLink own idx yX3_book ∈ tbg) : GoodIn tbg (wsV own idx RX3 yX3_book (.code yX3_book cX3_book 5 (some .int) :: tbg)) := z_goodV h tm_2_206 tm_2_207 tm_1_1 tm_2_208
theorem ds_X3_book : dsc yX3_book 4 := ⟨by decide +kernel, by decide +kernel, by decide +kernel⟩
theorem gv_X3_booking {own : String} {idx : Nat} (h : Cond.methodLink own idx yX3_booking ∈ tbg) : GoodIn tbg (wsV own idx RX3 yX3_booking (.code yX3_booking cX3_booking 3 (some .int) :: tbg)) := z_goodV h tm_3_2 tm_3_3 tm_1_1 tm_3_4
theorem ds_X3_booking : dsc yX3_booking 2 := ⟨by decide +kernel, by decide +kernel, by decide +kernel⟩
theorem gv_X3_buy {own : String} {idx : Nat} (h : Cond.methodLink own idx yX3_buy ∈ tbg) : GoodIn tbg (wsV own idx RX3 yX3_buy (.code yX3_buy cX3_buy 3 (some .int) :: tbg)) := z_goodV h tm_3_141 tm_3_142 tm_1_1 tm_3_143
theorem ds_X3_buy : dsc yX3_buy 2 := ⟨by decide +kernel, by decide +kernel, by decide +kernel⟩
theorem gv_X3_cancel {own : String} {idx : Nat} (h : Cond.methodLink own idx yX3_cancel ∈ tbg) : GoodIn tbg (wsV own idx RX3 yX3_cancel (.code yX3_cancel cX3_cancel 3 (some .int) :: tbg)) := z_goodV h tm_3_51 tm_3_52 tm_1_1 tm_3_53
theorem ds_X3_cancel : dsc yX3_cancel 1 := ⟨by decide +kernel, by decide +kernel, by decide +kernel⟩
theorem gv_X3_count {own : String} {idx : Nat} (h : Cond.methodLink own idx yX3_count ∈ tbg) : GoodIn tbg (wsV own idx RX3 yX3_count (.code yX3_count cX3_count 2 (some .int) :: tbg)) := z_goodV h tm_2_97 tm_2_98 tm_1_1 tm_2_99
theorem ds_X3_count : dsc yX3_count 1 := ⟨by decide +kernel, by decide +kernel, by decide +kernel⟩
theorem gv_X3_draft {own : String} {idx : Nat} (h : Cond.methodLink own idx yX3_draft ∈ tbg) : GoodIn tbg (wsV own idx RX3 yX3_draft (.code yX3_draft cX3_draft 4 none :: tbg)) := z_goodV h tm_2_118 tm_2_119 tm_1_1 tm_2_120
theorem ds_X3_draft : dsc yX3_draft 3 := ⟨by decide +kernel, by decide +kernel, by decide +kernel⟩
theorem gv_X3_evict {own : String} {idx : Nat} (h : Cond.methodLink own idx yX3_evict ∈ tbg) : GoodIn tbg (wsV own idx RX3 yX3_evict (.code yX3_evict cX3_evict 3 (some .int) :: tbg)) := z_goodV h tm_3_69 tm_3_70 tm_1_1 tm_3_71
theorem ds_X3_evict : dsc yX3_evict 1 := ⟨by decide +kernel, by decide +kernel, by decide +kernel⟩
theorem gv_X3_extend {own : String} {idx : Nat} (h : Cond.methodLink own idx yX3_extend ∈ tbg) : GoodIn tbg (wsV own idx RX3 yX3_extend (.code yX3_extend cX3_extend 4 (some .int) :: tbg)) := z_goodV h tm_3_58 tm_3_59 tm_1_1 tm_3_60
theorem ds_X3_extend : dsc yX3_extend 2 := ⟨by decide +kernel, by decide +kernel, by decide +kernel⟩
theorem gv_X3_gain {own : String} {idx : Nat} (h : Cond.methodLink own idx yX3_gain ∈ tbg) : GoodIn tbg (wsV own idx RX3 yX3_gain (.code yX3_gain cX3_gain 3 (some .int) :: tbg)) := z_goodV h tm_3_77 tm_3_78 tm_1_1 tm_3_79
theorem ds_X3_gain : dsc yX3_gain 2 := ⟨by decide +kernel, by decide +kernel, by decide +kernel⟩
theorem gv_X3_holder {own : String} {idx : Nat} (h : Cond.methodLink own idx yX3_holder ∈ tbg) : GoodIn tbg (wsV own idx RX3 yX3_holder (.code yX3_holder cX3_holder 3 (some .int) :: tbg)) := z_goodV h tm_4_15 tm_4_16 tm_1_1 tm_4_17
theorem ds_X3_holder : dsc yX3_holder 2 := ⟨by decide +kernel, by decide +kernel, by decide +kernel⟩
theorem gv_X3_leave {own : String} {idx : Nat} (h : Cond.methodLink own idx yX3_leave ∈ tbg) : GoodIn tbg (wsV own idx RX3 yX3_leave (.code yX3_leave cX3_leave 3 (some .int) :: tbg)) := z_goodV h tm_3_25 tm_3_26 tm_1_1 tm_3_27
theorem ds_X3_leave : dsc yX3_leave 1 := ⟨by decide +kernel, by decide +kernel, by decide +kernel⟩
theorem gv_X3_needBooking {own : String} {idx : Nat} (h : Cond.methodLink own idx yX3_needBooking ∈ tbg) : GoodIn tbg (wsV own idx RX3 yX3_needBooking (.code yX3_needBooking cX3_needBooking 2 none :: tbg)) := z_goodV h tm_3_7 (tb0 (by decide +kernel) (by decide +kernel)) tm_1_1 tm_3_8
theorem ds_X3_needBooking : dsc yX3_needBooking 1 := ⟨by decide +kernel, by decide +kernel, by decide +kernel⟩
theorem gv_X3_needByte {own : String} {idx : Nat} (h : Cond.methodLink own idx yX3_needByte ∈ tbg) : GoodIn tbg (wsV own idx RX3 yX3_needByte (.code yX3_needByte cX3_needByte 2 none :: tbg)) := z_goodV h tm_2_127 (tb0 (by decide +kernel) (by decide +kernel)) tm_1_1 tm_2_128
theorem ds_X3_needByte : dsc yX3_needByte 1 := ⟨by decide +kernel, by decide +kernel, by decide +kernel⟩
theorem gv_X3_needOwner {own : String} {idx : Nat} (h : Cond.methodLink own idx yX3_needOwner ∈ tbg) : GoodIn tbg (wsV own idx RX3 yX3_needOwner (.code yX3_needOwner cX3_needOwner 2 none :: tbg)) := z_goodV h tm_2_156 (tb0 (by decide +kernel) (by decide +kernel)) tm_1_1 tm_2_157
theorem ds_X3_needOwner : dsc yX3_needOwner 1 := ⟨by decide +kernel, by decide +kernel, by decide +kernel⟩
theorem gv_X3_needSpan {own : String} {idx : Nat} (h : Cond.methodLink own idx yX3_needSpan ∈ tbg) : GoodIn tbg (wsV own idx RX3 yX3_needSpan (.code yX3_needSpan cX3_needSpan 3 none :: tbg)) := z_goodV h tm_2_123 (tb0 (by decide +kernel) (by decide +kernel)) tm_1_1 tm_2_124
theorem ds_X3_needSpan : dsc yX3_needSpan 2 := ⟨by decide +kernel, by decide +kernel, by decide +kernel⟩
theorem gv_X3_needWithin {own : String} {idx : Nat} (h : Cond.methodLink own idx yX3_needWithin ∈ tbg) : GoodIn tbg (va_wsS own idx yX3_needWithin (.code yX3_needWithin cX3_needWithin 3 none :: tbg)) := z_goodS h tm_1_229 tm_1_1 tm_1_230
theorem ds_X3_needWithin : dsc yX3_needWithin 3 := ⟨by decide +kernel, by decide +kernel, by decide +kernel⟩
theorem gv_X3_nextFree {own : String} {idx : Nat} (h : Cond.methodLink own idx yX3_nextFree ∈ tbg) : GoodIn tbg (wsV own idx RX3 yX3_nextFree (.code yX3_nextFree cX3_nextFree 2 (some .int) :: tbg)) := z_goodV h tm_2_191 tm_2_192 tm_1_1 tm_2_193
theorem ds_X3_nextFree : dsc yX3_nextFree 1 := ⟨by decide +kernel, by decide +kernel, by decide +kernel⟩
theorem gv_X3_owner {own : String} {idx : Nat} (h : Cond.methodLink own idx yX3_owner ∈ tbg) : GoodIn tbg (wsV own idx RX3 yX3_owner (.code yX3_owner cX3_owner 3 (some .int) :: tbg)) := z_goodV h tm_2_151 tm_2_152 tm_1_1 tm_2_153
theorem ds_X3_owner : dsc yX3_owner 2 := ⟨by decide +kernel, by decide +kernel, by decide +kernel⟩
theorem gv_X3_pass {own : String} {idx : Nat} (h : Cond.methodLink own idx yX3_pass ∈ tbg) : GoodIn tbg (wsV own idx RX3 yX3_pass (.code yX3_pass cX3_pass 2 (some .int) :: tbg)) := z_goodV h tm_3_207 tm_3_208 tm_1_1 tm_3_209
theorem ds_X3_pass : dsc yX3_pass 1 := ⟨by decide +kernel, by decide +kernel, by decide +kernel⟩
theorem gv_X3_set {own : String} {idx : Nat} (h : Cond.methodLink own idx yX3_set ∈ tbg) : GoodIn tbg (wsV own idx RX3 yX3_set (.code yX3_set cX3_set 4 (some .int) :: tbg)) := z_goodV h tm_2_82 tm_2_83 tm_1_1 tm_2_84
theorem ds_X3_set : dsc yX3_set 2 := ⟨by decide +kernel, by decide +kernel, by decide +kernel⟩
theorem gv_X3_show {own : String} {idx : Nat} (h : Cond.methodLink own idx yX3_show ∈ tbg) : GoodIn tbg (wsV own idx RX3 yX3_show (.code yX3_show cX3_show 4 (some .int) :: tbg)) := z_goodV h tm_4_4 tm_4_5 tm_1_1 tm_4_6
theorem ds_X3_show : dsc yX3_show 1 := ⟨by decide +kernel, by decide +kernel, by decide +kernel⟩
theorem gv_X3_shown {own : String} {idx : Nat} (h : Cond.methodLink own idx yX3_shown ∈ tbg) : GoodIn tbg (wsV own idx RX3 yX3_shown (.code yX3_shown cX3_shown 2 (some .int) :: tbg)) := z_goodV h tm_4_19 tm_4_20 tm_1_1 tm_4_21
theorem ds_X3_shown : dsc yX3_shown 1 := ⟨by decide +kernel, by decide +kernel, by decide +kernel⟩
theorem gv_X3_swap {own : String} {idx : Nat} (h : Cond.methodLink own idx yX3_swap ∈ tbg) : GoodIn tbg (wsV own idx RX3 yX3_swap (.code yX3_swap cX3_swap 3 (some .int) :: tbg)) := z_goodV h tm_3_125 tm_3_126 tm_1_1 tm_3_127
theorem ds_X3_swap : dsc yX3_swap 2 := ⟨by decide +kernel, by decide +kernel, by decide +kernel⟩
theorem gv_X3_tallyOf {own : String} {idx : Nat} (h : Cond.methodLink own idx yX3_tallyOf ∈ tbg) : GoodIn tbg (va_wsS own idx yX3_tallyOf (.code yX3_tallyOf cX3_tallyOf 4 (some .int) :: tbg)) := z_goodS h tm_3_180 tm_1_1 tm_3_181
theorem ds_X3_tallyOf : dsc yX3_tallyOf 3 := ⟨by decide +kernel, by decide +kernel, by decide +kernel⟩
theorem gv_X3_trust {own : String} {idx : Nat} (h : Cond.methodLink own idx yX3_trust ∈ tbg) : GoodIn tbg (wsV own idx RX3 yX3_trust (.code yX3_trust cX3_trust 4 (some .double) :: tbg)) := z_goodV h tm_3_219 tm_3_220 tm_1_1 tm_3_221
theorem ds_X3_trust : dsc yX3_trust 1 := ⟨by decide +kernel, by decide +kernel, by decide +kernel⟩
theorem gv_X3_waiter {own : String} {idx : Nat} (h : Cond.methodLink own idx yX3_waiter ∈ tbg) : GoodIn tbg (wsV own idx RX3 yX3_waiter (.code yX3_waiter cX3_waiter 2 (some .int) :: tbg)) := z_goodV h tm_3_228 tm_3_229 tm_1_1 tm_3_230
theorem ds_X3_waiter : dsc yX3_waiter 1 := ⟨by decide +kernel, by decide +kernel, by decide +kernel⟩
theorem gv_X3_waitsFor {own : String} {idx : Nat} (h : Cond.methodLink own idx yX3_waitsFor ∈ tbg) : GoodIn tbg (wsV own idx RX3 yX3_waitsFor (.code yX3_waitsFor cX3_waitsFor 4 (some .int) :: tbg)) := z_goodV h tm_4_37 tm_4_38 tm_1_1 tm_4_39
theorem ds_X3_waitsFor : dsc yX3_waitsFor 2 := ⟨by decide +kernel, by decide +kernel, by decide +kernel⟩
end
section
/-! ROWS: static arrays, copies, text constants, the JDK's String -/
theorem cp2_row (v : V3) (a b n : Nat) : cp2 v a b n b = fun j => if j < n then v a j else v b j := if_pos rfl
theorem cp2_off (v : V3) {a b n c : Nat} (h : c ≠ b) : cp2 v a b n c = v c := if_neg h
theorem cpT_row (v : V3) (b : Nat) (f : Nat → Int32) (n : Nat) : cpT v b f n b = fun j => if j < n then f j else v b j := if_pos rfl
theorem cpT_off (v : V3) {b n c : Nat} {f : Nat → Int32} (h : c ≠ b) : cpT v b f n c = v c := if_neg h
section ZR4
variable {p : Program} {l : Launch} {e : Env} {R : Room} {s : State} {m : MethodId} {args : Array Value} {below : List Frame} {meth : Method} {c : Code} {H : Heap} {locs : List Loc} {cells slots : Nat} {Q : State → Prop}
variable {cc : ByteArray} {pc nL : Nat} {ls : Array Slot} {rest : List Value} {G : zG} {v : V3} {own : String} {ret : Option FieldType}
theorem z_bastk (C0 : Cx G own cc nL ret p s m args meth c) (Z : Zs G s v H locs) {c0 N j : Nat} (hc0 : c0 < gn G) (he : ∀ w : V3, ent G w c0 = .inl (gcA G 1, N, .inl (w c0))) {i x : Int32} (hin : vp_in i N) (hj : ix i = j) (hdg : decode cc pc = .ok (.bastore, 1))
    (kk : ∀ (H1 : Heap) (locs1 : List Loc), Zs G s (up2 v c0 j (vp_nar .byte x)) H1 locs1 → W p l e R s m args below meth c H1 locs1 cells slots Q (F0 m (pc + 1) ls rest)) : W p l e R s m args below meth c H locs cells slots Q (F0 m pc ls (.int x :: .int i :: .ref (gad G c0) :: rest)) := by
  subst hj
  exact z_bast C0 Z hc0 he hin hdg kk
theorem z_gets1 (C0 : Cx G own cc nL ret p s m args meth c) (Z : Zs G s v H locs) {index : Nat} (hlink : Cond.fieldLink own index "SpanLodge" "SETTING_LEAST" "[I" ∈ tbg) (hdg : decode cc pc = .ok (.getstatic index, 3))
    (kk : W p l e R s m args below meth c H locs cells slots Q (F0 m (pc + 3) ls (.ref (gk G 1) :: rest))) : W p l e R s m args below meth c H locs cells slots Q (F0 m pc ls rest) :=
  va_gets C0.1 C0.2.1 (cx_K C0).2.1.1.2.1.1 Z.2.2 (cx_own C0) (cx_w C0 hlink) (fun x h => h) hdg kk
theorem z_gets2 (C0 : Cx G own cc nL ret p s m args meth c) (Z : Zs G s v H locs) {index : Nat} (hlink : Cond.fieldLink own index "SpanLodge" "SETTING_MOST" "[I" ∈ tbg) (hdg : decode cc pc = .ok (.getstatic index, 3))
    (kk : W p l e R s m args below meth c H locs cells slots Q (F0 m (pc + 3) ls (.ref (gk G 2) :: rest))) : W p l e R s m args below meth c H locs cells slots Q (F0 m pc ls rest) :=
  va_gets C0.1 C0.2.1 (cx_K C0).2.1.1.2.2.1 Z.2.2 (cx_own C0) (cx_w C0 hlink) (fun x h => h) hdg kk
theorem z_getsN0 (C0 : Cx G own cc nL ret p s m args meth c) (Z : Zs G s v H locs) {index : Nat} (hq : (own, index, "SETTING_FIRST") ∈ zNst) (hdg : decode cc pc = .ok (.getstatic index, 3))
    (kk : W p l e R s m args below meth c H locs cells slots Q (F0 m (pc + 3) ls (.ref (gk G 0) :: rest))) : W p l e R s m args below meth c H locs cells slots Q (F0 m pc ls rest) :=
  va_getsN C0.1 C0.2.1 (cx_K C0).2.1.1.1.1 Z.2.2 (cx_own C0) (((cx_K C0).2.2.2.2.2.1 _ hq).use rfl) (fun x h => h) hdg kk
theorem z_tab1 (C0 : Cx G own cc nL ret p s m args meth c) (Z : Zs G s v H locs) {i : Int32} (hin : vp_in i 4) (hdg : decode cc pc = .ok (.iaload, 1))
    (kk : W p l e R s m args below meth c H locs cells slots Q (F0 m (pc + 1) ls (.int (f4 0 0 1 1 (ix i)) :: rest))) : W p l e R s m args below meth c H locs cells slots Q (F0 m pc ls (.int i :: .ref (gk G 1) :: rest)) :=
  va_ti C0.1 C0.2.1 (cx_K C0).2.1.1.2.1.2 Z.2.2 hin rfl hdg kk
theorem z_tab2 (C0 : Cx G own cc nL ret p s m args meth c) (Z : Zs G s v H locs) {i : Int32} (hin : vp_in i 4) (hdg : decode cc pc = .ok (.iaload, 1))
    (kk : W p l e R s m args below meth c H locs cells slots Q (F0 m (pc + 1) ls (.int (f4 50 99 9 9 (ix i)) :: rest))) : W p l e R s m args below meth c H locs cells slots Q (F0 m pc ls (.int i :: .ref (gk G 2) :: rest)) :=
  va_ti C0.1 C0.2.1 (cx_K C0).2.1.1.2.2.2 Z.2.2 hin rfl hdg kk
theorem z_copy (C0 : Cx G own cc nL ret p s m args meth c) (Z : Zs G s v H locs) (hl : ls.size = nL) {index a b Na Nb : Nat} (hlink : Cond.methodLink own index arraycopyName ∈ tbg) (ha : a < gn G) (hea : ∀ w : V3, ent G w a = .inl (gcA G 0, Na, .inl (w a))) (hb : b < gn G) (heb : ∀ w : V3, ent G w b = .inl (gcA G 0, Nb, .inl (w b))) {n : Int32} {k : Nat} (hn : ix n = k) (h0 : ¬ n < 0) (h1 : k ≤ Na) (h2 : k ≤ Nb) (hf : 1 ≤ R.frames) (hlo : (rest.map fun v => v.category).sum + (nativeFrameWords "java/lang/System" "arraycopy" 5 + 11) ≤ R.locals) (hdg : decode cc pc = .ok (.invokestatic index, 3))
    (kk : ∀ (H1 : Heap) (locs1 : List Loc), Zs G s (cp2 v a b k) H1 locs1 → W p l e R s m args below meth c H1 locs1 cells slots Q (F0 m (pc + 3) ls rest)) : W p l e R s m args below meth c H locs cells slots Q (F0 m pc ls (.int n :: .int 0 :: .ref (gad G b) :: .int 0 :: .ref (gad G a) :: rest)) := by
  refine va_copyi (H0 := s.heap) (A := zA G) (cl := vwCl) (ws := WS G v) (tys := tysZ G) C0.1 C0.2.1 (C0.2.2.1.trans hl.symm) (cx_own C0) (cx_w C0 hlink) (cx_w C0 tm_cpy_n) (cx_w C0 tm_cpy_s) (cx_w C0 tm_sys) (cx_K C0).1 Z.1 Z.2.1 Z.2.2 a b 0 0 (WS_get ha (hea v)) (WS_get hb (heb v)) rfl rfl rfl (by decide) (by decide) h0 ?_ ?_ (fun i hi => rfl) hf hlo hdg (fun H1 locs1 hP hD hS => ?_)
  · show 0 + ix n ≤ Na
    omega
  · show 0 + ix n ≤ Nb
    omega
  · have e : va_cpy (v a) (v b) (Int32.toNatClampNeg 0) (Int32.toNatClampNeg 0) n.toNatClampNeg = cp2 v a b k b := by
      rw [cp2_row]
      funext j
      show (if 0 ≤ j ∧ j < 0 + ix n then v a (0 + (j - 0)) else v b j) = _
      rw [hn]
      simp
    rw [e] at hP hD
    rw [WS_set (v' := cp2 v a b k) hb (heb _) (fun c' h => cp2_off v h)] at hP hD
    exact kk H1 locs1 ⟨hP, hD, hS⟩
theorem z_copyT0 (C0 : Cx G own cc nL ret p s m args meth c) (Z : Zs G s v H locs) (hl : ls.size = nL) {index b Nb : Nat} (hlink : Cond.methodLink own index arraycopyName ∈ tbg) (hb : b < gn G) (heb : ∀ w : V3, ent G w b = .inl (gcA G 0, Nb, .inl (w b))) {n : Int32} {k : Nat} (hn : ix n = k) (h0 : n = 4) (h2 : k ≤ Nb) (hf : 1 ≤ R.frames) (hlo : (rest.map fun v => v.category).sum + (nativeFrameWords "java/lang/System" "arraycopy" 5 + 11) ≤ R.locals) (hdg : decode cc pc = .ok (.invokestatic index, 3))
    (kk : ∀ (H1 : Heap) (locs1 : List Loc), Zs G s (cpT v b (f4 5 10 4 3) k) H1 locs1 → W p l e R s m args below meth c H1 locs1 cells slots Q (F0 m (pc + 3) ls rest)) : W p l e R s m args below meth c H locs cells slots Q (F0 m pc ls (.int n :: .int 0 :: .ref (gad G b) :: .int 0 :: .ref (gk G 0) :: rest)) := by
  subst h0
  have hk4 : k = 4 := hn.symm
  subst hk4
  obtain ⟨hP, hD, hS⟩ := Z
  obtain ⟨scr, hs1, hs2, hs3, hs4, -, hs5, hs7⟩ := (cx_K C0).2.1.1.1.2
  have hc0 : H[gk G 0]? = some scr := by rw [hS.2.1 _ (Array.getElem?_eq_some_iff.mp hs1).1 hs7]; exact hs1
  have hc1 : H[gad G b]? = some (vp_cell (gcA G 0) (Nb, .inl (v b))) := hP b _ (WS_get hb (heb v))
  obtain ⟨hs6, k0, hk0, cm0, hkk0⟩ := hs2
  obtain ⟨-, k1, hk1, cm1, hkk1⟩ := ((cx_K C0).1.2 0 _ rfl).1 Nb (fun j => .int (v b j))
  intro T hT X
  obtain ⟨vm', X', step⟩ := X.arraycopy C0.1 (cx_own C0) (cx_w C0 hlink) (cx_w C0 tm_cpy_n) (cx_w C0 tm_cpy_s) (cx_w C0 tm_sys) (src := gk G 0) (dst := gad G b) (cs := scr) (cd := vp_cell (gcA G 0) (Nb, .inl (v b))) (srcPos := 0) (destPos := 0) (n := 4) (by rw [hT]; exact hc0) (by rw [hT]; exact hc1)
    hs6 (fun _ h => by cases h) hs3 (fun h => by cases h) hk0 hk1 hkk0 hkk1 (by simp [refKind]) (by decide) (by decide) (by decide)
    (by have e1 : (0 : Int32).toInt = 0 := rfl
        have e2 : (4 : Int32).toInt = 4 := rfl
        rw [e1, e2]; omega)
    (by have e1 : (0 : Int32).toInt = 0 := rfl
        have e2 : (4 : Int32).toInt = 4 := rfl
        rw [e1, e2]; show ¬ _ > ((arrV (gcA G 0) Nb (fun j => .int (v b j))).slots.size : Int); rw [arrV_size]; omega)
    (fun vm₁ _ i hi => by
      have hi4 : i < 4 := hi
      have e : scr.slots.getD ((0 : Int32).toNatClampNeg + i) .null = .int (f4 5 10 4 3 i) := by
        rw [Array.getD_eq_getD_getElem?, show (0 : Int32).toNatClampNeg + i = i from Nat.zero_add i, hs5 _ hi4]
        rfl
      refine ⟨?_, ?_⟩
      · rw [e]; rfl
      · rw [e]; exact trivial)
    (g := F0 m pc ls (.int 4 :: .int 0 :: .ref (gad G b) :: .int 0 :: .ref (gk G 0) :: rest)) rfl (by rw [C0.2.2.1, ← hl]) (rest := rest) rfl (by rw [C0.2.1]; exact hdg) hf (by show 2 * 0 + _ + _ ≤ _; omega)
  have e1 : copied scr (vp_cell (gcA G 0) (Nb, .inl (v b))) 0 0 4 = vp_cell (gcA G 0) (Nb, .inl (cpT v b (f4 5 10 4 3) 4 b)) := by
    have h := va_copiedX (fun z => .int z) scr (gcA G 0) (f4 5 10 4 3) (v b) (sp := 0) (dp := 0) (n := 4) (n1 := Nb) hs5 (by decide)
    refine h.trans ?_
    rw [cpT_row, vp_cell_i]
    refine congrArg (arrV (gcA G 0) Nb) (funext fun j => ?_)
    show Value.int (if 0 ≤ j ∧ j < 0 + 4 then f4 5 10 4 3 (0 + (j - 0)) else v b j) = Value.int (if j < 4 then f4 5 10 4 3 j else v b j)
    simp
  rw [e1] at X' step
  have hl2 : gad G b < H.size := (Array.getElem?_eq_some_iff.mp hc1).1
  have hheap : ((T.setVm vm').setCell (gad G b) (vp_cell (gcA G 0) (Nb, .inl (cpT v b (f4 5 10 4 3) 4 b)))).heap = H.setIfInBounds (gad G b) (vp_cell (gcA G 0) (Nb, .inl (cpT v b (f4 5 10 4 3) 4 b))) := by rw [← hT]; rfl
  have oq : ∀ q : Nat, q ≠ gad G b → (H.setIfInBounds (gad G b) (vp_cell (gcA G 0) (Nb, .inl (cpT v b (f4 5 10 4 3) 4 b))))[q]? = H[q]? := fun q hq => by simp [Array.getElem?_setIfInBounds, Ne.symm hq]
  have hP1 := hP.set hD (WS_get hb (heb v)) (show va_at (gD G) vwCl (gad G b, .inl (gcA G 0, Nb, .inl (cpT v b (f4 5 10 4 3) 4 b))) (H.setIfInBounds (gad G b) _) from (by show (H.setIfInBounds (gad G b) _)[gad G b]? = some _; simp [Array.getElem?_setIfInBounds, hl2])) oq
  have hD1 := hD.set (e := .inl (gcA G 0, Nb, .inl (cpT v b (f4 5 10 4 3) 4 b))) (WS_get hb (heb v))
  rw [WS_set (v' := cpT v b (f4 5 10 4 3) 4) hb (heb _) (fun c' h => cpT_off v h)] at hP1 hD1
  obtain ⟨t, a1, b1⟩ := kk _ _ ⟨hP1, hD1, ⟨by simp; exact hS.1, fun q g1 g2 => by
      rw [oq q (fun e => g2 (by rw [e]; exact hD.2 b _ (WS_get hb (heb v))))]
      exact hS.2.1 q g1 g2, fun q hq => by
      rcases List.mem_append.mp hq with h | h
      · exact hS.2.2 q h
      · obtain ⟨z, -, hz⟩ := List.mem_map.mp h
        rw [← hz]
        exact hD.2 b _ (WS_get hb (heb v))⟩⟩ _ hheap X'
  exact ⟨t, step t a1, b1⟩
/-- text constants -/
theorem z_nret {ty : FieldType} (C0 : Cx G own cc nL (some ty) p s m args meth c) (Z : Zs G s v H locs) {Q : Int32 → V3 → Prop} {x : Int32} (hn : narrow ty (.int x) = .int x) (hQ : Q x v) (hdg : decode cc pc = .ok (.ireturn, 1)) : W p l e R s m args below meth c H locs cells slots (MQ below (QiZ G Q) args s cells slots (zA G)) (F0 m pc ls [.int x]) := by
  obtain ⟨hx, hb, -, hr, hk, hown, hts, K, -⟩ := C0
  exact W.zret hx hb hr hn (fun t ht hW => ⟨⟨x, v, rfl, hQ, ⟨by rw [ht]; exact Z.1, Z.2.1⟩⟩, Z.2.2.F ht⟩) Z.2.2.2.2 hdg hk
end ZR4
abbrev QdZ (G : zG) (Q : UInt64 → V3 → Prop) : Array Value → State → Outcome → State → Prop := va_Qd Q (fun u t => Rp G u t.heap) (zA G)
abbrev QfZ (G : zG) (Q : UInt32 → V3 → Prop) : Array Value → State → Outcome → State → Prop := va_Qf Q (fun u t => Rp G u t.heap) (zA G)
section ZR5
variable {p : Program} {l : Launch} {e : Env} {R : Room} {s : State} {m : MethodId} {args : Array Value} {below : List Frame} {meth : Method} {c : Code} {H : Heap} {locs : List Loc} {cells slots : Nat}
variable {cc : ByteArray} {pc nL : Nat} {ls : Array Slot} {G : zG} {v : V3} {own : String}
theorem z_dret (C0 : Cx G own cc nL (some .double) p s m args meth c) (Z : Zs G s v H locs) {Q : UInt64 → V3 → Prop} {x : UInt64} (hQ : Q x v) (hdg : decode cc pc = .ok (.dreturn, 1)) : W p l e R s m args below meth c H locs cells slots (MQ below (QdZ G Q) args s cells slots (zA G)) (F0 m pc ls [.double x]) := by
  obtain ⟨hx, hb, -, hr, hk, hown, hts, K, -⟩ := C0
  exact W.dret hx hb hr (fun t ht hW => ⟨⟨x, v, rfl, hQ, ⟨by rw [ht]; exact Z.1, Z.2.1⟩⟩, Z.2.2.F ht⟩) Z.2.2.2.2 hdg hk
theorem z_fret (C0 : Cx G own cc nL (some .float) p s m args meth c) (Z : Zs G s v H locs) {Q : UInt32 → V3 → Prop} {x : UInt32} (hQ : Q x v) (hdg : decode cc pc = .ok (.freturn, 1)) : W p l e R s m args below meth c H locs cells slots (MQ below (QfZ G Q) args s cells slots (zA G)) (F0 m pc ls [.float x]) := by
  obtain ⟨hx, hb, -, hr, hk, hown, hts, K, -⟩ := C0
  exact W.fret hx hb hr (fun t ht hW => ⟨⟨x, v, rfl, hQ, ⟨by rw [ht]; exact Z.1, Z.2.1⟩⟩, Z.2.2.F ht⟩) Z.2.2.2.2 hdg hk
end ZR5
end
section
/-! METHODS THAT MAY THROW -/
abbrev XZ (G : zG) (X : String → V3 → Prop) : String → State → State → Prop := vx_X (fun q : String × V3 => X q.1 q.2) (fun E q t => E = q.1 ∧ Rp G q.2 t.heap) (zA G)
abbrev Mx (l : Launch) (y : MethodName) (cc : ByteArray) (nL : Nat) (ret : Option FieldType) (fr lo mc ms : Nat) (G : zG) (av : List Value) (v : V3) (Qc : Array Value → State → Outcome → State → Prop) (X : String → V3 → Prop) : Prop :=
  vx_Met l y (.code y cc nL ret :: tbg) { frames := fr, cells := mc, slots := ms, locals := lo } (PcZ G av v) Qc (XZ G X) mc ms (zA G)
theorem z_xofW {l : Launch} {y : MethodName} {cc : ByteArray} {nL : Nat} {ret : Option FieldType} {fr lo mc ms : Nat} {G : zG} {av : List Value} {v : V3} {Qc : Array Value → State → Outcome → State → Prop} {X : String → V3 → Prop} (hg : 116 ≤ gn G) (hy : plainName y.cls = true) (hfit : (lg_sl av).length ≤ nL)
    (body : ∀ p e s m args below meth c ls, Cx G y.cls cc nL ret p s m args meth c → (∀ x ∈ c.exceptionTable.toList, False) → Zs G s v s.heap [] → lv_has ls nL (lv_args 0 av) → W p l e { frames := fr, cells := mc, slots := ms, locals := lo } s m args below meth c s.heap [] 0 0 (vx_MQ below Qc (XZ G X) args s mc ms (zA G)) (F0 m 0 ls [])) :
    Mx l y cc nL ret fr lo mc ms G av v Qc X := by
  refine vx_ofW (cc := cc) (maxL := nL) (ret := ret) hy rfl ?_
  intro p e s m args below meth c s₁ B hml hT hv
  obtain ⟨rfl, hR, K⟩ := hv
  have hts : ∀ w ∈ tbg, w.before av.toArray s = true := fun w h => atoms_spec (ws := .code y cc nL ret :: tbg) B.pre w (List.mem_cons_of_mem _ h)
  have hown : s.vm.findClass y.cls = some m.cls := findClass_of_methodNamed B.named
  have hl := lv_entry av (n := nL) hfit
  rw [lg_entry_eq]
  generalize (lg_sl av ++ List.replicate (nL - (lg_sl av).length) Slot.unset).toArray = ls at hl ⊢
  exact body p e s m av.toArray below meth c ls ⟨B.exec, B.bytes, hml, B.returns, B.notSynchronized, hown, hts, K, hg⟩ hT ⟨hR.1, hR.2, va_S.rf⟩ hl
section ZX
variable {p : Program} {l : Launch} {e : Env} {R : Room} {s : State} {m : MethodId} {args : Array Value} {below : List Frame} {meth : Method} {c : Code} {H : Heap} {locs : List Loc} {cells slots : Nat}
variable {cc : ByteArray} {pc nL : Nat} {ls : Array Slot} {rest : List Value} {G : zG} {v : V3} {own : String} {ret : Option FieldType} {Qc : Array Value → State → Outcome → State → Prop} {X : String → V3 → Prop} {mc ms : Nat}
theorem z_wide {Q : State → Prop} {g : JFrame} (h1 : cells ≤ mc) (h2 : slots ≤ ms) (kk : W p l e R s m args below meth c H locs mc ms Q g) : W p l e R s m args below meth c H locs cells slots Q g := W.widen h1 h2 kk
theorem z_xcallSv (C0 : Cx G own cc nL ret p s m args meth c) (hT : ∀ x ∈ c.exceptionTable.toList, False) (Z : Zs G s v H locs) (hl : ls.size = nL) {y : MethodName} {cy : ByteArray} {nLy : Nat} {rety : Option FieldType} {fr lo mcy msy index n : Nat} {As st0 : List Value} {Qy : V3 → Prop} (hM : Mx l y cy nLy rety fr lo mcy msy G As v (QvZ G Qy) X) (hgd : GoodIn tbg (va_wsS own index y (.code y cy nLy rety :: tbg))) (hd : dsc y n) (hR : fr + 1 ≤ R.frames ∧ 8 + (nLy + 11) + lo ≤ R.locals) (hn : As.length = n) (hst : st0 = As.reverse ++ rest) (hW : (rest.map fun v => v.category).sum ≤ 8) (hf : cells + mcy ≤ R.cells ∧ slots + msy ≤ R.slots) (hmc : cells + mcy ≤ mc ∧ slots + msy ≤ ms) (hdg : decode cc pc = .ok (.invokestatic index, 3))
    (kk : ∀ (u : V3) (H1 : Heap) (locs1 : List Loc), Qy u → Zs G s u H1 locs1 → W p l e R s m args below meth c H1 locs1 (cells + mcy) (slots + msy) (vx_MQ below Qc (XZ G X) args s mc ms (zA G)) (F0 m (pc + 3) ls rest)) : W p l e R s m args below meth c H locs cells slots (vx_MQ below Qc (XZ G X) args s mc ms (zA G)) (F0 m pc ls st0) := by
  obtain ⟨hx, hb, hml, -, hk, hown, hts, K, -⟩ := C0
  refine vx_callv (vx_runS (As := As) (rest := rest) ⟨hx, hb, hml, hown, hts⟩ hM (va_cwS n hts hgd rfl rfl rfl hd hR) ⟨PcZ.blind, fun U hU hW => Z.pre K hU hW⟩ rfl hn hl hst (lv_room hW) hdg hf) Z.2.2 (fun q _ h => h) (fun q h => h) (fun q _ h => h) (fun E ce q9 u t H1 locs1 ht hvm hp hB hz1 hk1 hS h9 hv9 hc9 => ?_) (fun u t H1 locs1 ht hvm hw hB hz1 hk1 hS => ?_)
  · refine vx_out (fun x hx => absurd (hT x hx) id) hk h9 hv9 hc9 (fun t2 ht2 hv2 => ⟨u, hp, ⟨hB.1, ?_, hB.2.2⟩, hS.F ht2⟩) hS.2.2 hmc.1 hmc.2
    have := hB.2.1
    rw [ht] at this
    rw [ht2]
    exact this
  · refine kk u H1 locs1 hw ⟨?_, hB.2, hS⟩
    have := hB.1
    rw [ht] at this
    exact this
theorem z_xcallVv (C0 : Cx G own cc nL ret p s m args meth c) (hT : ∀ x ∈ c.exceptionTable.toList, False) (Z : Zs G s v H locs) (hl : ls.size = nL) {y : MethodName} {cy : ByteArray} {nLy : Nat} {rety : Option FieldType} {fr lo mcy msy index n ci c0 : Nat} {C : String} {T : u_T} {N : Nat} {fs As st0 : List Value} {Qy : V3 → Prop} (hM : Mx l y cy nLy rety fr lo mcy msy G (.ref (gad G c0) :: As) v (QvZ G Qy) X) (hgd : GoodIn tbg (wsV own index C y (.code y cy nLy rety :: tbg))) (hyc : y.cls = C) (hd : dsc y n) (hR : fr + 1 ≤ R.frames ∧ 8 + (nLy + 11) + lo ≤ R.locals) (hc : vwCl[ci]? = some (C, T, N)) (hc0 : c0 < gn G) (he : ent G v c0 = .inr (ci, fs)) (hn : As.length = n) (hst : st0 = As.reverse ++ .ref (gad G c0) :: rest) (hW : (rest.map fun v => v.category).sum ≤ 8) (hf : cells + mcy ≤ R.cells ∧ slots + msy ≤ R.slots) (hmc : cells + mcy ≤ mc ∧ slots + msy ≤ ms) (hdg : decode cc pc = .ok (.invokevirtual index, 3))
    (kk : ∀ (u : V3) (H1 : Heap) (locs1 : List Loc), Qy u → Zs G s u H1 locs1 → W p l e R s m args below meth c H1 locs1 (cells + mcy) (slots + msy) (vx_MQ below Qc (XZ G X) args s mc ms (zA G)) (F0 m (pc + 3) ls rest)) : W p l e R s m args below meth c H locs cells slots (vx_MQ below Qc (XZ G X) args s mc ms (zA G)) (F0 m pc ls st0) := by
  obtain ⟨hx, hb, hml, -, hk, hown, hts, K, -⟩ := C0
  refine vx_callv (vx_runV (As := As) (rest := rest) ⟨hx, hb, hml, hown, hts⟩ hM (cwV n hts hgd rfl rfl rfl ⟨hyc, hd⟩ hR) ⟨PcZ.blind, va_recv K.1 Z.1 hc (WS_get hc0 he), fun U hU hW => Z.pre K hU hW⟩ rfl hn hl hst (lv_room hW) hdg hf) Z.2.2 (fun q _ h => h) (fun q h => h) (fun q _ h => h) (fun E ce q9 u t H1 locs1 ht hvm hp hB hz1 hk1 hS h9 hv9 hc9 => ?_) (fun u t H1 locs1 ht hvm hw hB hz1 hk1 hS => ?_)
  · refine vx_out (fun x hx => absurd (hT x hx) id) hk h9 hv9 hc9 (fun t2 ht2 hv2 => ⟨u, hp, ⟨hB.1, ?_, hB.2.2⟩, hS.F ht2⟩) hS.2.2 hmc.1 hmc.2
    have := hB.2.1
    rw [ht] at this
    rw [ht2]
    exact this
  · refine kk u H1 locs1 hw ⟨?_, hB.2, hS⟩
    have := hB.1
    rw [ht] at this
    exact this
theorem cx_w2 (C0 : Cx G own cc nL ret p s m args meth c) {w : Cond} (h : w ∈ tbg ∨ w ∈ zThr) : w.before args s = true := by
  rcases h with h | h
  · exact cx_w C0 h
  · have h1 : ∀ w' : Cond, w' ∈ zThr → w'.onTables = true := by decide +kernel
    exact va_tabs (h1 w h) rfl ((cx_K C0).2.2.2.2.2.2.1 w h)
theorem z_thrown {t : State} (Z : Zs G s v H locs) {cls : String} (hw : X cls v) (hz : H.size ≤ t.heap.size) (hq : ∀ q : Nat, q < H.size → t.heap[q]? = H[q]?) : XZ G X cls s t :=
  ⟨(cls, v), hw, ⟨rfl, Z.1.kept (fun k q hk => hq q.1 (Z.1 k q hk).lt), Z.2.1⟩, Nat.le_trans Z.2.2.1 hz, fun q h1 h2 => (hq q (Nat.lt_of_lt_of_le h1 Z.2.2.1)).trans (Z.2.2.2.1 q h1 h2)⟩
theorem z_throwS (C0 : Cx G own cc nL ret p s m args meth c) (hst : l.stackTraces = false) (hT : ∀ x ∈ c.exceptionTable.toList, False) (Z : Zs G s v H locs) (hl : ls.size = nL) {cls text : String} {names : List String} {ik is ic : Nat} (hcls : Bundle.fit cls = true) (hnames : ∀ n ∈ names, Bundle.fit n = true) (hk : Cond.classLink own ik cls ∈ tbg) (hini : Cond.initialized cls ∈ tbg) (hq : (own, is, text) ∈ zMsg) (hat : ∀ w ∈ vx_atS own ic cls names, w ∈ tbg ∨ w ∈ zThr) (hgood : ∀ w ∈ Cond.classLink own ik cls :: Cond.initialized cls :: vx_atS own ic cls names, vx_ot w = true)
    (d0 : decode cc pc = .ok (.new ik, 3)) (d3 : decode cc (pc + 3) = .ok (.dup, 1)) (d4 : decode cc (pc + 4) = .ok (.ldc is, 2)) (d6 : decode cc (pc + 6) = .ok (.invokespecial ic, 3)) (d9 : decode cc (pc + 9) = .ok (.athrow, 1)) (hRf : names.length + 3 < R.frames) (hRl : (rest.map fun v => v.category).sum + (13 * (names.length + 1) + 43) ≤ R.locals) (hRc : cells + 1 ≤ R.cells) (hRs : slots + 6 ≤ R.slots) (hw : X cls v) (hc : cells + 1 ≤ mc) (hs : slots + 6 ≤ ms) :
    W p l e R s m args below meth c H locs cells slots (vx_MQ below Qc (XZ G X) args s mc ms (zA G)) (F0 m pc ls rest) := by
  obtain ⟨sa, hsa⟩ := (cx_K C0).2.2.2.1 _ hq
  exact vx_throwS C0.1 C0.2.1 hst (A := zA G) (cx_own C0) hcls hnames (cx_w C0 hk) (cx_w C0 hini) hsa (fun w hw => cx_w2 C0 (hat w hw)) hgood (cx_K C0).2.1.2.1.2.2.1 (cx_K C0).2.1.2.1.2.2.2 Z.2.2 (hl.trans C0.2.2.1.symm) d0 d3 d4 d6 d9 (fun x hx => absurd (hT x hx) id) hRf hRl hRc hRs C0.2.2.2.2.1 (fun t hvm hz hq => z_thrown Z hw hz hq) Z.2.2.2.2 hc hs
theorem z_throwSW (C0 : Cx G own cc nL ret p s m args meth c) (hst : l.stackTraces = false) (hT : ∀ x ∈ c.exceptionTable.toList, False) (Z : Zs G s v H locs) (hl : ls.size = nL) {cls text : String} {names : List String} {ik is ic : Nat} (hcls : Bundle.fit cls = true) (hnames : ∀ n ∈ names, Bundle.fit n = true) (hk : Cond.classLink own ik cls ∈ tbg) (hini : Cond.initialized cls ∈ tbg) (hq : (own, is, text) ∈ zMsg) (hat : ∀ w ∈ vx_atS own ic cls names, w ∈ tbg ∨ w ∈ zThr) (hgood : ∀ w ∈ Cond.classLink own ik cls :: Cond.initialized cls :: vx_atS own ic cls names, vx_ot w = true)
    (d0 : decode cc pc = .ok (.new ik, 3)) (d3 : decode cc (pc + 3) = .ok (.dup, 1)) (d4 : decode cc (pc + 4) = .ok (.ldc_w is, 3)) (d6 : decode cc (pc + 7) = .ok (.invokespecial ic, 3)) (d9 : decode cc (pc + 10) = .ok (.athrow, 1)) (hRf : names.length + 3 < R.frames) (hRl : (rest.map fun v => v.category).sum + (13 * (names.length + 1) + 43) ≤ R.locals) (hRc : cells + 1 ≤ R.cells) (hRs : slots + 6 ≤ R.slots) (hw : X cls v) (hc : cells + 1 ≤ mc) (hs : slots + 6 ≤ ms) :
    W p l e R s m args below meth c H locs cells slots (vx_MQ below Qc (XZ G X) args s mc ms (zA G)) (F0 m pc ls rest) := by
  obtain ⟨sa, hsa⟩ := (cx_K C0).2.2.2.1 _ hq
  exact vx_throwSW C0.1 C0.2.1 hst (A := zA G) (cx_own C0) hcls hnames (cx_w C0 hk) (cx_w C0 hini) hsa (fun w hw => cx_w2 C0 (hat w hw)) hgood (cx_K C0).2.1.2.1.2.2.1 (cx_K C0).2.1.2.1.2.2.2 Z.2.2 (hl.trans C0.2.2.1.symm) d0 d3 d4 d6 d9 (fun x hx => absurd (hT x hx) id) hRf hRl hRc hRs C0.2.2.2.2.1 (fun t hvm hz hq => z_thrown Z hw hz hq) Z.2.2.2.2 hc hs
end ZX
theorem nmE_fit : ∀ n ∈ nmE, Bundle.fit n = true := by decide +kernel
theorem eIA_fit : Bundle.fit eIA = true := by decide +kernel
theorem eIS_fit : Bundle.fit eIS = true := by decide +kernel
theorem eIO_fit : Bundle.fit eIO = true := by decide +kernel
end
section
theorem at_74 : ∀ w ∈ vx_atS RX3 74 eIS nmE, w ∈ tbg ∨ w ∈ zThr := by decide +kernel
theorem gd_74 : ∀ w ∈ Cond.classLink RX3 70 eIS :: Cond.initialized eIS :: vx_atS RX3 74 eIS nmE, vx_ot w = true := by decide +kernel
theorem at_165 : ∀ w ∈ vx_atS RX3 165 eIA nmE, w ∈ tbg ∨ w ∈ zThr := by decide +kernel
theorem gd_165 : ∀ w ∈ Cond.classLink RX3 161 eIA :: Cond.initialized eIA :: vx_atS RX3 165 eIA nmE, vx_ot w = true := by decide +kernel
theorem at_197 : ∀ w ∈ vx_atS RX3 197 eIO nmE, w ∈ tbg ∨ w ∈ zThr := by decide +kernel
theorem gd_197 : ∀ w ∈ Cond.classLink RX3 193 eIO :: Cond.initialized eIO :: vx_atS RX3 197 eIO nmE, vx_ot w = true := by decide +kernel
end
section
/-! METHODS WITH A TABLE, METHODS THAT MAKE CELLS, and calls of them -/
theorem met_ofWH {l : Launch} {y : MethodName} {ws ws' : List Cond} {rm : Room} {Pc : Array Value → State → Prop} {Qc : Array Value → State → Outcome → State → Prop} {mc ms : Nat} {free : Addr → Prop} {cc : ByteArray} {maxL : Nat} {ret : Option FieldType} {hh : List (Nat × Nat × Nat × Nat)}
    (hy : plainName y.cls = true) (hw : ws = Cond.codeWith y cc maxL ret hh :: ws')
    (body : ∀ p e s m args below meth c s₁, BodyLoose p l y (headSpec ws rm) cc maxL ret e s m args below meth c s₁ → c.maxLocals = maxL → Pc args s →
      W p l e (headSpec ws rm).room s m args below meth c s.heap [] 0 0 (MQ below Qc args s mc ms free) (entryFrame m args maxL)) : Met l y ws rm Pc Qc mc ms free := by
  refine MetFree.of_bodyS (code := cc) (maxLocals := maxL) (ret := ret) hy ?_ ?_
  · intro args s m h hn
    obtain ⟨m9, meth, c, hn9, h1, h2, h3, h4, -, h5, h6, -⟩ := Cond.codeWith_spec (atoms_spec (ws := ws) h _ (by rw [hw]; exact List.mem_cons_self))
    cases hn.symm.trans hn9
    exact ⟨meth, c, h1, h2, h3, h4, h5, h6⟩
  · intro p e s m args below meth c s₁ B hml hP _
    have hh0 : s₁.heap = s.heap := by rw [B.state]; rfl
    obtain ⟨t, a1, o, b1, b2, b3⟩ := body p e s m args below meth c s₁ B hml hP s₁ hh0 (Stand.of_body B)
    exact ⟨t, o, a1, b1, b2, ⟨b3.1, b3.2⟩⟩
abbrev Mh (l : Launch) (y : MethodName) (cc : ByteArray) (nL : Nat) (ret : Option FieldType) (hh : List (Nat × Nat × Nat × Nat)) (fr lo mc ms : Nat) (G : zG) (av : List Value) (v : V3) (Qc : Array Value → State → Outcome → State → Prop) : Prop :=
  Met l y (.codeWith y cc nL ret hh :: tbg) { frames := fr, cells := mc, slots := ms, locals := lo } (PcZ G av v) Qc mc ms (zA G)
theorem z_hofW {l : Launch} {y : MethodName} {cc : ByteArray} {nL : Nat} {ret : Option FieldType} {hh : List (Nat × Nat × Nat × Nat)} {fr lo mc ms : Nat} {G : zG} {av : List Value} {v : V3} {Qc : Array Value → State → Outcome → State → Prop} (hg : 116 ≤ gn G) (hy : plainName y.cls = true) (hfit : (lg_sl av).length ≤ nL)
    (body : ∀ p e s m args below meth c ls, Cx G y.cls cc nL ret p s m args meth c → c.exceptionTable.toList = tableOf hh → Zs G s v s.heap [] → lv_has ls nL (lv_args 0 av) → W p l e { frames := fr, cells := mc, slots := ms, locals := lo } s m args below meth c s.heap [] 0 0 (MQ below Qc args s mc ms (zA G)) (F0 m 0 ls [])) :
    Mh l y cc nL ret hh fr lo mc ms G av v Qc := by
  refine met_ofWH (cc := cc) (maxL := nL) (ret := ret) (hh := hh) hy rfl ?_
  intro p e s m args below meth c s₁ B hml hv
  obtain ⟨rfl, hR, K⟩ := hv
  have hts : ∀ w ∈ tbg, w.before av.toArray s = true := fun w h => atoms_spec (ws := .codeWith y cc nL ret hh :: tbg) B.pre w (List.mem_cons_of_mem _ h)
  have hT : c.exceptionTable.toList = tableOf hh := vx_table (x := y) B (atoms_spec (ws := .codeWith y cc nL ret hh :: tbg) B.pre _ List.mem_cons_self)
  have hown : s.vm.findClass y.cls = some m.cls := findClass_of_methodNamed B.named
  have hl := lv_entry av (n := nL) hfit
  rw [lg_entry_eq]
  generalize (lg_sl av ++ List.replicate (nL - (lg_sl av).length) Slot.unset).toArray = ls at hl ⊢
  exact body p e s m av.toArray below meth c ls ⟨B.exec, B.bytes, hml, B.returns, B.notSynchronized, hown, hts, K, hg⟩ hT ⟨hR.1, hR.2, va_S.rf⟩ hl
/-- what a method that catches answers -/
def XL (cs : List (String × Int32)) (Q : Int32 → V3 → Prop) (E : String) (u : V3) : Prop := ∃ k, (E, k) ∈ cs ∧ Q k u
abbrev My (l : Launch) (y : MethodName) (cc : ByteArray) (nL : Nat) (ret : Option FieldType) (fr lo mc ms : Nat) (G : zG) (av : List Value) (v : V3) (Qc : Array Value → State → Outcome → State → Prop) : Prop :=
  Met l y (.code y cc nL ret :: tbg) { frames := fr, cells := mc, slots := ms, locals := lo } (PcZ G av v) Qc mc ms (zA G)
theorem z_yofW {l : Launch} {y : MethodName} {cc : ByteArray} {nL : Nat} {ret : Option FieldType} {fr lo mc ms : Nat} {G : zG} {av : List Value} {v : V3} {Qc : Array Value → State → Outcome → State → Prop} (hg : 116 ≤ gn G) (hy : plainName y.cls = true) (hfit : (lg_sl av).length ≤ nL)
    (body : ∀ p e s m args below meth c ls, Cx G y.cls cc nL ret p s m args meth c → Zs G s v s.heap [] → lv_has ls nL (lv_args 0 av) → W p l e { frames := fr, cells := mc, slots := ms, locals := lo } s m args below meth c s.heap [] 0 0 (MQ below Qc args s mc ms (zA G)) (F0 m 0 ls [])) :
    My l y cc nL ret fr lo mc ms G av v Qc := by
  refine Met.ofW (cc := cc) (maxL := nL) (ret := ret) hy rfl ?_
  intro p e s m args below meth c s₁ B hml hv
  obtain ⟨rfl, hR, K⟩ := hv
  have hts : ∀ w ∈ tbg, w.before av.toArray s = true := fun w h => atoms_spec (ws := .code y cc nL ret :: tbg) B.pre w (List.mem_cons_of_mem _ h)
  have hown : s.vm.findClass y.cls = some m.cls := findClass_of_methodNamed B.named
  have hl := lv_entry av (n := nL) hfit
  rw [lg_entry_eq]
  generalize (lg_sl av ++ List.replicate (nL - (lg_sl av).length) Slot.unset).toArray = ls at hl ⊢
  exact body p e s m av.toArray below meth c ls ⟨B.exec, B.bytes, hml, B.returns, B.notSynchronized, hown, hts, K, hg⟩ ⟨hR.1, hR.2, va_S.rf⟩ hl
section ZRW
variable {p : Program} {l : Launch} {e : Env} {R : Room} {s : State} {m : MethodId} {args : Array Value} {below : List Frame} {meth : Method} {c : Code} {H : Heap} {locs : List Loc} {cells slots : Nat} {Q : State → Prop}
variable {cc : ByteArray} {pc nL : Nat} {ls : Array Slot} {rest : List Value} {G : zG} {v : V3} {own : String} {ret : Option FieldType}
theorem z_hcallVi (C0 : Cx G own cc nL ret p s m args meth c) (Z : Zs G s v H locs) (hl : ls.size = nL) {y : MethodName} {cy : ByteArray} {nLy : Nat} {rety : Option FieldType} {fr lo mcy msy index n ci c0 : Nat} {C : String} {T : u_T} {N : Nat} {fs As st0 : List Value} {Qy : Int32 → V3 → Prop} {X : String → V3 → Prop} (hM : Mx l y cy nLy rety fr lo mcy msy G (.ref (gad G c0) :: As) v (QiZ G Qy) X) (hgd : GoodIn tbg (wsV own index C y (.code y cy nLy rety :: tbg))) (hyc : y.cls = C) (hd : dsc y n) (hR : fr + 1 ≤ R.frames ∧ 8 + (nLy + 11) + lo ≤ R.locals) (hc : vwCl[ci]? = some (C, T, N)) (hc0 : c0 < gn G) (he : ent G v c0 = .inr (ci, fs)) (hn : As.length = n) (hst : st0 = As.reverse ++ .ref (gad G c0) :: rest) (hW : (rest.map fun v => v.category).sum ≤ 8) (hf : cells + mcy ≤ R.cells ∧ slots + msy ≤ R.slots) (hdg : decode cc pc = .ok (.invokevirtual index, 3))
    (kx : ∀ (E : String) (u : V3) (H1 : Heap) (locs1 : List Loc) (ce : Cell) (q9 : Addr), X E u → Zs G s u H1 locs1 → H1[q9]? = some ce → ce.vm = .none → s.vm.findClass E = some ce.cls → vx_W p l e R s m args below meth c H1 locs1 (cells + mcy) (slots + msy) Q (F0 m pc ls rest) q9)
    (kk : ∀ (r : Int32) (u : V3) (H1 : Heap) (locs1 : List Loc), Qy r u → Zs G s u H1 locs1 → W p l e R s m args below meth c H1 locs1 (cells + mcy) (slots + msy) Q (F0 m (pc + 3) ls (.int r :: rest))) : W p l e R s m args below meth c H locs cells slots Q (F0 m pc ls st0) := by
  obtain ⟨hx, hb, hml, -, -, hown, hts, K, -⟩ := C0
  refine vx_calli (vx_runV (As := As) (rest := rest) ⟨hx, hb, hml, hown, hts⟩ hM (cwV n hts hgd rfl rfl rfl ⟨hyc, hd⟩ hR) ⟨PcZ.blind, va_recv K.1 Z.1 hc (WS_get hc0 he), fun U hU hW => Z.pre K hU hW⟩ rfl hn hl hst (lv_room hW) hdg hf) Z.2.2 (fun q _ h => h) (fun q h => h) (fun q _ h => h) (fun E ce q9 u t H1 locs1 ht hvm hp hB hz1 hk1 hS h9 hv9 hc9 => ?_) (fun r u t H1 locs1 ht hvm hw hB hz1 hk1 hS => ?_)
  · have h2 := hB.2.1
    rw [ht] at h2
    exact kx E u.2 H1 locs1 ce q9 (by rw [hB.1]; exact hp) ⟨h2, hB.2.2, hS⟩ h9 hv9 hc9
  · refine kk r u H1 locs1 hw ⟨?_, hB.2, hS⟩
    have := hB.1
    rw [ht] at this
    exact this
theorem z_callVd (C0 : Cx G own cc nL ret p s m args meth c) (Z : Zs G s v H locs) (hl : ls.size = nL) {y : MethodName} {cy : ByteArray} {nLy : Nat} {rety : Option FieldType} {fr lo index n ci c0 : Nat} {C : String} {T : u_T} {N : Nat} {fs As st0 : List Value} {Qy : UInt64 → V3 → Prop} (hM : Mz l y cy nLy rety fr lo G (.ref (gad G c0) :: As) v (QdZ G Qy)) (hgd : GoodIn tbg (wsV own index C y (.code y cy nLy rety :: tbg))) (hyc : y.cls = C) (hd : dsc y n) (hR : fr + 1 ≤ R.frames ∧ 8 + (nLy + 11) + lo ≤ R.locals) (hc : vwCl[ci]? = some (C, T, N)) (hc0 : c0 < gn G) (he : ent G v c0 = .inr (ci, fs)) (hn : As.length = n) (hst : st0 = As.reverse ++ .ref (gad G c0) :: rest) (hW : (rest.map fun v => v.category).sum ≤ 8) (hf : cells ≤ R.cells ∧ slots ≤ R.slots) (hdg : decode cc pc = .ok (.invokevirtual index, 3))
    (kk : ∀ (r : UInt64) (u : V3) (H1 : Heap) (locs1 : List Loc), Qy r u → Zs G s u H1 locs1 → W p l e R s m args below meth c H1 locs1 cells slots Q (F0 m (pc + 3) ls (.double r :: rest))) : W p l e R s m args below meth c H locs cells slots Q (F0 m pc ls st0) := by
  obtain ⟨hx, hb, hml, -, -, hown, hts, K, -⟩ := C0
  refine va_calld (va_runV (As := As) (rest := rest) ⟨hx, hb, hml, hown, hts⟩ hM (cwV n hts hgd rfl rfl rfl ⟨hyc, hd⟩ hR) ⟨PcZ.blind, va_recv K.1 Z.1 hc (WS_get hc0 he), fun U hU hW => Z.pre K hU hW⟩ rfl hn hl hst (lv_room hW) hdg hf) Z.2.2 (fun q _ h => h) (fun q h => h) (fun r u t H1 locs1 ht hvm hw hB hz1 hk1 hS => ?_)
  refine kk r u H1 locs1 hw ⟨?_, hB.2, hS⟩
  have := hB.1
  rw [ht] at this
  exact this
theorem z_callH (C0 : Cx G own cc nL ret p s m args meth c) (Z : Zs G s v H locs) (hl : ls.size = nL) {y : MethodName} {cy : ByteArray} {nLy : Nat} {hh : List (Nat × Nat × Nat × Nat)} {fr lo mcy msy index n : Nat} {As st0 : List Value} {Qy : Int32 → V3 → Prop} (hM : Mh l y cy nLy (some .int) hh fr lo mcy msy G As v (QiZ G Qy)) (hgd : GoodIn tbg (va_wsS own index y (.codeWith y cy nLy (some .int) hh :: tbg))) (hd : dsc y n) (hR : fr + 1 ≤ R.frames ∧ 8 + (nLy + 11) + lo ≤ R.locals) (hn : As.length = n) (hst : st0 = As.reverse ++ rest) (hW : (rest.map fun v => v.category).sum ≤ 8) (hf : cells + mcy ≤ R.cells ∧ slots + msy ≤ R.slots) (hdg : decode cc pc = .ok (.invokestatic index, 3))
    (kk : ∀ (r : Int32) (u : V3) (H1 : Heap) (locs1 : List Loc), Qy r u → Zs G s u H1 locs1 → W p l e R s m args below meth c H1 locs1 (cells + mcy) (slots + msy) Q (F0 m (pc + 3) ls (.int r :: rest))) : W p l e R s m args below meth c H locs cells slots Q (F0 m pc ls st0) := by
  obtain ⟨hx, hb, hml, -, -, hown, hts, K, -⟩ := C0
  refine va_calli (vx_runSW (As := As) (rest := rest) ⟨hx, hb, hml, hown, hts⟩ hM (vx_cwSW n hts hgd rfl rfl rfl hd hR) ⟨PcZ.blind, fun U hU hW => Z.pre K hU hW⟩ rfl hn hl hst (lv_room hW) hdg hf) Z.2.2 (fun q _ h => h) (fun q h => h) (fun r u t H1 locs1 ht hvm hw hB hz1 hk1 hS => ?_)
  refine kk r u H1 locs1 hw ⟨?_, hB.2, hS⟩
  have := hB.1
  rw [ht] at this
  exact this
theorem z_callHd (C0 : Cx G own cc nL ret p s m args meth c) (Z : Zs G s v H locs) (hl : ls.size = nL) {y : MethodName} {cy : ByteArray} {nLy : Nat} {hh : List (Nat × Nat × Nat × Nat)} {fr lo mcy msy index n : Nat} {As st0 : List Value} {Qy : UInt64 → V3 → Prop} (hM : Mh l y cy nLy (some .double) hh fr lo mcy msy G As v (QdZ G Qy)) (hgd : GoodIn tbg (va_wsS own index y (.codeWith y cy nLy (some .double) hh :: tbg))) (hd : dsc y n) (hR : fr + 1 ≤ R.frames ∧ 8 + (nLy + 11) + lo ≤ R.locals) (hn : As.length = n) (hst : st0 = As.reverse ++ rest) (hW : (rest.map fun v => v.category).sum ≤ 8) (hf : cells + mcy ≤ R.cells ∧ slots + msy ≤ R.slots) (hdg : decode cc pc = .ok (.invokestatic index, 3))
    (kk : ∀ (r : UInt64) (u : V3) (H1 : Heap) (locs1 : List Loc), Qy r u → Zs G s u H1 locs1 → W p l e R s m args below meth c H1 locs1 (cells + mcy) (slots + msy) Q (F0 m (pc + 3) ls (.double r :: rest))) : W p l e R s m args below meth c H locs cells slots Q (F0 m pc ls st0) := by
  obtain ⟨hx, hb, hml, -, -, hown, hts, K, -⟩ := C0
  refine va_calld (vx_runSW (As := As) (rest := rest) ⟨hx, hb, hml, hown, hts⟩ hM (vx_cwSW n hts hgd rfl rfl rfl hd hR) ⟨PcZ.blind, fun U hU hW => Z.pre K hU hW⟩ rfl hn hl hst (lv_room hW) hdg hf) Z.2.2 (fun q _ h => h) (fun q h => h) (fun r u t H1 locs1 ht hvm hw hB hz1 hk1 hS => ?_)
  refine kk r u H1 locs1 hw ⟨?_, hB.2, hS⟩
  have := hB.1
  rw [ht] at this
  exact this
theorem z_ycallVi (C0 : Cx G own cc nL ret p s m args meth c) (Z : Zs G s v H locs) (hl : ls.size = nL) {y : MethodName} {cy : ByteArray} {nLy : Nat} {rety : Option FieldType} {fr lo mcy msy index n ci c0 : Nat} {C : String} {T : u_T} {N : Nat} {fs As st0 : List Value} {Qy : Int32 → V3 → Prop} (hM : My l y cy nLy rety fr lo mcy msy G (.ref (gad G c0) :: As) v (QiZ G Qy)) (hgd : GoodIn tbg (wsV own index C y (.code y cy nLy rety :: tbg))) (hyc : y.cls = C) (hd : dsc y n) (hR : fr + 1 ≤ R.frames ∧ 8 + (nLy + 11) + lo ≤ R.locals) (hc : vwCl[ci]? = some (C, T, N)) (hc0 : c0 < gn G) (he : ent G v c0 = .inr (ci, fs)) (hn : As.length = n) (hst : st0 = As.reverse ++ .ref (gad G c0) :: rest) (hW : (rest.map fun v => v.category).sum ≤ 8) (hf : cells + mcy ≤ R.cells ∧ slots + msy ≤ R.slots) (hdg : decode cc pc = .ok (.invokevirtual index, 3))
    (kk : ∀ (r : Int32) (u : V3) (H1 : Heap) (locs1 : List Loc), Qy r u → Zs G s u H1 locs1 → W p l e R s m args below meth c H1 locs1 (cells + mcy) (slots + msy) Q (F0 m (pc + 3) ls (.int r :: rest))) : W p l e R s m args below meth c H locs cells slots Q (F0 m pc ls st0) := by
  obtain ⟨hx, hb, hml, -, -, hown, hts, K, -⟩ := C0
  refine va_calli (va_runV (As := As) (rest := rest) ⟨hx, hb, hml, hown, hts⟩ hM (cwV n hts hgd rfl rfl rfl ⟨hyc, hd⟩ hR) ⟨PcZ.blind, va_recv K.1 Z.1 hc (WS_get hc0 he), fun U hU hW => Z.pre K hU hW⟩ rfl hn hl hst (lv_room hW) hdg hf) Z.2.2 (fun q _ h => h) (fun q h => h) (fun r u t H1 locs1 ht hvm hw hB hz1 hk1 hS => ?_)
  refine kk r u H1 locs1 hw ⟨?_, hB.2, hS⟩
  have := hB.1
  rw [ht] at this
  exact this
end ZRW
end
