/-! words of a method with a table -/
theorem z_goodSW {own : String} {index : Nat} {y : MethodName} {cc : ByteArray} {nL : Nat} {ret : Option FieldType} {hh : List (Nat × Nat × Nat × Nat)} (h1 : Cond.methodLink own index y ∈ tbg) (h2 : Cond.static y ∈ tbg) (h4 : Cond.initialized y.cls ∈ tbg) (h5 : Cond.codeWith y cc nL ret hh ∈ tbg) : GoodIn tbg (va_wsS own index y (.codeWith y cc nL ret hh :: tbg)) := by
  refine tbg_good fun w hw => ?_
  simp only [va_wsS, List.cons_append, List.nil_append, List.mem_cons] at hw
  rcases hw with rfl | rfl | rfl | rfl | hw
  · exact h1
  · exact h2
  · exact h4
  · exact h5
  · exact hw
