/-! the grid rows stand on a part of the library that a first round doesn't read: met here first -/
abbrev gOuter := Jvm.Free.Multi.outerC
