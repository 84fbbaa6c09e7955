theorem at_74 : ∀ w ∈ vx_atS RX3 74 eIS nmE, w ∈ tbg ∨ w ∈ zThr := by decide +kernel
theorem gd_74 : ∀ w ∈ Cond.classLink RX3 70 eIS :: Cond.initialized eIS :: vx_atS RX3 74 eIS nmE, vx_ot w = true := by decide +kernel
theorem at_165 : ∀ w ∈ vx_atS RX3 165 eIA nmE, w ∈ tbg ∨ w ∈ zThr := by decide +kernel
theorem gd_165 : ∀ w ∈ Cond.classLink RX3 161 eIA :: Cond.initialized eIA :: vx_atS RX3 165 eIA nmE, vx_ot w = true := by decide +kernel
theorem at_197 : ∀ w ∈ vx_atS RX3 197 eIO nmE, w ∈ tbg ∨ w ∈ zThr := by decide +kernel
theorem gd_197 : ∀ w ∈ Cond.classLink RX3 193 eIO :: Cond.initialized eIO :: vx_atS RX3 197 eIO nmE, vx_ot w = true := by decide +kernel
