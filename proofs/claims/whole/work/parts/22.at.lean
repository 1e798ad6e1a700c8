/-! ===== methods that throw: a contract that counts a cell on a throw alone ===== -/
abbrev ISE : String := "java/lang/IllegalStateException"
abbrev IAE : String := "java/lang/IllegalArgumentException"
abbrev IOE : String := "java/lang/IndexOutOfBoundsException"
abbrev nmX : List String := ["java/lang/RuntimeException", "java/lang/Exception"]
def Tf (w : Cond) : Bool := w.onTables && w.keepsFace
theorem at_f75 : ((vx_atS RX9 75 ISE nmX).all Tf) = true := by decide +kernel
theorem at_f64 : ((vx_atS RX9 64 IAE nmX).all Tf) = true := by decide +kernel
theorem at_f226 : ((vx_atS RX9 226 IOE nmX).all Tf) = true := by decide +kernel
theorem at_in75 : ((vx_atS RX9 75 ISE nmX).all (fun w => decide (w ∈ tables_1))) = true := by decide +kernel
theorem at_in64 : ((vx_atS RX9 64 IAE nmX).all (fun w => decide (w ∈ tables_1))) = true := by decide +kernel
theorem at_in226 : ((vx_atS RX9 226 IOE nmX).all (fun w => decide (w ∈ tables_1))) = true := by decide +kernel
theorem at_g75 : ∀ w ∈ Cond.classLink RX9 71 ISE :: Cond.initialized ISE :: vx_atS RX9 75 ISE nmX, vx_ot w = true := by decide +kernel
theorem at_g64 : ∀ w ∈ Cond.classLink RX9 60 IAE :: Cond.initialized IAE :: vx_atS RX9 64 IAE nmX, vx_ot w = true := by decide +kernel
theorem at_g226 : ∀ w ∈ Cond.classLink RX9 222 IOE :: Cond.initialized IOE :: vx_atS RX9 226 IOE nmX, vx_ot w = true := by decide +kernel
