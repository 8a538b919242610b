/-! the class's led, which throws; the law's led, which catches it -/
abbrev nsE : String := "java/util/NoSuchElementException"
def nsW : List Cond := vx_at0 "CountOffice" 404 nsE ["java/lang/RuntimeException", "java/lang/Exception"]
theorem nsW_ot : (nsW.all fun w => vx_ot w) = true := by decide +kernel
theorem nsW_in : (nsW.all fun w => decide (w ∈ lw_tbl) && gd w) = true := by decide +kernel
