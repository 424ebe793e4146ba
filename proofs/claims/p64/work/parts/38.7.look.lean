/-! THE LISTS, looked up -/
theorem zs_8 : (decide (Jvm.Cond.arrayClass .int ∈ lw_tbl) && decide (Jvm.Cond.arrayClass .long ∈ lw_tbl) && decide (Jvm.Cond.arrayClass .byte ∈ lw_tbl) && decide (Jvm.Cond.arrayClass .boolean ∈ lw_tbl)) = true := by decide +kernel
