/-! THE LISTS, looked up -/
theorem zs_6 : (decide (Jvm.Cond.arrayOver (.object RX0) ∈ lw_tbl) && decide (Jvm.Cond.arrayOver (.object RX2) ∈ lw_tbl) && decide (Jvm.Cond.arrayOver (.object RX7) ∈ lw_tbl)) = true := by decide +kernel
