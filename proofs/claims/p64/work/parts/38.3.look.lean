/-! THE LISTS, looked up -/
theorem zs_4 : zm_strs.all (fun q => decide (Jvm.Cond.stringRef RX8 q.1 q.2 ∈ lw_tbl)) = true := by decide +kernel
