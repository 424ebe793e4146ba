/-! THE LISTS, looked up -/
theorem zs_5 : zn_nest.all (fun q => decide (Jvm.Cond.methodLinkNest q.1 q.2.1 q.2.2 "WearingBench" ∈ lw_tbl)) = true := by decide +kernel
