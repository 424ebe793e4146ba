/-! THE LISTS, looked up -/
theorem zs_7 : zm_cl.all (fun r => decide (Jvm.Cond.instantiable r.1 r.2.2 ∈ lw_tbl)) = true := by decide +kernel
