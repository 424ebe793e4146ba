/-! THE LISTS, looked up -/
theorem zs_3 : (List.range 13).all (fun i => (List.range 13).all (fun j => Nat.beq i j || decide (Jvm.Cond.not (.eq (zs_tm i) (zs_tm j)) ∈ zs_fl) || decide (Jvm.Cond.not (.eq (zs_tm j) (zs_tm i)) ∈ zs_fl))) = true := by decide +kernel
