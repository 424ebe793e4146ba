/-! THE LISTS, looked up -/
theorem zs_2 : (List.range 13).all (fun i => (List.range (zm_slen.getD i 0)).all (fun j => decide (Jvm.Cond.eq (.elem (zs_v i) (.int (Int32.ofNat j))) (.int ((zm_sbyt.getD i []).getD j 0)) ∈ zs_fl))) = true := by decide +kernel
