/-! THE LAW READ, printed by program (wip/law/genlaw.py) -/
theorem zx_L_11a : (zB_L_11.take 7).all (fun q => zm_sokB (zm_flat zw_L) room_1 R_law code [] q.2 q.1) = true := by decide +kernel
theorem zx_L_11b : ((zB_L_11.drop 7).take 5).all (fun q => zm_sokB (zm_flat zw_L) room_1 R_law code [] q.2 q.1) = true := by decide +kernel
