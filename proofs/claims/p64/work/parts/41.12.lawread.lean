/-! THE LAW READ, printed by program (wip/law/genlaw.py) -/
theorem zx_L_22b : ((zB_L_22.drop 4).take 3).all (fun q => zm_sokB (zm_flat zw_L) room_1 R_law code [] q.2 q.1) = true := by decide +kernel
