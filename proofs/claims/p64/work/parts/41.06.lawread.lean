/-! THE LAW READ, printed by program (wip/law/genlaw.py) -/
theorem zx_L_12 : zB_L_12.all (fun q => zm_sokB (zm_flat zw_L) room_1 R_law code [] q.2 q.1) = true := by decide +kernel
theorem zx_L_13 : zB_L_13.all (fun q => zm_sokB (zm_flat zw_L) room_1 R_law code [] q.2 q.1) = true := by decide +kernel
