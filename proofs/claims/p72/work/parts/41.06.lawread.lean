/-! THE LAW READ, printed by program (wip/law/genlaw.py) -/
theorem zx_L_11c : ((zB_L_11.drop 7).drop 5).all (fun q => zm_sokB (zm_flat zw_L) room_1 R_law code [] q.2 q.1) = true := by decide +kernel
theorem zx_L_11 : zB_L_11.all (fun q => zm_sokB (zm_flat zw_L) room_1 R_law code [] q.2 q.1) = true := by
  rw [← List.take_append_drop 7 zB_L_11, List.all_append, zx_L_11a, ← List.take_append_drop 5 (zB_L_11.drop 7), List.all_append, zx_L_11b, zx_L_11c]
  rfl
