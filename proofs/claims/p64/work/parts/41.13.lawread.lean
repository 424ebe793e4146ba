/-! THE LAW READ, printed by program (wip/law/genlaw.py) -/
theorem zx_L_22c : (((zB_L_22.drop 4).drop 3)).all (fun q => zm_sokB (zm_flat zw_L) room_1 R_law code [] q.2 q.1) = true := by decide +kernel
theorem zx_L_22 : zB_L_22.all (fun q => zm_sokB (zm_flat zw_L) room_1 R_law code [] q.2 q.1) = true := by
  rw [← List.take_append_drop 4 (zB_L_22), List.all_append, zx_L_22a, ← List.take_append_drop 3 ((zB_L_22.drop 4)), List.all_append, zx_L_22b, zx_L_22c]
  rfl
