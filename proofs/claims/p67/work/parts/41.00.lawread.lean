/-! 41.00.lawread, 41.01.lawread, 41.02.lawread, 41.03.lawread, 41.04.lawread, 41.05.lawread, 41.06.lawread, 41.07.lawread, 41.08.lawread, 41.09.lawread, 41.10.lawread, 41.11.lawread, 41.12.lawread, 41.13.lawread -/
section
/-! THE LAW READ, printed by program (wip/law/genlaw.py) -/
theorem zx_L_0 : zB_L_0.all (fun q => zm_sokB (zm_flat zw_L) room_1 R_law code [] q.2 q.1) = true := by decide +kernel
theorem zx_L_1 : zB_L_1.all (fun q => zm_sokB (zm_flat zw_L) room_1 R_law code [] q.2 q.1) = true := by decide +kernel
end
section
/-! THE LAW READ, printed by program (wip/law/genlaw.py) -/
theorem zx_L_2 : zB_L_2.all (fun q => zm_sokB (zm_flat zw_L) room_1 R_law code [] q.2 q.1) = true := by decide +kernel
theorem zx_L_3 : zB_L_3.all (fun q => zm_sokB (zm_flat zw_L) room_1 R_law code [] q.2 q.1) = true := by decide +kernel
end
section
/-! THE LAW READ, printed by program (wip/law/genlaw.py) -/
theorem zx_L_4 : zB_L_4.all (fun q => zm_sokB (zm_flat zw_L) room_1 R_law code [] q.2 q.1) = true := by decide +kernel
theorem zx_L_5 : zB_L_5.all (fun q => zm_sokB (zm_flat zw_L) room_1 R_law code [] q.2 q.1) = true := by decide +kernel
end
section
/-! THE LAW READ, printed by program (wip/law/genlaw.py) -/
theorem zx_L_6 : zB_L_6.all (fun q => zm_sokB (zm_flat zw_L) room_1 R_law code [] q.2 q.1) = true := by decide +kernel
theorem zx_L_7 : zB_L_7.all (fun q => zm_sokB (zm_flat zw_L) room_1 R_law code [] q.2 q.1) = true := by decide +kernel
end
section
/-! THE LAW READ, printed by program (wip/law/genlaw.py) -/
theorem zx_L_8 : zB_L_8.all (fun q => zm_sokB (zm_flat zw_L) room_1 R_law code [] q.2 q.1) = true := by decide +kernel
theorem zx_L_9 : zB_L_9.all (fun q => zm_sokB (zm_flat zw_L) room_1 R_law code [] q.2 q.1) = true := by decide +kernel
end
section
/-! THE LAW READ, printed by program (wip/law/genlaw.py) -/
theorem zx_L_10 : zB_L_10.all (fun q => zm_sokB (zm_flat zw_L) room_1 R_law code [] q.2 q.1) = true := by decide +kernel
theorem zx_L_11 : zB_L_11.all (fun q => zm_sokB (zm_flat zw_L) room_1 R_law code [] q.2 q.1) = true := by decide +kernel
end
section
/-! THE LAW READ, printed by program (wip/law/genlaw.py) -/
theorem zx_L_12 : zB_L_12.all (fun q => zm_sokB (zm_flat zw_L) room_1 R_law code [] q.2 q.1) = true := by decide +kernel
theorem zx_L_13 : zB_L_13.all (fun q => zm_sokB (zm_flat zw_L) room_1 R_law code [] q.2 q.1) = true := by decide +kernel
end
section
/-! THE LAW READ, printed by program (wip/law/genlaw.py) -/
theorem zx_L_14 : zB_L_14.all (fun q => zm_sokB (zm_flat zw_L) room_1 R_law code [] q.2 q.1) = true := by decide +kernel
theorem zx_L_15 : zB_L_15.all (fun q => zm_sokB (zm_flat zw_L) room_1 R_law code [] q.2 q.1) = true := by decide +kernel
end
section
/-! THE LAW READ, printed by program (wip/law/genlaw.py) -/
theorem zx_L_16 : zB_L_16.all (fun q => zm_sokB (zm_flat zw_L) room_1 R_law code [] q.2 q.1) = true := by decide +kernel
theorem zx_L_17 : zB_L_17.all (fun q => zm_sokB (zm_flat zw_L) room_1 R_law code [] q.2 q.1) = true := by decide +kernel
end
section
/-! THE LAW READ, printed by program (wip/law/genlaw.py) -/
theorem zx_L_18 : zB_L_18.all (fun q => zm_sokB (zm_flat zw_L) room_1 R_law code [] q.2 q.1) = true := by decide +kernel
theorem zx_L_19 : zB_L_19.all (fun q => zm_sokB (zm_flat zw_L) room_1 R_law code [] q.2 q.1) = true := by decide +kernel
end
section
/-! THE LAW READ, printed by program (wip/law/genlaw.py) -/
theorem zx_L_20 : zB_L_20.all (fun q => zm_sokB (zm_flat zw_L) room_1 R_law code [] q.2 q.1) = true := by decide +kernel
theorem zx_L_21 : zB_L_21.all (fun q => zm_sokB (zm_flat zw_L) room_1 R_law code [] q.2 q.1) = true := by decide +kernel
end
section
/-! THE LAW READ, printed by program (wip/law/genlaw.py) -/
theorem zx_L_22a : (zB_L_22.take 4).all (fun q => zm_sokB (zm_flat zw_L) room_1 R_law code [] q.2 q.1) = true := by decide +kernel
end
section
/-! THE LAW READ, printed by program (wip/law/genlaw.py) -/
theorem zx_L_22b : ((zB_L_22.drop 4).take 3).all (fun q => zm_sokB (zm_flat zw_L) room_1 R_law code [] q.2 q.1) = true := by decide +kernel
end
section
/-! THE LAW READ, printed by program (wip/law/genlaw.py) -/
theorem zx_L_22c : (((zB_L_22.drop 4).drop 3)).all (fun q => zm_sokB (zm_flat zw_L) room_1 R_law code [] q.2 q.1) = true := by decide +kernel
theorem zx_L_22 : zB_L_22.all (fun q => zm_sokB (zm_flat zw_L) room_1 R_law code [] q.2 q.1) = true := by
  rw [← List.take_append_drop 4 (zB_L_22), List.all_append, zx_L_22a, ← List.take_append_drop 3 ((zB_L_22.drop 4)), List.all_append, zx_L_22b, zx_L_22c]
  rfl
end
