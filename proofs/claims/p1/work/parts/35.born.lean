/-! WHAT THE TWO CONSTRUCTORS MAKE -/
def zL_S0 : zn_S := ((0, [some (.retAddr 100), none, none, none], [], (fun _ _ => 0, fun _ _ => 0)), [], 0, 0)
theorem zL_t3 : (zn_go zU_L0 18 12 zL_S0).isSome = true := by decide +kernel
def zL_S1 : zn_S := match zn_go zU_L0 18 12 zL_S0 with
  | some S => S
  | none => zL_S0
theorem zL_t4 : zL_S1.2.1.length = 196 := by decide +kernel
theorem zL_t5 : zL_S1.1.2.1 = [some (.retAddr 100), some (.ref 0), some (.ref 165), some (.int 0)] := by decide +kernel
