/-! WHAT THE TWO CONSTRUCTORS MAKE -/
def zL_S0 : zn_S := ((0, [some (.retAddr 100), none, none, none], [], (fun _ _ => 0, fun _ _ => 0)), [], 0, 0)
theorem zL_t1 : (zN_X2_init [(.inl 2, List.replicate 10 .null)] [.ref 0] (fun _ _ => 0, fun _ _ => 0)).isSome = true := by decide +kernel
