/-! WHAT CALLS ANSWER OVER BOXES OF THEIR ARGUMENTS (printed by program, wip/abs/reg.py) -/
-- X10_in M
def zi_2100_K : Nat × (List zt_A × List zt_C × List Nat) × zt_W × List zt_O := (22, ([(1, .negSucc 2147483647, .negSucc 0, 1, []), (1, .ofNat 0, .ofNat 0, 1, []), (1, .ofNat 2, .ofNat 2, 1, [])], [], []), [], [(some ((0, .ofNat 0, .ofNat 0, 0, [])), [], [], [])])
def zi_2100_A : zt_An := [(0, [(([some (1, .negSucc 2147483647, .negSucc 0, 1, []), none, some (1, .ofNat 0, .ofNat 0, 1, []), none, some (1, .ofNat 2, .ofNat 2, 1, []), none], [], [], []), .ofNat 2, [])]), (17, [(([some (1, .negSucc 2147483647, .negSucc 0, 1, []), none, some (1, .ofNat 0, .ofNat 0, 1, []), none, some (1, .ofNat 2, .ofNat 2, 1, []), none], [], [], []), .ofNat 1, [])]), (18, [(([some (1, .negSucc 2147483647, .negSucc 0, 1, []), none, some (1, .ofNat 0, .ofNat 0, 1, []), none, some (1, .ofNat 2, .ofNat 2, 1, []), none], [(0, .ofNat 0, .ofNat 0, 0, [])], [], []), .ofNat 0, [])])]
def zi_2100_Ks : List (Nat × List zt_K) := []
def zi_2100_H : zt_H := ((zo_w22, 22, zo_Sg), (zo_g22, zi_2100_K.2.2.1, [0, 2, 4], zo_U), [], ((some .boolean), zi_2100_K.2.2.2, zi_2100_K.2.1.1), zi_2100_Ks)
theorem zi_2100_c : zt_chk zi_2100_H (zB_X10_in, [], [17, 18]) 2 zi_2100_A 6 (zo_hd, zi_2100_K) = true := by decide +kernel
theorem zi_2100 (v : Nat) (hd : Nat × Option Nat × Bool × List (Nat × Nat)) : zt_Con zo_Om (zo_Rel v) (hd, zi_2100_K) zF_X10_in := zt_con (K := (zo_hd, zi_2100_K)) (T := zT_X10_in) (w0 := zo_w22) (G := zo_g22) (zo_UR v) rfl zo_sg rfl rfl rfl (zt_ksok_of (Ks := zi_2100_Ks) zt_k0) zi_2100_c
-- X10_image M
def zi_2101_K : Nat × (List zt_A × List zt_C × List Nat) × zt_W × List zt_O := (22, ([zjr 0, zj (.negSucc 2147483647) (.negSucc 0)], [], []), [(0, 0, 0)], [(some ((0, .negSucc 1, .negSucc 1, 0, [])), [], [], [])])
def zi_2101_A : zt_An := [(0, [(([some (zjr 0), some (zj (.negSucc 2147483647) (.negSucc 0))], [], [], []), .ofNat 0, [])])]
def zi_2101_Ks : List (Nat × List zt_K) := [(112, [((3, none, true, []), zi_2100_K)])]
def zi_2101_H : zt_H := ((zo_w22, 22, zo_Sg), (zo_g22, zi_2101_K.2.2.1, [0, 1], zo_U), [(486, .long (2))], ((some .int), zi_2101_K.2.2.2, zi_2101_K.2.1.1), zi_2101_Ks)
theorem zi_2101_c : zt_chk zi_2101_H (zB_X10_image, [], []) 4 zi_2101_A 2 (zo_hd, zi_2101_K) = true := by decide +kernel
theorem zi_2101 (v : Nat) (hd : Nat × Option Nat × Bool × List (Nat × Nat)) : zt_Con zo_Om (zo_Rel v) (hd, zi_2101_K) zF_X10_image := zt_con (K := (zo_hd, zi_2101_K)) (T := zT_X10_image) (w0 := zo_w22) (G := zo_g22) (zo_UR v) rfl zo_sg rfl rfl rfl (zt_ksok_of (Ks := zi_2101_Ks) (zt_k1 rfl (zt_k2 rfl (zi_2100 v _) zt_k3) zt_k0)) zi_2101_c
-- X10_in M
def zi_2102_K : Nat × (List zt_A × List zt_C × List Nat) × zt_W × List zt_O := (22, ([(1, .ofNat 3, .ofNat 2147483647, 1, []), (1, .ofNat 0, .ofNat 0, 1, []), (1, .ofNat 2, .ofNat 2, 1, [])], [], []), [], [(some ((0, .ofNat 0, .ofNat 0, 0, [])), [], [], [])])
def zi_2102_A : zt_An := [(0, [(([some (1, .ofNat 3, .ofNat 2147483647, 1, []), none, some (1, .ofNat 0, .ofNat 0, 1, []), none, some (1, .ofNat 2, .ofNat 2, 1, []), none], [], [], []), .ofNat 2, [])]), (17, [(([some (1, .ofNat 3, .ofNat 2147483647, 1, []), none, some (1, .ofNat 0, .ofNat 0, 1, []), none, some (1, .ofNat 2, .ofNat 2, 1, []), none], [], [], []), .ofNat 1, [])]), (18, [(([some (1, .ofNat 3, .ofNat 2147483647, 1, []), none, some (1, .ofNat 0, .ofNat 0, 1, []), none, some (1, .ofNat 2, .ofNat 2, 1, []), none], [(0, .ofNat 0, .ofNat 0, 0, [])], [], []), .ofNat 0, [])])]
def zi_2102_Ks : List (Nat × List zt_K) := []
def zi_2102_H : zt_H := ((zo_w22, 22, zo_Sg), (zo_g22, zi_2102_K.2.2.1, [0, 2, 4], zo_U), [], ((some .boolean), zi_2102_K.2.2.2, zi_2102_K.2.1.1), zi_2102_Ks)
theorem zi_2102_c : zt_chk zi_2102_H (zB_X10_in, [], [17, 18]) 3 zi_2102_A 6 (zo_hd, zi_2102_K) = true := by decide +kernel
theorem zi_2102 (v : Nat) (hd : Nat × Option Nat × Bool × List (Nat × Nat)) : zt_Con zo_Om (zo_Rel v) (hd, zi_2102_K) zF_X10_in := zt_con (K := (zo_hd, zi_2102_K)) (T := zT_X10_in) (w0 := zo_w22) (G := zo_g22) (zo_UR v) rfl zo_sg rfl rfl rfl (zt_ksok_of (Ks := zi_2102_Ks) zt_k0) zi_2102_c
-- X10_image M
def zi_2103_K : Nat × (List zt_A × List zt_C × List Nat) × zt_W × List zt_O := (22, ([zjr 0, zj (.ofNat 3) (.ofNat 2147483647)], [], []), [(0, 0, 0)], [(some ((0, .negSucc 1, .negSucc 1, 0, [])), [], [], [])])
def zi_2103_A : zt_An := [(0, [(([some (zjr 0), some (zj (.ofNat 3) (.ofNat 2147483647))], [], [], []), .ofNat 0, [])])]
def zi_2103_Ks : List (Nat × List zt_K) := [(112, [((3, none, true, []), zi_2102_K)])]
def zi_2103_H : zt_H := ((zo_w22, 22, zo_Sg), (zo_g22, zi_2103_K.2.2.1, [0, 1], zo_U), [(486, .long (2))], ((some .int), zi_2103_K.2.2.2, zi_2103_K.2.1.1), zi_2103_Ks)
theorem zi_2103_c : zt_chk zi_2103_H (zB_X10_image, [], []) 4 zi_2103_A 2 (zo_hd, zi_2103_K) = true := by decide +kernel
theorem zi_2103 (v : Nat) (hd : Nat × Option Nat × Bool × List (Nat × Nat)) : zt_Con zo_Om (zo_Rel v) (hd, zi_2103_K) zF_X10_image := zt_con (K := (zo_hd, zi_2103_K)) (T := zT_X10_image) (w0 := zo_w22) (G := zo_g22) (zo_UR v) rfl zo_sg rfl rfl rfl (zt_ksok_of (Ks := zi_2103_Ks) (zt_k1 rfl (zt_k2 rfl (zi_2102 v _) zt_k3) zt_k0)) zi_2103_c
-- X10_in M
def zi_2104_K : Nat × (List zt_A × List zt_C × List Nat) × zt_W × List zt_O := (22, ([(1, .ofNat 0, .ofNat 0, 1, []), (1, .ofNat 0, .ofNat 0, 1, []), (1, .ofNat 2, .ofNat 2, 1, [])], [], []), [], [(some ((0, .ofNat 1, .ofNat 1, 0, [])), [], [], [])])
def zi_2104_A : zt_An := [(0, [(([some (1, .ofNat 0, .ofNat 0, 1, []), none, some (1, .ofNat 0, .ofNat 0, 1, []), none, some (1, .ofNat 2, .ofNat 2, 1, []), none], [], [], []), .ofNat 1, [])]), (18, [(([some (1, .ofNat 0, .ofNat 0, 1, []), none, some (1, .ofNat 0, .ofNat 0, 1, []), none, some (1, .ofNat 2, .ofNat 2, 1, []), none], [(0, .ofNat 1, .ofNat 1, 0, [])], [], []), .ofNat 0, [])])]
def zi_2104_Ks : List (Nat × List zt_K) := []
def zi_2104_H : zt_H := ((zo_w22, 22, zo_Sg), (zo_g22, zi_2104_K.2.2.1, [0, 2, 4], zo_U), [], ((some .boolean), zi_2104_K.2.2.2, zi_2104_K.2.1.1), zi_2104_Ks)
theorem zi_2104_c : zt_chk zi_2104_H (zB_X10_in, [], [17, 18]) 4 zi_2104_A 6 (zo_hd, zi_2104_K) = true := by decide +kernel
theorem zi_2104 (v : Nat) (hd : Nat × Option Nat × Bool × List (Nat × Nat)) : zt_Con zo_Om (zo_Rel v) (hd, zi_2104_K) zF_X10_in := zt_con (K := (zo_hd, zi_2104_K)) (T := zT_X10_in) (w0 := zo_w22) (G := zo_g22) (zo_UR v) rfl zo_sg rfl rfl rfl (zt_ksok_of (Ks := zi_2104_Ks) zt_k0) zi_2104_c
-- X10_copyRow M
def zi_2105_K : Nat × (List zt_A × List zt_C × List Nat) × zt_W × List zt_O := (22, ([zjr 7, (0, .ofNat 7, .ofNat 7, 0, []), zj (.ofNat 0) (.ofNat 0), zj (.ofNat 1) (.ofNat 1)], [], []), [(7, 7, 13)], [(none, [], [], [])])
theorem zi_2105 (v : Nat) (hd : Nat × Option Nat × Bool × List (Nat × Nat)) : zt_Con zo_Om (zo_Rel v) (hd, zi_2105_K) zF_X10_copyRow := zh_copyRow 7 7 0 1 35 zh_cr7 (by decide) (by decide) (by decide) (by decide) (by decide) rfl rfl (by decide) v hd
-- X10_copyBench M
def zi_2106_K : Nat × (List zt_A × List zt_C × List Nat) × zt_W × List zt_O := (22, ([zjr 0, zj (.ofNat 0) (.ofNat 0), zj (.ofNat 1) (.ofNat 1)], [], []), [(6, 1, 1), (7, 7, 13), (8, 6, 11), (9, 25, 49), (10, 120, 239)], [(none, [], [], [])])
def zi_2106_A : zt_An := [(0, [(([some (zjr 0), some (zj (.ofNat 0) (.ofNat 0)), some (zj (.ofNat 1) (.ofNat 1))], [], [], []), .ofNat 0, [])])]
def zi_2106_Ks : List (Nat × List zt_K) := [(257, [((4, none, true, []), zi_774_K), ((4, none, true, []), zi_2105_K), ((4, none, true, []), zi_735_K), ((4, none, true, []), zi_736_K), ((4, none, true, []), zi_737_K)])]
def zi_2106_H : zt_H := ((zo_w22, 22, zo_Sg), (zo_g22, zi_2106_K.2.2.1, [0, 1, 2], zo_U), [], (none, zi_2106_K.2.2.2, zi_2106_K.2.1.1), zi_2106_Ks)
theorem zi_2106_c : zt_chk zi_2106_H (zB_X10_copyBench, [], []) 7 zi_2106_A 3 (zo_hd, zi_2106_K) = true := by decide +kernel
theorem zi_2106 (v : Nat) (hd : Nat × Option Nat × Bool × List (Nat × Nat)) : zt_Con zo_Om (zo_Rel v) (hd, zi_2106_K) zF_X10_copyBench := zt_con (K := (zo_hd, zi_2106_K)) (T := zT_X10_copyBench) (w0 := zo_w22) (G := zo_g22) (zo_UR v) rfl zo_sg rfl rfl rfl (zt_ksok_of (Ks := zi_2106_Ks) (zt_k1 rfl (zt_k2 rfl (zi_774 v _) (zt_k2 rfl (zi_2105 v _) (zt_k2 rfl (zi_735 v _) (zt_k2 rfl (zi_736 v _) (zt_k2 rfl (zi_737 v _) zt_k3))))) zt_k0)) zi_2106_c
-- X10_image M
def zi_2107_K : Nat × (List zt_A × List zt_C × List Nat) × zt_W × List zt_O := (22, ([zjr 0, zj (.ofNat 0) (.ofNat 0)], [], []), [(0, 0, 0), (6, 1, 1), (7, 7, 13), (8, 6, 11), (9, 25, 49), (10, 120, 239), (11, 0, 0)], [(some ((0, .ofNat 0, .ofNat 0, 0, [])), [], [((1, 11, 0), .ofNat 1, .ofNat 1)], [])])
def zi_2107_A : zt_An := [(0, [(([some (zjr 0), some (zj (.ofNat 0) (.ofNat 0))], [], [], []), .ofNat 0, [])])]
def zi_2107_Ks : List (Nat × List zt_K) := [(112, [((3, none, true, []), zi_2104_K)]), (254, [((3, some 10, true, []), zi_2106_K)])]
def zi_2107_H : zt_H := ((zo_w22, 22, zo_Sg), (zo_g22, zi_2107_K.2.2.1, [0, 1], zo_U), [(486, .long (2))], ((some .int), zi_2107_K.2.2.2, zi_2107_K.2.1.1), zi_2107_Ks)
theorem zi_2107_c : zt_chk zi_2107_H (zB_X10_image, [], []) 5 zi_2107_A 2 (zo_hd, zi_2107_K) = true := by decide +kernel
theorem zi_2107 (v : Nat) (hd : Nat × Option Nat × Bool × List (Nat × Nat)) : zt_Con zo_Om (zo_Rel v) (hd, zi_2107_K) zF_X10_image := zt_con (K := (zo_hd, zi_2107_K)) (T := zT_X10_image) (w0 := zo_w22) (G := zo_g22) (zo_UR v) rfl zo_sg rfl rfl rfl (zt_ksok_of (Ks := zi_2107_Ks) (zt_k1 rfl (zt_k2 rfl (zi_2104 v _) zt_k3) (zt_k1 rfl (zt_k2 rfl (zi_2106 v _) zt_k3) zt_k0))) zi_2107_c
-- X10_in M
def zi_2108_K : Nat × (List zt_A × List zt_C × List Nat) × zt_W × List zt_O := (22, ([(1, .ofNat 1, .ofNat 1, 1, []), (1, .ofNat 0, .ofNat 0, 1, []), (1, .ofNat 2, .ofNat 2, 1, [])], [], []), [], [(some ((0, .ofNat 1, .ofNat 1, 0, [])), [], [], [])])
def zi_2108_A : zt_An := [(0, [(([some (1, .ofNat 1, .ofNat 1, 1, []), none, some (1, .ofNat 0, .ofNat 0, 1, []), none, some (1, .ofNat 2, .ofNat 2, 1, []), none], [], [], []), .ofNat 1, [])]), (18, [(([some (1, .ofNat 1, .ofNat 1, 1, []), none, some (1, .ofNat 0, .ofNat 0, 1, []), none, some (1, .ofNat 2, .ofNat 2, 1, []), none], [(0, .ofNat 1, .ofNat 1, 0, [])], [], []), .ofNat 0, [])])]
def zi_2108_Ks : List (Nat × List zt_K) := []
def zi_2108_H : zt_H := ((zo_w22, 22, zo_Sg), (zo_g22, zi_2108_K.2.2.1, [0, 2, 4], zo_U), [], ((some .boolean), zi_2108_K.2.2.2, zi_2108_K.2.1.1), zi_2108_Ks)
theorem zi_2108_c : zt_chk zi_2108_H (zB_X10_in, [], [17, 18]) 4 zi_2108_A 6 (zo_hd, zi_2108_K) = true := by decide +kernel
theorem zi_2108 (v : Nat) (hd : Nat × Option Nat × Bool × List (Nat × Nat)) : zt_Con zo_Om (zo_Rel v) (hd, zi_2108_K) zF_X10_in := zt_con (K := (zo_hd, zi_2108_K)) (T := zT_X10_in) (w0 := zo_w22) (G := zo_g22) (zo_UR v) rfl zo_sg rfl rfl rfl (zt_ksok_of (Ks := zi_2108_Ks) zt_k0) zi_2108_c
-- X10_copyRow M
def zi_2109_K : Nat × (List zt_A × List zt_C × List Nat) × zt_W × List zt_O := (22, ([zjr 7, (0, .ofNat 7, .ofNat 7, 0, []), zj (.ofNat 0) (.ofNat 0), zj (.ofNat 2) (.ofNat 2)], [], []), [(7, 14, 20)], [(none, [], [], [])])
theorem zi_2109 (v : Nat) (hd : Nat × Option Nat × Bool × List (Nat × Nat)) : zt_Con zo_Om (zo_Rel v) (hd, zi_2109_K) zF_X10_copyRow := zh_copyRow 7 7 0 2 35 zh_cr7 (by decide) (by decide) (by decide) (by decide) (by decide) rfl rfl (by decide) v hd
-- X10_copyBench M
def zi_2110_K : Nat × (List zt_A × List zt_C × List Nat) × zt_W × List zt_O := (22, ([zjr 0, zj (.ofNat 0) (.ofNat 0), zj (.ofNat 2) (.ofNat 2)], [], []), [(6, 2, 2), (7, 14, 20), (8, 12, 17), (9, 50, 74), (10, 240, 359)], [(none, [], [], [])])
def zi_2110_A : zt_An := [(0, [(([some (zjr 0), some (zj (.ofNat 0) (.ofNat 0)), some (zj (.ofNat 2) (.ofNat 2))], [], [], []), .ofNat 0, [])])]
def zi_2110_Ks : List (Nat × List zt_K) := [(257, [((4, none, true, []), zi_771_K), ((4, none, true, []), zi_2109_K), ((4, none, true, []), zi_729_K), ((4, none, true, []), zi_730_K), ((4, none, true, []), zi_731_K)])]
def zi_2110_H : zt_H := ((zo_w22, 22, zo_Sg), (zo_g22, zi_2110_K.2.2.1, [0, 1, 2], zo_U), [], (none, zi_2110_K.2.2.2, zi_2110_K.2.1.1), zi_2110_Ks)
theorem zi_2110_c : zt_chk zi_2110_H (zB_X10_copyBench, [], []) 7 zi_2110_A 3 (zo_hd, zi_2110_K) = true := by decide +kernel
theorem zi_2110 (v : Nat) (hd : Nat × Option Nat × Bool × List (Nat × Nat)) : zt_Con zo_Om (zo_Rel v) (hd, zi_2110_K) zF_X10_copyBench := zt_con (K := (zo_hd, zi_2110_K)) (T := zT_X10_copyBench) (w0 := zo_w22) (G := zo_g22) (zo_UR v) rfl zo_sg rfl rfl rfl (zt_ksok_of (Ks := zi_2110_Ks) (zt_k1 rfl (zt_k2 rfl (zi_771 v _) (zt_k2 rfl (zi_2109 v _) (zt_k2 rfl (zi_729 v _) (zt_k2 rfl (zi_730 v _) (zt_k2 rfl (zi_731 v _) zt_k3))))) zt_k0)) zi_2110_c
-- X10_image M
def zi_2111_K : Nat × (List zt_A × List zt_C × List Nat) × zt_W × List zt_O := (22, ([zjr 0, zj (.ofNat 1) (.ofNat 1)], [], []), [(0, 0, 0), (6, 2, 2), (7, 14, 20), (8, 12, 17), (9, 50, 74), (10, 240, 359), (11, 1, 1)], [(some ((0, .ofNat 0, .ofNat 0, 0, [])), [], [((1, 11, 1), .ofNat 1, .ofNat 1)], [])])
def zi_2111_A : zt_An := [(0, [(([some (zjr 0), some (zj (.ofNat 1) (.ofNat 1))], [], [], []), .ofNat 0, [])])]
def zi_2111_Ks : List (Nat × List zt_K) := [(112, [((3, none, true, []), zi_2108_K)]), (254, [((3, some 10, true, []), zi_2110_K)])]
def zi_2111_H : zt_H := ((zo_w22, 22, zo_Sg), (zo_g22, zi_2111_K.2.2.1, [0, 1], zo_U), [(486, .long (2))], ((some .int), zi_2111_K.2.2.2, zi_2111_K.2.1.1), zi_2111_Ks)
theorem zi_2111_c : zt_chk zi_2111_H (zB_X10_image, [], []) 5 zi_2111_A 2 (zo_hd, zi_2111_K) = true := by decide +kernel
theorem zi_2111 (v : Nat) (hd : Nat × Option Nat × Bool × List (Nat × Nat)) : zt_Con zo_Om (zo_Rel v) (hd, zi_2111_K) zF_X10_image := zt_con (K := (zo_hd, zi_2111_K)) (T := zT_X10_image) (w0 := zo_w22) (G := zo_g22) (zo_UR v) rfl zo_sg rfl rfl rfl (zt_ksok_of (Ks := zi_2111_Ks) (zt_k1 rfl (zt_k2 rfl (zi_2108 v _) zt_k3) (zt_k1 rfl (zt_k2 rfl (zi_2110 v _) zt_k3) zt_k0))) zi_2111_c
-- X10_in M
def zi_2112_K : Nat × (List zt_A × List zt_C × List Nat) × zt_W × List zt_O := (22, ([(1, .ofNat 2, .ofNat 2, 1, []), (1, .ofNat 0, .ofNat 0, 1, []), (1, .ofNat 2, .ofNat 2, 1, [])], [], []), [], [(some ((0, .ofNat 1, .ofNat 1, 0, [])), [], [], [])])
def zi_2112_A : zt_An := [(0, [(([some (1, .ofNat 2, .ofNat 2, 1, []), none, some (1, .ofNat 0, .ofNat 0, 1, []), none, some (1, .ofNat 2, .ofNat 2, 1, []), none], [], [], []), .ofNat 1, [])]), (18, [(([some (1, .ofNat 2, .ofNat 2, 1, []), none, some (1, .ofNat 0, .ofNat 0, 1, []), none, some (1, .ofNat 2, .ofNat 2, 1, []), none], [(0, .ofNat 1, .ofNat 1, 0, [])], [], []), .ofNat 0, [])])]
def zi_2112_Ks : List (Nat × List zt_K) := []
def zi_2112_H : zt_H := ((zo_w22, 22, zo_Sg), (zo_g22, zi_2112_K.2.2.1, [0, 2, 4], zo_U), [], ((some .boolean), zi_2112_K.2.2.2, zi_2112_K.2.1.1), zi_2112_Ks)
theorem zi_2112_c : zt_chk zi_2112_H (zB_X10_in, [], [17, 18]) 4 zi_2112_A 6 (zo_hd, zi_2112_K) = true := by decide +kernel
theorem zi_2112 (v : Nat) (hd : Nat × Option Nat × Bool × List (Nat × Nat)) : zt_Con zo_Om (zo_Rel v) (hd, zi_2112_K) zF_X10_in := zt_con (K := (zo_hd, zi_2112_K)) (T := zT_X10_in) (w0 := zo_w22) (G := zo_g22) (zo_UR v) rfl zo_sg rfl rfl rfl (zt_ksok_of (Ks := zi_2112_Ks) zt_k0) zi_2112_c
-- X10_copyRow M
def zi_2113_K : Nat × (List zt_A × List zt_C × List Nat) × zt_W × List zt_O := (22, ([zjr 7, (0, .ofNat 7, .ofNat 7, 0, []), zj (.ofNat 0) (.ofNat 0), zj (.ofNat 3) (.ofNat 3)], [], []), [(7, 21, 27)], [(none, [], [], [])])
theorem zi_2113 (v : Nat) (hd : Nat × Option Nat × Bool × List (Nat × Nat)) : zt_Con zo_Om (zo_Rel v) (hd, zi_2113_K) zF_X10_copyRow := zh_copyRow 7 7 0 3 35 zh_cr7 (by decide) (by decide) (by decide) (by decide) (by decide) rfl rfl (by decide) v hd
-- X10_copyBench M
def zi_2114_K : Nat × (List zt_A × List zt_C × List Nat) × zt_W × List zt_O := (22, ([zjr 0, zj (.ofNat 0) (.ofNat 0), zj (.ofNat 3) (.ofNat 3)], [], []), [(6, 3, 3), (7, 21, 27), (8, 18, 23), (9, 75, 99), (10, 360, 479)], [(none, [], [], [])])
def zi_2114_A : zt_An := [(0, [(([some (zjr 0), some (zj (.ofNat 0) (.ofNat 0)), some (zj (.ofNat 3) (.ofNat 3))], [], [], []), .ofNat 0, [])])]
def zi_2114_Ks : List (Nat × List zt_K) := [(257, [((4, none, true, []), zi_768_K), ((4, none, true, []), zi_2113_K), ((4, none, true, []), zi_723_K), ((4, none, true, []), zi_724_K), ((4, none, true, []), zi_725_K)])]
def zi_2114_H : zt_H := ((zo_w22, 22, zo_Sg), (zo_g22, zi_2114_K.2.2.1, [0, 1, 2], zo_U), [], (none, zi_2114_K.2.2.2, zi_2114_K.2.1.1), zi_2114_Ks)
theorem zi_2114_c : zt_chk zi_2114_H (zB_X10_copyBench, [], []) 7 zi_2114_A 3 (zo_hd, zi_2114_K) = true := by decide +kernel
theorem zi_2114 (v : Nat) (hd : Nat × Option Nat × Bool × List (Nat × Nat)) : zt_Con zo_Om (zo_Rel v) (hd, zi_2114_K) zF_X10_copyBench := zt_con (K := (zo_hd, zi_2114_K)) (T := zT_X10_copyBench) (w0 := zo_w22) (G := zo_g22) (zo_UR v) rfl zo_sg rfl rfl rfl (zt_ksok_of (Ks := zi_2114_Ks) (zt_k1 rfl (zt_k2 rfl (zi_768 v _) (zt_k2 rfl (zi_2113 v _) (zt_k2 rfl (zi_723 v _) (zt_k2 rfl (zi_724 v _) (zt_k2 rfl (zi_725 v _) zt_k3))))) zt_k0)) zi_2114_c
-- X10_image M
def zi_2115_K : Nat × (List zt_A × List zt_C × List Nat) × zt_W × List zt_O := (22, ([zjr 0, zj (.ofNat 2) (.ofNat 2)], [], []), [(0, 0, 0), (6, 3, 3), (7, 21, 27), (8, 18, 23), (9, 75, 99), (10, 360, 479), (11, 2, 2)], [(some ((0, .ofNat 0, .ofNat 0, 0, [])), [], [((1, 11, 2), .ofNat 1, .ofNat 1)], [])])
def zi_2115_A : zt_An := [(0, [(([some (zjr 0), some (zj (.ofNat 2) (.ofNat 2))], [], [], []), .ofNat 0, [])])]
def zi_2115_Ks : List (Nat × List zt_K) := [(112, [((3, none, true, []), zi_2112_K)]), (254, [((3, some 10, true, []), zi_2114_K)])]
def zi_2115_H : zt_H := ((zo_w22, 22, zo_Sg), (zo_g22, zi_2115_K.2.2.1, [0, 1], zo_U), [(486, .long (2))], ((some .int), zi_2115_K.2.2.2, zi_2115_K.2.1.1), zi_2115_Ks)
theorem zi_2115_c : zt_chk zi_2115_H (zB_X10_image, [], []) 5 zi_2115_A 2 (zo_hd, zi_2115_K) = true := by decide +kernel
theorem zi_2115 (v : Nat) (hd : Nat × Option Nat × Bool × List (Nat × Nat)) : zt_Con zo_Om (zo_Rel v) (hd, zi_2115_K) zF_X10_image := zt_con (K := (zo_hd, zi_2115_K)) (T := zT_X10_image) (w0 := zo_w22) (G := zo_g22) (zo_UR v) rfl zo_sg rfl rfl rfl (zt_ksok_of (Ks := zi_2115_Ks) (zt_k1 rfl (zt_k2 rfl (zi_2112 v _) zt_k3) (zt_k1 rfl (zt_k2 rfl (zi_2114 v _) zt_k3) zt_k0))) zi_2115_c
-- X10_back M
def zi_2116_K : Nat × (List zt_A × List zt_C × List Nat) × zt_W × List zt_O := (22, ([zjr 0, zj (.negSucc 2147483647) (.negSucc 0)], [], []), [(0, 0, 0)], [(some ((0, .negSucc 1, .negSucc 1, 0, [])), [], [], [])])
def zi_2116_A : zt_An := [(0, [(([some (zjr 0), some (zj (.negSucc 2147483647) (.negSucc 0))], [], [], []), .ofNat 0, [])])]
def zi_2116_Ks : List (Nat × List zt_K) := [(112, [((3, none, true, []), zi_2100_K)])]
def zi_2116_H : zt_H := ((zo_w22, 22, zo_Sg), (zo_g22, zi_2116_K.2.2.1, [0, 1], zo_U), [(486, .long (2))], ((some .int), zi_2116_K.2.2.2, zi_2116_K.2.1.1), zi_2116_Ks)
theorem zi_2116_c : zt_chk zi_2116_H (zB_X10_back, [], []) 4 zi_2116_A 2 (zo_hd, zi_2116_K) = true := by decide +kernel
theorem zi_2116 (v : Nat) (hd : Nat × Option Nat × Bool × List (Nat × Nat)) : zt_Con zo_Om (zo_Rel v) (hd, zi_2116_K) zF_X10_back := zt_con (K := (zo_hd, zi_2116_K)) (T := zT_X10_back) (w0 := zo_w22) (G := zo_g22) (zo_UR v) rfl zo_sg rfl rfl rfl (zt_ksok_of (Ks := zi_2116_Ks) (zt_k1 rfl (zt_k2 rfl (zi_2100 v _) zt_k3) zt_k0)) zi_2116_c
-- X10_back M
def zi_2117_K : Nat × (List zt_A × List zt_C × List Nat) × zt_W × List zt_O := (22, ([zjr 0, zj (.ofNat 3) (.ofNat 2147483647)], [], []), [(0, 0, 0)], [(some ((0, .negSucc 1, .negSucc 1, 0, [])), [], [], [])])
def zi_2117_A : zt_An := [(0, [(([some (zjr 0), some (zj (.ofNat 3) (.ofNat 2147483647))], [], [], []), .ofNat 0, [])])]
def zi_2117_Ks : List (Nat × List zt_K) := [(112, [((3, none, true, []), zi_2102_K)])]
def zi_2117_H : zt_H := ((zo_w22, 22, zo_Sg), (zo_g22, zi_2117_K.2.2.1, [0, 1], zo_U), [(486, .long (2))], ((some .int), zi_2117_K.2.2.2, zi_2117_K.2.1.1), zi_2117_Ks)
theorem zi_2117_c : zt_chk zi_2117_H (zB_X10_back, [], []) 4 zi_2117_A 2 (zo_hd, zi_2117_K) = true := by decide +kernel
theorem zi_2117 (v : Nat) (hd : Nat × Option Nat × Bool × List (Nat × Nat)) : zt_Con zo_Om (zo_Rel v) (hd, zi_2117_K) zF_X10_back := zt_con (K := (zo_hd, zi_2117_K)) (T := zT_X10_back) (w0 := zo_w22) (G := zo_g22) (zo_UR v) rfl zo_sg rfl rfl rfl (zt_ksok_of (Ks := zi_2117_Ks) (zt_k1 rfl (zt_k2 rfl (zi_2102 v _) zt_k3) zt_k0)) zi_2117_c
-- X10_back M
def zi_2118_K : Nat × (List zt_A × List zt_C × List Nat) × zt_W × List zt_O := (22, ([zjr 0, zj (.ofNat 0) (.ofNat 0)], [((1, 11, 0), .ofNat 0, .ofNat 0)], []), [(0, 0, 0)], [(some ((0, .negSucc 5, .negSucc 5, 0, [])), [], [((1, 11, 0), .ofNat 0, .ofNat 0)], [])])
def zi_2118_A : zt_An := [(0, [(([some (zjr 0), some (zj (.ofNat 0) (.ofNat 0))], [], [((1, 11, 0), .ofNat 0, .ofNat 0)], []), .ofNat 0, [])])]
def zi_2118_Ks : List (Nat × List zt_K) := [(112, [((3, none, true, []), zi_2104_K)])]
def zi_2118_H : zt_H := ((zo_w22, 22, zo_Sg), (zo_g22, zi_2118_K.2.2.1, [0, 1], zo_U), [(486, .long (2))], ((some .int), zi_2118_K.2.2.2, zi_2118_K.2.1.1), zi_2118_Ks)
theorem zi_2118_c : zt_chk zi_2118_H (zB_X10_back, [], []) 5 zi_2118_A 2 (zo_hd, zi_2118_K) = true := by decide +kernel
theorem zi_2118 (v : Nat) (hd : Nat × Option Nat × Bool × List (Nat × Nat)) : zt_Con zo_Om (zo_Rel v) (hd, zi_2118_K) zF_X10_back := zt_con (K := (zo_hd, zi_2118_K)) (T := zT_X10_back) (w0 := zo_w22) (G := zo_g22) (zo_UR v) rfl zo_sg rfl rfl rfl (zt_ksok_of (Ks := zi_2118_Ks) (zt_k1 rfl (zt_k2 rfl (zi_2104 v _) zt_k3) zt_k0)) zi_2118_c
-- X10_back M
def zi_2119_K : Nat × (List zt_A × List zt_C × List Nat) × zt_W × List zt_O := (22, ([zjr 0, zj (.ofNat 1) (.ofNat 1)], [((1, 11, 1), .ofNat 0, .ofNat 0)], []), [(0, 0, 0)], [(some ((0, .negSucc 5, .negSucc 5, 0, [])), [], [((1, 11, 1), .ofNat 0, .ofNat 0)], [])])
def zi_2119_A : zt_An := [(0, [(([some (zjr 0), some (zj (.ofNat 1) (.ofNat 1))], [], [((1, 11, 1), .ofNat 0, .ofNat 0)], []), .ofNat 0, [])])]
def zi_2119_Ks : List (Nat × List zt_K) := [(112, [((3, none, true, []), zi_2108_K)])]
def zi_2119_H : zt_H := ((zo_w22, 22, zo_Sg), (zo_g22, zi_2119_K.2.2.1, [0, 1], zo_U), [(486, .long (2))], ((some .int), zi_2119_K.2.2.2, zi_2119_K.2.1.1), zi_2119_Ks)
theorem zi_2119_c : zt_chk zi_2119_H (zB_X10_back, [], []) 5 zi_2119_A 2 (zo_hd, zi_2119_K) = true := by decide +kernel
theorem zi_2119 (v : Nat) (hd : Nat × Option Nat × Bool × List (Nat × Nat)) : zt_Con zo_Om (zo_Rel v) (hd, zi_2119_K) zF_X10_back := zt_con (K := (zo_hd, zi_2119_K)) (T := zT_X10_back) (w0 := zo_w22) (G := zo_g22) (zo_UR v) rfl zo_sg rfl rfl rfl (zt_ksok_of (Ks := zi_2119_Ks) (zt_k1 rfl (zt_k2 rfl (zi_2108 v _) zt_k3) zt_k0)) zi_2119_c
-- X10_back M
def zi_2120_K : Nat × (List zt_A × List zt_C × List Nat) × zt_W × List zt_O := (22, ([zjr 0, zj (.ofNat 2) (.ofNat 2)], [((1, 11, 2), .ofNat 0, .ofNat 0)], []), [(0, 0, 0)], [(some ((0, .negSucc 5, .negSucc 5, 0, [])), [], [((1, 11, 2), .ofNat 0, .ofNat 0)], [])])
def zi_2120_A : zt_An := [(0, [(([some (zjr 0), some (zj (.ofNat 2) (.ofNat 2))], [], [((1, 11, 2), .ofNat 0, .ofNat 0)], []), .ofNat 0, [])])]
def zi_2120_Ks : List (Nat × List zt_K) := [(112, [((3, none, true, []), zi_2112_K)])]
def zi_2120_H : zt_H := ((zo_w22, 22, zo_Sg), (zo_g22, zi_2120_K.2.2.1, [0, 1], zo_U), [(486, .long (2))], ((some .int), zi_2120_K.2.2.2, zi_2120_K.2.1.1), zi_2120_Ks)
theorem zi_2120_c : zt_chk zi_2120_H (zB_X10_back, [], []) 5 zi_2120_A 2 (zo_hd, zi_2120_K) = true := by decide +kernel
theorem zi_2120 (v : Nat) (hd : Nat × Option Nat × Bool × List (Nat × Nat)) : zt_Con zo_Om (zo_Rel v) (hd, zi_2120_K) zF_X10_back := zt_con (K := (zo_hd, zi_2120_K)) (T := zT_X10_back) (w0 := zo_w22) (G := zo_g22) (zo_UR v) rfl zo_sg rfl rfl rfl (zt_ksok_of (Ks := zi_2120_Ks) (zt_k1 rfl (zt_k2 rfl (zi_2112 v _) zt_k3) zt_k0)) zi_2120_c
-- X10_copyRow M
def zi_2121_K : Nat × (List zt_A × List zt_C × List Nat) × zt_W × List zt_O := (22, ([zjr 7, (0, .ofNat 7, .ofNat 7, 0, []), zj (.ofNat 1) (.ofNat 1), zj (.ofNat 0) (.ofNat 0)], [], []), [(7, 0, 6)], [(none, [], [], [])])
theorem zi_2121 (v : Nat) (hd : Nat × Option Nat × Bool × List (Nat × Nat)) : zt_Con zo_Om (zo_Rel v) (hd, zi_2121_K) zF_X10_copyRow := zh_copyRow 7 7 1 0 35 zh_cr7 (by decide) (by decide) (by decide) (by decide) (by decide) rfl rfl (by decide) v hd
-- X10_copyBench M
def zi_2122_K : Nat × (List zt_A × List zt_C × List Nat) × zt_W × List zt_O := (22, ([zjr 0, zj (.ofNat 1) (.ofNat 1), zj (.ofNat 0) (.ofNat 0)], [], []), [(6, 0, 0), (7, 0, 6), (8, 0, 5), (9, 0, 24), (10, 0, 119)], [(none, [], [], [])])
def zi_2122_A : zt_An := [(0, [(([some (zjr 0), some (zj (.ofNat 1) (.ofNat 1)), some (zj (.ofNat 0) (.ofNat 0))], [], [], []), .ofNat 0, [])])]
def zi_2122_Ks : List (Nat × List zt_K) := [(257, [((4, none, true, []), zi_843_K), ((4, none, true, []), zi_2121_K), ((4, none, true, []), zi_820_K), ((4, none, true, []), zi_821_K), ((4, none, true, []), zi_822_K)])]
def zi_2122_H : zt_H := ((zo_w22, 22, zo_Sg), (zo_g22, zi_2122_K.2.2.1, [0, 1, 2], zo_U), [], (none, zi_2122_K.2.2.2, zi_2122_K.2.1.1), zi_2122_Ks)
theorem zi_2122_c : zt_chk zi_2122_H (zB_X10_copyBench, [], []) 7 zi_2122_A 3 (zo_hd, zi_2122_K) = true := by decide +kernel
theorem zi_2122 (v : Nat) (hd : Nat × Option Nat × Bool × List (Nat × Nat)) : zt_Con zo_Om (zo_Rel v) (hd, zi_2122_K) zF_X10_copyBench := zt_con (K := (zo_hd, zi_2122_K)) (T := zT_X10_copyBench) (w0 := zo_w22) (G := zo_g22) (zo_UR v) rfl zo_sg rfl rfl rfl (zt_ksok_of (Ks := zi_2122_Ks) (zt_k1 rfl (zt_k2 rfl (zi_843 v _) (zt_k2 rfl (zi_2121 v _) (zt_k2 rfl (zi_820 v _) (zt_k2 rfl (zi_821 v _) (zt_k2 rfl (zi_822 v _) zt_k3))))) zt_k0)) zi_2122_c
-- X10_back M
def zi_2123_K : Nat × (List zt_A × List zt_C × List Nat) × zt_W × List zt_O := (22, ([zjr 0, zj (.ofNat 0) (.ofNat 0)], [((1, 11, 0), .ofNat 1, .ofNat 1)], []), [(0, 0, 0), (6, 0, 0), (7, 0, 6), (8, 0, 5), (9, 0, 24), (10, 0, 119)], [(some ((0, .ofNat 0, .ofNat 0, 0, [])), [], [((1, 11, 0), .ofNat 1, .ofNat 1)], [])])
def zi_2123_A : zt_An := [(0, [(([some (zjr 0), some (zj (.ofNat 0) (.ofNat 0))], [], [((1, 11, 0), .ofNat 1, .ofNat 1)], []), .ofNat 0, [])])]
def zi_2123_Ks : List (Nat × List zt_K) := [(112, [((3, none, true, []), zi_2104_K)]), (254, [((3, some 10, true, []), zi_2122_K)])]
def zi_2123_H : zt_H := ((zo_w22, 22, zo_Sg), (zo_g22, zi_2123_K.2.2.1, [0, 1], zo_U), [(486, .long (2))], ((some .int), zi_2123_K.2.2.2, zi_2123_K.2.1.1), zi_2123_Ks)
theorem zi_2123_c : zt_chk zi_2123_H (zB_X10_back, [], []) 6 zi_2123_A 2 (zo_hd, zi_2123_K) = true := by decide +kernel
theorem zi_2123 (v : Nat) (hd : Nat × Option Nat × Bool × List (Nat × Nat)) : zt_Con zo_Om (zo_Rel v) (hd, zi_2123_K) zF_X10_back := zt_con (K := (zo_hd, zi_2123_K)) (T := zT_X10_back) (w0 := zo_w22) (G := zo_g22) (zo_UR v) rfl zo_sg rfl rfl rfl (zt_ksok_of (Ks := zi_2123_Ks) (zt_k1 rfl (zt_k2 rfl (zi_2104 v _) zt_k3) (zt_k1 rfl (zt_k2 rfl (zi_2122 v _) zt_k3) zt_k0))) zi_2123_c
-- X10_copyRow M
def zi_2124_K : Nat × (List zt_A × List zt_C × List Nat) × zt_W × List zt_O := (22, ([zjr 7, (0, .ofNat 7, .ofNat 7, 0, []), zj (.ofNat 2) (.ofNat 2), zj (.ofNat 0) (.ofNat 0)], [], []), [(7, 0, 6)], [(none, [], [], [])])
theorem zi_2124 (v : Nat) (hd : Nat × Option Nat × Bool × List (Nat × Nat)) : zt_Con zo_Om (zo_Rel v) (hd, zi_2124_K) zF_X10_copyRow := zh_copyRow 7 7 2 0 35 zh_cr7 (by decide) (by decide) (by decide) (by decide) (by decide) rfl rfl (by decide) v hd
-- X10_copyBench M
def zi_2125_K : Nat × (List zt_A × List zt_C × List Nat) × zt_W × List zt_O := (22, ([zjr 0, zj (.ofNat 2) (.ofNat 2), zj (.ofNat 0) (.ofNat 0)], [], []), [(6, 0, 0), (7, 0, 6), (8, 0, 5), (9, 0, 24), (10, 0, 119)], [(none, [], [], [])])
def zi_2125_A : zt_An := [(0, [(([some (zjr 0), some (zj (.ofNat 2) (.ofNat 2)), some (zj (.ofNat 0) (.ofNat 0))], [], [], []), .ofNat 0, [])])]
def zi_2125_Ks : List (Nat × List zt_K) := [(257, [((4, none, true, []), zi_832_K), ((4, none, true, []), zi_2124_K), ((4, none, true, []), zi_814_K), ((4, none, true, []), zi_815_K), ((4, none, true, []), zi_816_K)])]
def zi_2125_H : zt_H := ((zo_w22, 22, zo_Sg), (zo_g22, zi_2125_K.2.2.1, [0, 1, 2], zo_U), [], (none, zi_2125_K.2.2.2, zi_2125_K.2.1.1), zi_2125_Ks)
theorem zi_2125_c : zt_chk zi_2125_H (zB_X10_copyBench, [], []) 7 zi_2125_A 3 (zo_hd, zi_2125_K) = true := by decide +kernel
theorem zi_2125 (v : Nat) (hd : Nat × Option Nat × Bool × List (Nat × Nat)) : zt_Con zo_Om (zo_Rel v) (hd, zi_2125_K) zF_X10_copyBench := zt_con (K := (zo_hd, zi_2125_K)) (T := zT_X10_copyBench) (w0 := zo_w22) (G := zo_g22) (zo_UR v) rfl zo_sg rfl rfl rfl (zt_ksok_of (Ks := zi_2125_Ks) (zt_k1 rfl (zt_k2 rfl (zi_832 v _) (zt_k2 rfl (zi_2124 v _) (zt_k2 rfl (zi_814 v _) (zt_k2 rfl (zi_815 v _) (zt_k2 rfl (zi_816 v _) zt_k3))))) zt_k0)) zi_2125_c
-- X10_back M
def zi_2126_K : Nat × (List zt_A × List zt_C × List Nat) × zt_W × List zt_O := (22, ([zjr 0, zj (.ofNat 1) (.ofNat 1)], [((1, 11, 1), .ofNat 1, .ofNat 1)], []), [(0, 0, 0), (6, 0, 0), (7, 0, 6), (8, 0, 5), (9, 0, 24), (10, 0, 119)], [(some ((0, .ofNat 0, .ofNat 0, 0, [])), [], [((1, 11, 1), .ofNat 1, .ofNat 1)], [])])
def zi_2126_A : zt_An := [(0, [(([some (zjr 0), some (zj (.ofNat 1) (.ofNat 1))], [], [((1, 11, 1), .ofNat 1, .ofNat 1)], []), .ofNat 0, [])])]
def zi_2126_Ks : List (Nat × List zt_K) := [(112, [((3, none, true, []), zi_2108_K)]), (254, [((3, some 10, true, []), zi_2125_K)])]
def zi_2126_H : zt_H := ((zo_w22, 22, zo_Sg), (zo_g22, zi_2126_K.2.2.1, [0, 1], zo_U), [(486, .long (2))], ((some .int), zi_2126_K.2.2.2, zi_2126_K.2.1.1), zi_2126_Ks)
theorem zi_2126_c : zt_chk zi_2126_H (zB_X10_back, [], []) 6 zi_2126_A 2 (zo_hd, zi_2126_K) = true := by decide +kernel
theorem zi_2126 (v : Nat) (hd : Nat × Option Nat × Bool × List (Nat × Nat)) : zt_Con zo_Om (zo_Rel v) (hd, zi_2126_K) zF_X10_back := zt_con (K := (zo_hd, zi_2126_K)) (T := zT_X10_back) (w0 := zo_w22) (G := zo_g22) (zo_UR v) rfl zo_sg rfl rfl rfl (zt_ksok_of (Ks := zi_2126_Ks) (zt_k1 rfl (zt_k2 rfl (zi_2108 v _) zt_k3) (zt_k1 rfl (zt_k2 rfl (zi_2125 v _) zt_k3) zt_k0))) zi_2126_c
-- X10_copyRow M
def zi_2127_K : Nat × (List zt_A × List zt_C × List Nat) × zt_W × List zt_O := (22, ([zjr 7, (0, .ofNat 7, .ofNat 7, 0, []), zj (.ofNat 3) (.ofNat 3), zj (.ofNat 0) (.ofNat 0)], [], []), [(7, 0, 6)], [(none, [], [], [])])
theorem zi_2127 (v : Nat) (hd : Nat × Option Nat × Bool × List (Nat × Nat)) : zt_Con zo_Om (zo_Rel v) (hd, zi_2127_K) zF_X10_copyRow := zh_copyRow 7 7 3 0 35 zh_cr7 (by decide) (by decide) (by decide) (by decide) (by decide) rfl rfl (by decide) v hd
-- X10_copyBench M
def zi_2128_K : Nat × (List zt_A × List zt_C × List Nat) × zt_W × List zt_O := (22, ([zjr 0, zj (.ofNat 3) (.ofNat 3), zj (.ofNat 0) (.ofNat 0)], [], []), [(6, 0, 0), (7, 0, 6), (8, 0, 5), (9, 0, 24), (10, 0, 119)], [(none, [], [], [])])
def zi_2128_A : zt_An := [(0, [(([some (zjr 0), some (zj (.ofNat 3) (.ofNat 3)), some (zj (.ofNat 0) (.ofNat 0))], [], [], []), .ofNat 0, [])])]
def zi_2128_Ks : List (Nat × List zt_K) := [(257, [((4, none, true, []), zi_825_K), ((4, none, true, []), zi_2127_K), ((4, none, true, []), zi_808_K), ((4, none, true, []), zi_809_K), ((4, none, true, []), zi_810_K)])]
def zi_2128_H : zt_H := ((zo_w22, 22, zo_Sg), (zo_g22, zi_2128_K.2.2.1, [0, 1, 2], zo_U), [], (none, zi_2128_K.2.2.2, zi_2128_K.2.1.1), zi_2128_Ks)
theorem zi_2128_c : zt_chk zi_2128_H (zB_X10_copyBench, [], []) 7 zi_2128_A 3 (zo_hd, zi_2128_K) = true := by decide +kernel
theorem zi_2128 (v : Nat) (hd : Nat × Option Nat × Bool × List (Nat × Nat)) : zt_Con zo_Om (zo_Rel v) (hd, zi_2128_K) zF_X10_copyBench := zt_con (K := (zo_hd, zi_2128_K)) (T := zT_X10_copyBench) (w0 := zo_w22) (G := zo_g22) (zo_UR v) rfl zo_sg rfl rfl rfl (zt_ksok_of (Ks := zi_2128_Ks) (zt_k1 rfl (zt_k2 rfl (zi_825 v _) (zt_k2 rfl (zi_2127 v _) (zt_k2 rfl (zi_808 v _) (zt_k2 rfl (zi_809 v _) (zt_k2 rfl (zi_810 v _) zt_k3))))) zt_k0)) zi_2128_c
-- X10_back M
def zi_2129_K : Nat × (List zt_A × List zt_C × List Nat) × zt_W × List zt_O := (22, ([zjr 0, zj (.ofNat 2) (.ofNat 2)], [((1, 11, 2), .ofNat 1, .ofNat 1)], []), [(0, 0, 0), (6, 0, 0), (7, 0, 6), (8, 0, 5), (9, 0, 24), (10, 0, 119)], [(some ((0, .ofNat 0, .ofNat 0, 0, [])), [], [((1, 11, 2), .ofNat 1, .ofNat 1)], [])])
def zi_2129_A : zt_An := [(0, [(([some (zjr 0), some (zj (.ofNat 2) (.ofNat 2))], [], [((1, 11, 2), .ofNat 1, .ofNat 1)], []), .ofNat 0, [])])]
def zi_2129_Ks : List (Nat × List zt_K) := [(112, [((3, none, true, []), zi_2112_K)]), (254, [((3, some 10, true, []), zi_2128_K)])]
def zi_2129_H : zt_H := ((zo_w22, 22, zo_Sg), (zo_g22, zi_2129_K.2.2.1, [0, 1], zo_U), [(486, .long (2))], ((some .int), zi_2129_K.2.2.2, zi_2129_K.2.1.1), zi_2129_Ks)
theorem zi_2129_c : zt_chk zi_2129_H (zB_X10_back, [], []) 6 zi_2129_A 2 (zo_hd, zi_2129_K) = true := by decide +kernel
theorem zi_2129 (v : Nat) (hd : Nat × Option Nat × Bool × List (Nat × Nat)) : zt_Con zo_Om (zo_Rel v) (hd, zi_2129_K) zF_X10_back := zt_con (K := (zo_hd, zi_2129_K)) (T := zT_X10_back) (w0 := zo_w22) (G := zo_g22) (zo_UR v) rfl zo_sg rfl rfl rfl (zt_ksok_of (Ks := zi_2129_Ks) (zt_k1 rfl (zt_k2 rfl (zi_2112 v _) zt_k3) (zt_k1 rfl (zt_k2 rfl (zi_2128 v _) zt_k3) zt_k0))) zi_2129_c
