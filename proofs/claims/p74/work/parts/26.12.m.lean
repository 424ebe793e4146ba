/-! WHAT THE METHODS KEEP, printed by program (wip/abs/ztprint.py) -/
-- X10_copyRow M
def zi_704_K : Nat × (List zt_A × List zt_C × List Nat) × zt_W × List zt_O := (23, ([zjr 7, (0, .ofNat 7, .ofNat 7, 0, []), zj (.ofNat 0) (.ofNat 0), zj (.ofNat 1) (.ofNat 1)], [], []), [(7, 7, 13)], [(none, [], [], [])])
theorem zi_704 (v : Nat) (hd : Nat × Option Nat × Bool × List (Nat × Nat)) : zt_Con zo_Om (zo_Rel v) (hd, zi_704_K) zF_X10_copyRow := by sorry
-- X10_copyRow M
def zi_705_K : Nat × (List zt_A × List zt_C × List Nat) × zt_W × List zt_O := (23, ([zjr 8, (0, .ofNat 6, .ofNat 6, 0, []), zj (.ofNat 0) (.ofNat 0), zj (.ofNat 1) (.ofNat 1)], [], []), [(8, 6, 11)], [(none, [], [], [])])
theorem zi_705 (v : Nat) (hd : Nat × Option Nat × Bool × List (Nat × Nat)) : zt_Con zo_Om (zo_Rel v) (hd, zi_705_K) zF_X10_copyRow := by sorry
-- X10_copyRow M
def zi_706_K : Nat × (List zt_A × List zt_C × List Nat) × zt_W × List zt_O := (23, ([zjr 9, (0, .ofNat 25, .ofNat 25, 0, []), zj (.ofNat 0) (.ofNat 0), zj (.ofNat 1) (.ofNat 1)], [], []), [(9, 25, 49)], [(none, [], [], [])])
theorem zi_706 (v : Nat) (hd : Nat × Option Nat × Bool × List (Nat × Nat)) : zt_Con zo_Om (zo_Rel v) (hd, zi_706_K) zF_X10_copyRow := by sorry
-- X10_copyRow M
def zi_707_K : Nat × (List zt_A × List zt_C × List Nat) × zt_W × List zt_O := (23, ([zjr 10, (0, .ofNat 120, .ofNat 120, 0, []), zj (.ofNat 0) (.ofNat 0), zj (.ofNat 1) (.ofNat 1)], [], []), [(10, 120, 239)], [(none, [], [], [])])
theorem zi_707 (v : Nat) (hd : Nat × Option Nat × Bool × List (Nat × Nat)) : zt_Con zo_Om (zo_Rel v) (hd, zi_707_K) zF_X10_copyRow := by sorry
-- X10_copyBench M
def zi_708_K : Nat × (List zt_A × List zt_C × List Nat) × zt_W × List zt_O := (23, ([zjr 0, zj (.ofNat 0) (.ofNat 0), zj (.ofNat 1) (.ofNat 1)], [((1, 6, 0), .negSucc 2147483647, .ofNat 0), ((1, 7, 4), .ofNat 0, .ofNat 0), ((1, 7, 5), .ofNat 0, .ofNat 0)], []), [(6, 1, 1), (7, 7, 13), (8, 6, 11), (9, 25, 49), (10, 120, 239)], [(none, [], [((1, 6, 0), .negSucc 2147483647, .ofNat 0), ((1, 7, 4), .ofNat 0, .ofNat 0), ((1, 7, 5), .ofNat 0, .ofNat 0)], [])])
def zi_708_A : zt_An := [(0, [(([some (zjr 0), some (zj (.ofNat 0) (.ofNat 0)), some (zj (.ofNat 1) (.ofNat 1))], [], [((1, 6, 0), .negSucc 2147483647, .ofNat 0), ((1, 7, 4), .ofNat 0, .ofNat 0), ((1, 7, 5), .ofNat 0, .ofNat 0)], []), .ofNat 0, [])])]
def zi_708_Ks : List (Nat × List zt_K) := [(257, [((4, none, true, []), zi_703_K), ((4, none, true, []), zi_704_K), ((4, none, true, []), zi_705_K), ((4, none, true, []), zi_706_K), ((4, none, true, []), zi_707_K)])]
def zi_708_H : zt_H := ((zo_w23, 23, zo_Sg), (zo_g23, zi_708_K.2.2.1, [0, 1, 2], zo_U), [], (none, zi_708_K.2.2.2, zi_708_K.2.1.1), zi_708_Ks)
theorem zi_708_c : zt_chk zi_708_H (zB_X10_copyBench, [], []) 7 zi_708_A 3 (zo_hd, zi_708_K) = true := by decide +kernel
theorem zi_708 (v : Nat) (hd : Nat × Option Nat × Bool × List (Nat × Nat)) : zt_Con zo_Om (zo_Rel v) (hd, zi_708_K) zF_X10_copyBench := zt_con (K := (zo_hd, zi_708_K)) (T := zT_X10_copyBench) (w0 := zo_w23) (G := zo_g23) (zo_UR v) rfl zo_sg rfl rfl rfl (zt_ksok_of (Ks := zi_708_Ks) (zt_k1 rfl (zt_k2 rfl (zi_703 v _) (zt_k2 rfl (zi_704 v _) (zt_k2 rfl (zi_705 v _) (zt_k2 rfl (zi_706 v _) (zt_k2 rfl (zi_707 v _) zt_k3))))) zt_k0)) zi_708_c
-- X10_image M
def zi_709_K : Nat × (List zt_A × List zt_C × List Nat) × zt_W × List zt_O := (23, ([zjr 0, zt_top], [((1, 6, 0), .negSucc 2147483647, .ofNat 0), ((1, 7, 4), .ofNat 0, .ofNat 0), ((1, 7, 5), .ofNat 0, .ofNat 0)], []), [(0, 0, 0), (6, 1, 3), (7, 7, 27), (8, 6, 23), (9, 25, 99), (10, 120, 479), (11, 0, 2)], [(some ((0, .ofNat 0, .ofNat 0, 0, [])), [(1, .ofNat 0, .ofNat 2)], [((1, 6, 0), .negSucc 2147483647, .ofNat 0), ((1, 7, 4), .ofNat 0, .ofNat 0), ((1, 7, 5), .ofNat 0, .ofNat 0)], []), (some ((0, .negSucc 1, .negSucc 1, 0, [])), [], [((1, 6, 0), .negSucc 2147483647, .ofNat 0), ((1, 7, 4), .ofNat 0, .ofNat 0), ((1, 7, 5), .ofNat 0, .ofNat 0)], [])])
def zi_709_A : zt_An := [(0, [(([some (zjr 0), some zt_top], [], [((1, 6, 0), .negSucc 2147483647, .ofNat 0), ((1, 7, 4), .ofNat 0, .ofNat 0), ((1, 7, 5), .ofNat 0, .ofNat 0)], []), .ofNat 0, [])])]
def zi_709_Ks : List (Nat × List zt_K) := [(112, [((3, none, true, []), zi_690_K)]), (254, [((3, some 10, true, []), zi_696_K), ((3, some 10, true, []), zi_702_K), ((3, some 10, true, []), zi_708_K)])]
def zi_709_H : zt_H := ((zo_w23, 23, zo_Sg), (zo_g23, zi_709_K.2.2.1, [0, 1], zo_U), [(486, .long (2))], ((some .int), zi_709_K.2.2.2, zi_709_K.2.1.1), zi_709_Ks)
theorem zi_709_c : zt_chk zi_709_H (zB_X10_image, [(20, [(0, 1, 0)])], []) 5 zi_709_A 2 (zo_hd, zi_709_K) = true := by decide +kernel
theorem zi_709 (v : Nat) (hd : Nat × Option Nat × Bool × List (Nat × Nat)) : zt_Con zo_Om (zo_Rel v) (hd, zi_709_K) zF_X10_image := zt_con (K := (zo_hd, zi_709_K)) (T := zT_X10_image) (w0 := zo_w23) (G := zo_g23) (zo_UR v) rfl zo_sg rfl rfl rfl (zt_ksok_of (Ks := zi_709_Ks) (zt_k1 rfl (zt_k2 rfl (zi_690 v _) zt_k3) (zt_k1 rfl (zt_k2 rfl (zi_696 v _) (zt_k2 rfl (zi_702 v _) (zt_k2 rfl (zi_708 v _) zt_k3))) zt_k0))) zi_709_c
-- X10_copyBench M
def zi_710_K : Nat × (List zt_A × List zt_C × List Nat) × zt_W × List zt_O := (23, ([zjr 0, zj (.ofNat 0) (.ofNat 0), zj (.ofNat 3) (.ofNat 3)], [((1, 7, 2), .ofNat 1, .ofNat 30)], []), [(6, 3, 3), (7, 21, 27), (8, 18, 23), (9, 75, 99), (10, 360, 479)], [(none, [], [((1, 7, 2), .ofNat 1, .ofNat 30)], [])])
def zi_710_A : zt_An := [(0, [(([some (zjr 0), some (zj (.ofNat 0) (.ofNat 0)), some (zj (.ofNat 3) (.ofNat 3))], [], [((1, 7, 2), .ofNat 1, .ofNat 30)], []), .ofNat 0, [])])]
def zi_710_Ks : List (Nat × List zt_K) := [(257, [((4, none, true, []), zi_691_K), ((4, none, true, []), zi_692_K), ((4, none, true, []), zi_693_K), ((4, none, true, []), zi_694_K), ((4, none, true, []), zi_695_K)])]
def zi_710_H : zt_H := ((zo_w23, 23, zo_Sg), (zo_g23, zi_710_K.2.2.1, [0, 1, 2], zo_U), [], (none, zi_710_K.2.2.2, zi_710_K.2.1.1), zi_710_Ks)
theorem zi_710_c : zt_chk zi_710_H (zB_X10_copyBench, [], []) 7 zi_710_A 3 (zo_hd, zi_710_K) = true := by decide +kernel
theorem zi_710 (v : Nat) (hd : Nat × Option Nat × Bool × List (Nat × Nat)) : zt_Con zo_Om (zo_Rel v) (hd, zi_710_K) zF_X10_copyBench := zt_con (K := (zo_hd, zi_710_K)) (T := zT_X10_copyBench) (w0 := zo_w23) (G := zo_g23) (zo_UR v) rfl zo_sg rfl rfl rfl (zt_ksok_of (Ks := zi_710_Ks) (zt_k1 rfl (zt_k2 rfl (zi_691 v _) (zt_k2 rfl (zi_692 v _) (zt_k2 rfl (zi_693 v _) (zt_k2 rfl (zi_694 v _) (zt_k2 rfl (zi_695 v _) zt_k3))))) zt_k0)) zi_710_c
-- X10_copyBench M
def zi_711_K : Nat × (List zt_A × List zt_C × List Nat) × zt_W × List zt_O := (23, ([zjr 0, zj (.ofNat 0) (.ofNat 0), zj (.ofNat 2) (.ofNat 2)], [((1, 7, 2), .ofNat 1, .ofNat 30)], []), [(6, 2, 2), (7, 14, 20), (8, 12, 17), (9, 50, 74), (10, 240, 359)], [(none, [], [((1, 7, 2), .ofNat 1, .ofNat 30)], [])])
def zi_711_A : zt_An := [(0, [(([some (zjr 0), some (zj (.ofNat 0) (.ofNat 0)), some (zj (.ofNat 2) (.ofNat 2))], [], [((1, 7, 2), .ofNat 1, .ofNat 30)], []), .ofNat 0, [])])]
def zi_711_Ks : List (Nat × List zt_K) := [(257, [((4, none, true, []), zi_697_K), ((4, none, true, []), zi_698_K), ((4, none, true, []), zi_699_K), ((4, none, true, []), zi_700_K), ((4, none, true, []), zi_701_K)])]
def zi_711_H : zt_H := ((zo_w23, 23, zo_Sg), (zo_g23, zi_711_K.2.2.1, [0, 1, 2], zo_U), [], (none, zi_711_K.2.2.2, zi_711_K.2.1.1), zi_711_Ks)
theorem zi_711_c : zt_chk zi_711_H (zB_X10_copyBench, [], []) 7 zi_711_A 3 (zo_hd, zi_711_K) = true := by decide +kernel
theorem zi_711 (v : Nat) (hd : Nat × Option Nat × Bool × List (Nat × Nat)) : zt_Con zo_Om (zo_Rel v) (hd, zi_711_K) zF_X10_copyBench := zt_con (K := (zo_hd, zi_711_K)) (T := zT_X10_copyBench) (w0 := zo_w23) (G := zo_g23) (zo_UR v) rfl zo_sg rfl rfl rfl (zt_ksok_of (Ks := zi_711_Ks) (zt_k1 rfl (zt_k2 rfl (zi_697 v _) (zt_k2 rfl (zi_698 v _) (zt_k2 rfl (zi_699 v _) (zt_k2 rfl (zi_700 v _) (zt_k2 rfl (zi_701 v _) zt_k3))))) zt_k0)) zi_711_c
-- X10_copyBench M
def zi_712_K : Nat × (List zt_A × List zt_C × List Nat) × zt_W × List zt_O := (23, ([zjr 0, zj (.ofNat 0) (.ofNat 0), zj (.ofNat 1) (.ofNat 1)], [((1, 7, 2), .ofNat 1, .ofNat 30)], []), [(6, 1, 1), (7, 7, 13), (8, 6, 11), (9, 25, 49), (10, 120, 239)], [(none, [], [((1, 7, 2), .ofNat 1, .ofNat 30)], [])])
def zi_712_A : zt_An := [(0, [(([some (zjr 0), some (zj (.ofNat 0) (.ofNat 0)), some (zj (.ofNat 1) (.ofNat 1))], [], [((1, 7, 2), .ofNat 1, .ofNat 30)], []), .ofNat 0, [])])]
def zi_712_Ks : List (Nat × List zt_K) := [(257, [((4, none, true, []), zi_703_K), ((4, none, true, []), zi_704_K), ((4, none, true, []), zi_705_K), ((4, none, true, []), zi_706_K), ((4, none, true, []), zi_707_K)])]
def zi_712_H : zt_H := ((zo_w23, 23, zo_Sg), (zo_g23, zi_712_K.2.2.1, [0, 1, 2], zo_U), [], (none, zi_712_K.2.2.2, zi_712_K.2.1.1), zi_712_Ks)
theorem zi_712_c : zt_chk zi_712_H (zB_X10_copyBench, [], []) 7 zi_712_A 3 (zo_hd, zi_712_K) = true := by decide +kernel
theorem zi_712 (v : Nat) (hd : Nat × Option Nat × Bool × List (Nat × Nat)) : zt_Con zo_Om (zo_Rel v) (hd, zi_712_K) zF_X10_copyBench := zt_con (K := (zo_hd, zi_712_K)) (T := zT_X10_copyBench) (w0 := zo_w23) (G := zo_g23) (zo_UR v) rfl zo_sg rfl rfl rfl (zt_ksok_of (Ks := zi_712_Ks) (zt_k1 rfl (zt_k2 rfl (zi_703 v _) (zt_k2 rfl (zi_704 v _) (zt_k2 rfl (zi_705 v _) (zt_k2 rfl (zi_706 v _) (zt_k2 rfl (zi_707 v _) zt_k3))))) zt_k0)) zi_712_c
-- X10_image M
def zi_713_K : Nat × (List zt_A × List zt_C × List Nat) × zt_W × List zt_O := (23, ([zjr 0, zt_top], [((1, 7, 2), .ofNat 1, .ofNat 30)], []), [(0, 0, 0), (6, 1, 3), (7, 7, 27), (8, 6, 23), (9, 25, 99), (10, 120, 479), (11, 0, 2)], [(some ((0, .ofNat 0, .ofNat 0, 0, [])), [(1, .ofNat 0, .ofNat 2)], [((1, 7, 2), .ofNat 1, .ofNat 30)], []), (some ((0, .negSucc 1, .negSucc 1, 0, [])), [], [((1, 7, 2), .ofNat 1, .ofNat 30)], [])])
def zi_713_A : zt_An := [(0, [(([some (zjr 0), some zt_top], [], [((1, 7, 2), .ofNat 1, .ofNat 30)], []), .ofNat 0, [])])]
def zi_713_Ks : List (Nat × List zt_K) := [(112, [((3, none, true, []), zi_690_K)]), (254, [((3, some 10, true, []), zi_710_K), ((3, some 10, true, []), zi_711_K), ((3, some 10, true, []), zi_712_K)])]
def zi_713_H : zt_H := ((zo_w23, 23, zo_Sg), (zo_g23, zi_713_K.2.2.1, [0, 1], zo_U), [(486, .long (2))], ((some .int), zi_713_K.2.2.2, zi_713_K.2.1.1), zi_713_Ks)
theorem zi_713_c : zt_chk zi_713_H (zB_X10_image, [(20, [(0, 1, 0)])], []) 5 zi_713_A 2 (zo_hd, zi_713_K) = true := by decide +kernel
theorem zi_713 (v : Nat) (hd : Nat × Option Nat × Bool × List (Nat × Nat)) : zt_Con zo_Om (zo_Rel v) (hd, zi_713_K) zF_X10_image := zt_con (K := (zo_hd, zi_713_K)) (T := zT_X10_image) (w0 := zo_w23) (G := zo_g23) (zo_UR v) rfl zo_sg rfl rfl rfl (zt_ksok_of (Ks := zi_713_Ks) (zt_k1 rfl (zt_k2 rfl (zi_690 v _) zt_k3) (zt_k1 rfl (zt_k2 rfl (zi_710 v _) (zt_k2 rfl (zi_711 v _) (zt_k2 rfl (zi_712 v _) zt_k3))) zt_k0))) zi_713_c
-- X10_copyRow M
def zi_714_K : Nat × (List zt_A × List zt_C × List Nat) × zt_W × List zt_O := (23, ([zjr 6, (0, .ofNat 1, .ofNat 1, 0, []), zj (.ofNat 3) (.ofNat 3), zj (.ofNat 0) (.ofNat 0)], [], []), [(6, 0, 0)], [(none, [], [], [])])
theorem zi_714 (v : Nat) (hd : Nat × Option Nat × Bool × List (Nat × Nat)) : zt_Con zo_Om (zo_Rel v) (hd, zi_714_K) zF_X10_copyRow := by sorry
-- X10_copyRow M
def zi_715_K : Nat × (List zt_A × List zt_C × List Nat) × zt_W × List zt_O := (23, ([zjr 7, (0, .ofNat 7, .ofNat 7, 0, []), zj (.ofNat 3) (.ofNat 3), zj (.ofNat 0) (.ofNat 0)], [], []), [(7, 0, 6)], [(none, [], [], [])])
theorem zi_715 (v : Nat) (hd : Nat × Option Nat × Bool × List (Nat × Nat)) : zt_Con zo_Om (zo_Rel v) (hd, zi_715_K) zF_X10_copyRow := by sorry
-- X10_copyRow M
def zi_716_K : Nat × (List zt_A × List zt_C × List Nat) × zt_W × List zt_O := (23, ([zjr 8, (0, .ofNat 6, .ofNat 6, 0, []), zj (.ofNat 3) (.ofNat 3), zj (.ofNat 0) (.ofNat 0)], [], []), [(8, 0, 5)], [(none, [], [], [])])
theorem zi_716 (v : Nat) (hd : Nat × Option Nat × Bool × List (Nat × Nat)) : zt_Con zo_Om (zo_Rel v) (hd, zi_716_K) zF_X10_copyRow := by sorry
-- X10_copyRow M
def zi_717_K : Nat × (List zt_A × List zt_C × List Nat) × zt_W × List zt_O := (23, ([zjr 9, (0, .ofNat 25, .ofNat 25, 0, []), zj (.ofNat 3) (.ofNat 3), zj (.ofNat 0) (.ofNat 0)], [], []), [(9, 0, 24)], [(none, [], [], [])])
theorem zi_717 (v : Nat) (hd : Nat × Option Nat × Bool × List (Nat × Nat)) : zt_Con zo_Om (zo_Rel v) (hd, zi_717_K) zF_X10_copyRow := by sorry
-- X10_copyRow M
def zi_718_K : Nat × (List zt_A × List zt_C × List Nat) × zt_W × List zt_O := (23, ([zjr 10, (0, .ofNat 120, .ofNat 120, 0, []), zj (.ofNat 3) (.ofNat 3), zj (.ofNat 0) (.ofNat 0)], [], []), [(10, 0, 119)], [(none, [], [], [])])
theorem zi_718 (v : Nat) (hd : Nat × Option Nat × Bool × List (Nat × Nat)) : zt_Con zo_Om (zo_Rel v) (hd, zi_718_K) zF_X10_copyRow := by sorry
-- X10_copyBench M
def zi_719_K : Nat × (List zt_A × List zt_C × List Nat) × zt_W × List zt_O := (23, ([zjr 0, zj (.ofNat 3) (.ofNat 3), zj (.ofNat 0) (.ofNat 0)], [((1, 6, 0), .negSucc 2147483647, .ofNat 0), ((1, 7, 4), .ofNat 0, .ofNat 0), ((1, 7, 5), .ofNat 0, .ofNat 0)], []), [(6, 0, 0), (7, 0, 6), (8, 0, 5), (9, 0, 24), (10, 0, 119)], [(none, [], [], [])])
def zi_719_A : zt_An := [(0, [(([some (zjr 0), some (zj (.ofNat 3) (.ofNat 3)), some (zj (.ofNat 0) (.ofNat 0))], [], [((1, 6, 0), .negSucc 2147483647, .ofNat 0), ((1, 7, 4), .ofNat 0, .ofNat 0), ((1, 7, 5), .ofNat 0, .ofNat 0)], []), .ofNat 0, [])])]
def zi_719_Ks : List (Nat × List zt_K) := [(257, [((4, none, true, []), zi_714_K), ((4, none, true, []), zi_715_K), ((4, none, true, []), zi_716_K), ((4, none, true, []), zi_717_K), ((4, none, true, []), zi_718_K)])]
def zi_719_H : zt_H := ((zo_w23, 23, zo_Sg), (zo_g23, zi_719_K.2.2.1, [0, 1, 2], zo_U), [], (none, zi_719_K.2.2.2, zi_719_K.2.1.1), zi_719_Ks)
theorem zi_719_c : zt_chk zi_719_H (zB_X10_copyBench, [], []) 7 zi_719_A 3 (zo_hd, zi_719_K) = true := by decide +kernel
theorem zi_719 (v : Nat) (hd : Nat × Option Nat × Bool × List (Nat × Nat)) : zt_Con zo_Om (zo_Rel v) (hd, zi_719_K) zF_X10_copyBench := zt_con (K := (zo_hd, zi_719_K)) (T := zT_X10_copyBench) (w0 := zo_w23) (G := zo_g23) (zo_UR v) rfl zo_sg rfl rfl rfl (zt_ksok_of (Ks := zi_719_Ks) (zt_k1 rfl (zt_k2 rfl (zi_714 v _) (zt_k2 rfl (zi_715 v _) (zt_k2 rfl (zi_716 v _) (zt_k2 rfl (zi_717 v _) (zt_k2 rfl (zi_718 v _) zt_k3))))) zt_k0)) zi_719_c
-- X10_copyRow M
def zi_720_K : Nat × (List zt_A × List zt_C × List Nat) × zt_W × List zt_O := (23, ([zjr 6, (0, .ofNat 1, .ofNat 1, 0, []), zj (.ofNat 2) (.ofNat 2), zj (.ofNat 0) (.ofNat 0)], [], []), [(6, 0, 0)], [(none, [], [], [])])
theorem zi_720 (v : Nat) (hd : Nat × Option Nat × Bool × List (Nat × Nat)) : zt_Con zo_Om (zo_Rel v) (hd, zi_720_K) zF_X10_copyRow := by sorry
-- X10_copyRow M
def zi_721_K : Nat × (List zt_A × List zt_C × List Nat) × zt_W × List zt_O := (23, ([zjr 7, (0, .ofNat 7, .ofNat 7, 0, []), zj (.ofNat 2) (.ofNat 2), zj (.ofNat 0) (.ofNat 0)], [], []), [(7, 0, 6)], [(none, [], [], [])])
theorem zi_721 (v : Nat) (hd : Nat × Option Nat × Bool × List (Nat × Nat)) : zt_Con zo_Om (zo_Rel v) (hd, zi_721_K) zF_X10_copyRow := by sorry
-- X10_copyRow M
def zi_722_K : Nat × (List zt_A × List zt_C × List Nat) × zt_W × List zt_O := (23, ([zjr 8, (0, .ofNat 6, .ofNat 6, 0, []), zj (.ofNat 2) (.ofNat 2), zj (.ofNat 0) (.ofNat 0)], [], []), [(8, 0, 5)], [(none, [], [], [])])
theorem zi_722 (v : Nat) (hd : Nat × Option Nat × Bool × List (Nat × Nat)) : zt_Con zo_Om (zo_Rel v) (hd, zi_722_K) zF_X10_copyRow := by sorry
-- X10_copyRow M
def zi_723_K : Nat × (List zt_A × List zt_C × List Nat) × zt_W × List zt_O := (23, ([zjr 9, (0, .ofNat 25, .ofNat 25, 0, []), zj (.ofNat 2) (.ofNat 2), zj (.ofNat 0) (.ofNat 0)], [], []), [(9, 0, 24)], [(none, [], [], [])])
theorem zi_723 (v : Nat) (hd : Nat × Option Nat × Bool × List (Nat × Nat)) : zt_Con zo_Om (zo_Rel v) (hd, zi_723_K) zF_X10_copyRow := by sorry
-- X10_copyRow M
def zi_724_K : Nat × (List zt_A × List zt_C × List Nat) × zt_W × List zt_O := (23, ([zjr 10, (0, .ofNat 120, .ofNat 120, 0, []), zj (.ofNat 2) (.ofNat 2), zj (.ofNat 0) (.ofNat 0)], [], []), [(10, 0, 119)], [(none, [], [], [])])
theorem zi_724 (v : Nat) (hd : Nat × Option Nat × Bool × List (Nat × Nat)) : zt_Con zo_Om (zo_Rel v) (hd, zi_724_K) zF_X10_copyRow := by sorry
-- X10_copyBench M
def zi_725_K : Nat × (List zt_A × List zt_C × List Nat) × zt_W × List zt_O := (23, ([zjr 0, zj (.ofNat 2) (.ofNat 2), zj (.ofNat 0) (.ofNat 0)], [((1, 6, 0), .negSucc 2147483647, .ofNat 0), ((1, 7, 4), .ofNat 0, .ofNat 0), ((1, 7, 5), .ofNat 0, .ofNat 0)], []), [(6, 0, 0), (7, 0, 6), (8, 0, 5), (9, 0, 24), (10, 0, 119)], [(none, [], [], [])])
def zi_725_A : zt_An := [(0, [(([some (zjr 0), some (zj (.ofNat 2) (.ofNat 2)), some (zj (.ofNat 0) (.ofNat 0))], [], [((1, 6, 0), .negSucc 2147483647, .ofNat 0), ((1, 7, 4), .ofNat 0, .ofNat 0), ((1, 7, 5), .ofNat 0, .ofNat 0)], []), .ofNat 0, [])])]
def zi_725_Ks : List (Nat × List zt_K) := [(257, [((4, none, true, []), zi_720_K), ((4, none, true, []), zi_721_K), ((4, none, true, []), zi_722_K), ((4, none, true, []), zi_723_K), ((4, none, true, []), zi_724_K)])]
def zi_725_H : zt_H := ((zo_w23, 23, zo_Sg), (zo_g23, zi_725_K.2.2.1, [0, 1, 2], zo_U), [], (none, zi_725_K.2.2.2, zi_725_K.2.1.1), zi_725_Ks)
theorem zi_725_c : zt_chk zi_725_H (zB_X10_copyBench, [], []) 7 zi_725_A 3 (zo_hd, zi_725_K) = true := by decide +kernel
theorem zi_725 (v : Nat) (hd : Nat × Option Nat × Bool × List (Nat × Nat)) : zt_Con zo_Om (zo_Rel v) (hd, zi_725_K) zF_X10_copyBench := zt_con (K := (zo_hd, zi_725_K)) (T := zT_X10_copyBench) (w0 := zo_w23) (G := zo_g23) (zo_UR v) rfl zo_sg rfl rfl rfl (zt_ksok_of (Ks := zi_725_Ks) (zt_k1 rfl (zt_k2 rfl (zi_720 v _) (zt_k2 rfl (zi_721 v _) (zt_k2 rfl (zi_722 v _) (zt_k2 rfl (zi_723 v _) (zt_k2 rfl (zi_724 v _) zt_k3))))) zt_k0)) zi_725_c
-- X10_copyRow M
def zi_726_K : Nat × (List zt_A × List zt_C × List Nat) × zt_W × List zt_O := (23, ([zjr 6, (0, .ofNat 1, .ofNat 1, 0, []), zj (.ofNat 1) (.ofNat 1), zj (.ofNat 0) (.ofNat 0)], [], []), [(6, 0, 0)], [(none, [], [], [])])
theorem zi_726 (v : Nat) (hd : Nat × Option Nat × Bool × List (Nat × Nat)) : zt_Con zo_Om (zo_Rel v) (hd, zi_726_K) zF_X10_copyRow := by sorry
-- X10_copyRow M
def zi_727_K : Nat × (List zt_A × List zt_C × List Nat) × zt_W × List zt_O := (23, ([zjr 7, (0, .ofNat 7, .ofNat 7, 0, []), zj (.ofNat 1) (.ofNat 1), zj (.ofNat 0) (.ofNat 0)], [], []), [(7, 0, 6)], [(none, [], [], [])])
theorem zi_727 (v : Nat) (hd : Nat × Option Nat × Bool × List (Nat × Nat)) : zt_Con zo_Om (zo_Rel v) (hd, zi_727_K) zF_X10_copyRow := by sorry
-- X10_copyRow M
def zi_728_K : Nat × (List zt_A × List zt_C × List Nat) × zt_W × List zt_O := (23, ([zjr 8, (0, .ofNat 6, .ofNat 6, 0, []), zj (.ofNat 1) (.ofNat 1), zj (.ofNat 0) (.ofNat 0)], [], []), [(8, 0, 5)], [(none, [], [], [])])
theorem zi_728 (v : Nat) (hd : Nat × Option Nat × Bool × List (Nat × Nat)) : zt_Con zo_Om (zo_Rel v) (hd, zi_728_K) zF_X10_copyRow := by sorry
-- X10_copyRow M
def zi_729_K : Nat × (List zt_A × List zt_C × List Nat) × zt_W × List zt_O := (23, ([zjr 9, (0, .ofNat 25, .ofNat 25, 0, []), zj (.ofNat 1) (.ofNat 1), zj (.ofNat 0) (.ofNat 0)], [], []), [(9, 0, 24)], [(none, [], [], [])])
theorem zi_729 (v : Nat) (hd : Nat × Option Nat × Bool × List (Nat × Nat)) : zt_Con zo_Om (zo_Rel v) (hd, zi_729_K) zF_X10_copyRow := by sorry
-- X10_copyRow M
def zi_730_K : Nat × (List zt_A × List zt_C × List Nat) × zt_W × List zt_O := (23, ([zjr 10, (0, .ofNat 120, .ofNat 120, 0, []), zj (.ofNat 1) (.ofNat 1), zj (.ofNat 0) (.ofNat 0)], [], []), [(10, 0, 119)], [(none, [], [], [])])
theorem zi_730 (v : Nat) (hd : Nat × Option Nat × Bool × List (Nat × Nat)) : zt_Con zo_Om (zo_Rel v) (hd, zi_730_K) zF_X10_copyRow := by sorry
-- X10_copyBench M
def zi_731_K : Nat × (List zt_A × List zt_C × List Nat) × zt_W × List zt_O := (23, ([zjr 0, zj (.ofNat 1) (.ofNat 1), zj (.ofNat 0) (.ofNat 0)], [((1, 6, 0), .negSucc 2147483647, .ofNat 0), ((1, 7, 4), .ofNat 0, .ofNat 0), ((1, 7, 5), .ofNat 0, .ofNat 0)], []), [(6, 0, 0), (7, 0, 6), (8, 0, 5), (9, 0, 24), (10, 0, 119)], [(none, [], [], [])])
def zi_731_A : zt_An := [(0, [(([some (zjr 0), some (zj (.ofNat 1) (.ofNat 1)), some (zj (.ofNat 0) (.ofNat 0))], [], [((1, 6, 0), .negSucc 2147483647, .ofNat 0), ((1, 7, 4), .ofNat 0, .ofNat 0), ((1, 7, 5), .ofNat 0, .ofNat 0)], []), .ofNat 0, [])])]
def zi_731_Ks : List (Nat × List zt_K) := [(257, [((4, none, true, []), zi_726_K), ((4, none, true, []), zi_727_K), ((4, none, true, []), zi_728_K), ((4, none, true, []), zi_729_K), ((4, none, true, []), zi_730_K)])]
def zi_731_H : zt_H := ((zo_w23, 23, zo_Sg), (zo_g23, zi_731_K.2.2.1, [0, 1, 2], zo_U), [], (none, zi_731_K.2.2.2, zi_731_K.2.1.1), zi_731_Ks)
theorem zi_731_c : zt_chk zi_731_H (zB_X10_copyBench, [], []) 7 zi_731_A 3 (zo_hd, zi_731_K) = true := by decide +kernel
theorem zi_731 (v : Nat) (hd : Nat × Option Nat × Bool × List (Nat × Nat)) : zt_Con zo_Om (zo_Rel v) (hd, zi_731_K) zF_X10_copyBench := zt_con (K := (zo_hd, zi_731_K)) (T := zT_X10_copyBench) (w0 := zo_w23) (G := zo_g23) (zo_UR v) rfl zo_sg rfl rfl rfl (zt_ksok_of (Ks := zi_731_Ks) (zt_k1 rfl (zt_k2 rfl (zi_726 v _) (zt_k2 rfl (zi_727 v _) (zt_k2 rfl (zi_728 v _) (zt_k2 rfl (zi_729 v _) (zt_k2 rfl (zi_730 v _) zt_k3))))) zt_k0)) zi_731_c
-- X10_back M
def zi_732_K : Nat × (List zt_A × List zt_C × List Nat) × zt_W × List zt_O := (23, ([zjr 0, zt_top], [((1, 6, 0), .negSucc 2147483647, .ofNat 0), ((1, 7, 4), .ofNat 0, .ofNat 0), ((1, 7, 5), .ofNat 0, .ofNat 0)], []), [(0, 0, 0), (6, 0, 0), (7, 0, 6), (8, 0, 5), (9, 0, 24), (10, 0, 119)], [(some ((0, .ofNat 0, .ofNat 0, 0, [])), [(1, .ofNat 0, .ofNat 2)], [], []), (some ((0, .negSucc 5, .negSucc 1, 4, [])), [], [((1, 6, 0), .negSucc 2147483647, .ofNat 0), ((1, 7, 4), .ofNat 0, .ofNat 0), ((1, 7, 5), .ofNat 0, .ofNat 0)], [])])
def zi_732_A : zt_An := [(0, [(([some (zjr 0), some zt_top], [], [((1, 6, 0), .negSucc 2147483647, .ofNat 0), ((1, 7, 4), .ofNat 0, .ofNat 0), ((1, 7, 5), .ofNat 0, .ofNat 0)], []), .ofNat 0, [])])]
def zi_732_Ks : List (Nat × List zt_K) := [(112, [((3, none, true, []), zi_690_K)]), (254, [((3, some 10, true, []), zi_719_K), ((3, some 10, true, []), zi_725_K), ((3, some 10, true, []), zi_731_K)])]
def zi_732_H : zt_H := ((zo_w23, 23, zo_Sg), (zo_g23, zi_732_K.2.2.1, [0, 1], zo_U), [(486, .long (2))], ((some .int), zi_732_K.2.2.2, zi_732_K.2.1.1), zi_732_Ks)
theorem zi_732_c : zt_chk zi_732_H (zB_X10_back, [(32, [(0, 1, 0)])], []) 6 zi_732_A 2 (zo_hd, zi_732_K) = true := by decide +kernel
theorem zi_732 (v : Nat) (hd : Nat × Option Nat × Bool × List (Nat × Nat)) : zt_Con zo_Om (zo_Rel v) (hd, zi_732_K) zF_X10_back := zt_con (K := (zo_hd, zi_732_K)) (T := zT_X10_back) (w0 := zo_w23) (G := zo_g23) (zo_UR v) rfl zo_sg rfl rfl rfl (zt_ksok_of (Ks := zi_732_Ks) (zt_k1 rfl (zt_k2 rfl (zi_690 v _) zt_k3) (zt_k1 rfl (zt_k2 rfl (zi_719 v _) (zt_k2 rfl (zi_725 v _) (zt_k2 rfl (zi_731 v _) zt_k3))) zt_k0))) zi_732_c
-- X10_copyBench M
def zi_733_K : Nat × (List zt_A × List zt_C × List Nat) × zt_W × List zt_O := (23, ([zjr 0, zj (.ofNat 3) (.ofNat 3), zj (.ofNat 0) (.ofNat 0)], [((1, 7, 2), .ofNat 1, .ofNat 30)], []), [(6, 0, 0), (7, 0, 6), (8, 0, 5), (9, 0, 24), (10, 0, 119)], [(none, [], [], [])])
def zi_733_A : zt_An := [(0, [(([some (zjr 0), some (zj (.ofNat 3) (.ofNat 3)), some (zj (.ofNat 0) (.ofNat 0))], [], [((1, 7, 2), .ofNat 1, .ofNat 30)], []), .ofNat 0, [])])]
def zi_733_Ks : List (Nat × List zt_K) := [(257, [((4, none, true, []), zi_714_K), ((4, none, true, []), zi_715_K), ((4, none, true, []), zi_716_K), ((4, none, true, []), zi_717_K), ((4, none, true, []), zi_718_K)])]
def zi_733_H : zt_H := ((zo_w23, 23, zo_Sg), (zo_g23, zi_733_K.2.2.1, [0, 1, 2], zo_U), [], (none, zi_733_K.2.2.2, zi_733_K.2.1.1), zi_733_Ks)
theorem zi_733_c : zt_chk zi_733_H (zB_X10_copyBench, [], []) 7 zi_733_A 3 (zo_hd, zi_733_K) = true := by decide +kernel
theorem zi_733 (v : Nat) (hd : Nat × Option Nat × Bool × List (Nat × Nat)) : zt_Con zo_Om (zo_Rel v) (hd, zi_733_K) zF_X10_copyBench := zt_con (K := (zo_hd, zi_733_K)) (T := zT_X10_copyBench) (w0 := zo_w23) (G := zo_g23) (zo_UR v) rfl zo_sg rfl rfl rfl (zt_ksok_of (Ks := zi_733_Ks) (zt_k1 rfl (zt_k2 rfl (zi_714 v _) (zt_k2 rfl (zi_715 v _) (zt_k2 rfl (zi_716 v _) (zt_k2 rfl (zi_717 v _) (zt_k2 rfl (zi_718 v _) zt_k3))))) zt_k0)) zi_733_c
-- X10_copyBench M
def zi_734_K : Nat × (List zt_A × List zt_C × List Nat) × zt_W × List zt_O := (23, ([zjr 0, zj (.ofNat 2) (.ofNat 2), zj (.ofNat 0) (.ofNat 0)], [((1, 7, 2), .ofNat 1, .ofNat 30)], []), [(6, 0, 0), (7, 0, 6), (8, 0, 5), (9, 0, 24), (10, 0, 119)], [(none, [], [], [])])
def zi_734_A : zt_An := [(0, [(([some (zjr 0), some (zj (.ofNat 2) (.ofNat 2)), some (zj (.ofNat 0) (.ofNat 0))], [], [((1, 7, 2), .ofNat 1, .ofNat 30)], []), .ofNat 0, [])])]
def zi_734_Ks : List (Nat × List zt_K) := [(257, [((4, none, true, []), zi_720_K), ((4, none, true, []), zi_721_K), ((4, none, true, []), zi_722_K), ((4, none, true, []), zi_723_K), ((4, none, true, []), zi_724_K)])]
def zi_734_H : zt_H := ((zo_w23, 23, zo_Sg), (zo_g23, zi_734_K.2.2.1, [0, 1, 2], zo_U), [], (none, zi_734_K.2.2.2, zi_734_K.2.1.1), zi_734_Ks)
theorem zi_734_c : zt_chk zi_734_H (zB_X10_copyBench, [], []) 7 zi_734_A 3 (zo_hd, zi_734_K) = true := by decide +kernel
theorem zi_734 (v : Nat) (hd : Nat × Option Nat × Bool × List (Nat × Nat)) : zt_Con zo_Om (zo_Rel v) (hd, zi_734_K) zF_X10_copyBench := zt_con (K := (zo_hd, zi_734_K)) (T := zT_X10_copyBench) (w0 := zo_w23) (G := zo_g23) (zo_UR v) rfl zo_sg rfl rfl rfl (zt_ksok_of (Ks := zi_734_Ks) (zt_k1 rfl (zt_k2 rfl (zi_720 v _) (zt_k2 rfl (zi_721 v _) (zt_k2 rfl (zi_722 v _) (zt_k2 rfl (zi_723 v _) (zt_k2 rfl (zi_724 v _) zt_k3))))) zt_k0)) zi_734_c
-- X10_copyBench M
def zi_735_K : Nat × (List zt_A × List zt_C × List Nat) × zt_W × List zt_O := (23, ([zjr 0, zj (.ofNat 1) (.ofNat 1), zj (.ofNat 0) (.ofNat 0)], [((1, 7, 2), .ofNat 1, .ofNat 30)], []), [(6, 0, 0), (7, 0, 6), (8, 0, 5), (9, 0, 24), (10, 0, 119)], [(none, [], [], [])])
def zi_735_A : zt_An := [(0, [(([some (zjr 0), some (zj (.ofNat 1) (.ofNat 1)), some (zj (.ofNat 0) (.ofNat 0))], [], [((1, 7, 2), .ofNat 1, .ofNat 30)], []), .ofNat 0, [])])]
def zi_735_Ks : List (Nat × List zt_K) := [(257, [((4, none, true, []), zi_726_K), ((4, none, true, []), zi_727_K), ((4, none, true, []), zi_728_K), ((4, none, true, []), zi_729_K), ((4, none, true, []), zi_730_K)])]
def zi_735_H : zt_H := ((zo_w23, 23, zo_Sg), (zo_g23, zi_735_K.2.2.1, [0, 1, 2], zo_U), [], (none, zi_735_K.2.2.2, zi_735_K.2.1.1), zi_735_Ks)
theorem zi_735_c : zt_chk zi_735_H (zB_X10_copyBench, [], []) 7 zi_735_A 3 (zo_hd, zi_735_K) = true := by decide +kernel
theorem zi_735 (v : Nat) (hd : Nat × Option Nat × Bool × List (Nat × Nat)) : zt_Con zo_Om (zo_Rel v) (hd, zi_735_K) zF_X10_copyBench := zt_con (K := (zo_hd, zi_735_K)) (T := zT_X10_copyBench) (w0 := zo_w23) (G := zo_g23) (zo_UR v) rfl zo_sg rfl rfl rfl (zt_ksok_of (Ks := zi_735_Ks) (zt_k1 rfl (zt_k2 rfl (zi_726 v _) (zt_k2 rfl (zi_727 v _) (zt_k2 rfl (zi_728 v _) (zt_k2 rfl (zi_729 v _) (zt_k2 rfl (zi_730 v _) zt_k3))))) zt_k0)) zi_735_c
-- X10_back M
def zi_736_K : Nat × (List zt_A × List zt_C × List Nat) × zt_W × List zt_O := (23, ([zjr 0, zt_top], [((1, 7, 2), .ofNat 1, .ofNat 30)], []), [(0, 0, 0), (6, 0, 0), (7, 0, 6), (8, 0, 5), (9, 0, 24), (10, 0, 119)], [(some ((0, .ofNat 0, .ofNat 0, 0, [])), [(1, .ofNat 0, .ofNat 2)], [], []), (some ((0, .negSucc 5, .negSucc 1, 4, [])), [], [((1, 7, 2), .ofNat 1, .ofNat 30)], [])])
def zi_736_A : zt_An := [(0, [(([some (zjr 0), some zt_top], [], [((1, 7, 2), .ofNat 1, .ofNat 30)], []), .ofNat 0, [])])]
def zi_736_Ks : List (Nat × List zt_K) := [(112, [((3, none, true, []), zi_690_K)]), (254, [((3, some 10, true, []), zi_733_K), ((3, some 10, true, []), zi_734_K), ((3, some 10, true, []), zi_735_K)])]
def zi_736_H : zt_H := ((zo_w23, 23, zo_Sg), (zo_g23, zi_736_K.2.2.1, [0, 1], zo_U), [(486, .long (2))], ((some .int), zi_736_K.2.2.2, zi_736_K.2.1.1), zi_736_Ks)
theorem zi_736_c : zt_chk zi_736_H (zB_X10_back, [(32, [(0, 1, 0)])], []) 6 zi_736_A 2 (zo_hd, zi_736_K) = true := by decide +kernel
theorem zi_736 (v : Nat) (hd : Nat × Option Nat × Bool × List (Nat × Nat)) : zt_Con zo_Om (zo_Rel v) (hd, zi_736_K) zF_X10_back := zt_con (K := (zo_hd, zi_736_K)) (T := zT_X10_back) (w0 := zo_w23) (G := zo_g23) (zo_UR v) rfl zo_sg rfl rfl rfl (zt_ksok_of (Ks := zi_736_Ks) (zt_k1 rfl (zt_k2 rfl (zi_690 v _) zt_k3) (zt_k1 rfl (zt_k2 rfl (zi_733 v _) (zt_k2 rfl (zi_734 v _) (zt_k2 rfl (zi_735 v _) zt_k3))) zt_k0))) zi_736_c
