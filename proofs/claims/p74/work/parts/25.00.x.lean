/-! WHAT THE METHODS KEEP, printed by program (wip/abs/ztprint.py) -/
-- X8_hasRoom T
def zi_0_K : Nat × (List zt_A × List zt_C × List Nat) × zt_W × List zt_O := (0, ([zjr 0, zj (.ofNat 20) (.ofNat 20)], [], []), [], [(some ((0, .ofNat 0, .ofNat 0, 0, [])), [], [], []), (some ((0, .ofNat 1, .ofNat 1, 0, [])), [], [], [])])
def zi_0_A : zt_An := [(0, [(([some (zjr 0), some (zj (.ofNat 20) (.ofNat 20))], [], [], []), .ofNat 1, [])]), (17, [(([some (zjr 0), some (zj (.ofNat 20) (.ofNat 20))], [(0, .ofNat 0, .ofNat 0, 0, [])], [((1, 0, 1), .ofNat 781, .ofNat 800)], []), .ofNat 0, []), (([some (zjr 0), some (zj (.ofNat 20) (.ofNat 20))], [(0, .ofNat 1, .ofNat 1, 0, [])], [((1, 0, 1), .ofNat 0, .ofNat 780)], []), .ofNat 0, [])])]
def zi_0_Ks : List (Nat × List zt_K) := []
def zi_0_H : zt_H := ((zo_w0, 0, zo_Sg), (zo_g0, zi_0_K.2.2.1, [0, 1], zo_U), [], ((some .boolean), zi_0_K.2.2.2, zi_0_K.2.1.1), zi_0_Ks)
theorem zi_0_c : zt_chk zi_0_H (zB_X8_hasRoom, [], [17]) 3 zi_0_A 2 (zo_hd, zi_0_K) = true := by decide +kernel
theorem zi_0 (v : Nat) (hd : Nat × Option Nat × Bool × List (Nat × Nat)) : zt_Con zo_Om (zo_Rel v) (hd, zi_0_K) zF_X8_hasRoom := zt_con (K := (zo_hd, zi_0_K)) (T := zT_X8_hasRoom) (w0 := zo_w0) (G := zo_g0) (zo_UR v) rfl zo_sg rfl rfl rfl (zt_ksok_of (Ks := zi_0_Ks) zt_k0) zi_0_c
-- X8_put T
def zi_1_K : Nat × (List zt_A × List zt_C × List Nat) × zt_W × List zt_O := (0, ([zjr 0, zt_top], [], []), [(0, 1, 1), (1, 0, 799)], [(none, [], [], [])])
def zi_1_A : zt_An := [(0, [(([some (zjr 0), some zt_top, none], [], [], []), .ofNat 34, [])]), (3, [(([some (zjr 0), some zt_top, some (zj (.negSucc 7) (.ofNat 24))], [], [], []), .ofNat 9, [(.ofNat 1, 2)])]), (49, [(([some (zjr 0), some zt_top, some (zj (.negSucc 7) (.ofNat 24))], [], [], []), .ofNat 0, [])])]
def zi_1_Ks : List (Nat × List zt_K) := []
def zi_1_H : zt_H := ((zo_w0, 0, zo_Sg), (zo_g0, zi_1_K.2.2.1, [0, 1], zo_U), [], (none, zi_1_K.2.2.2, zi_1_K.2.1.1), zi_1_Ks)
theorem zi_1_c : zt_chk zi_1_H (zB_X8_put, [], [3, 49]) 4 zi_1_A 3 (zo_hd, zi_1_K) = true := by decide +kernel
theorem zi_1 (v : Nat) (hd : Nat × Option Nat × Bool × List (Nat × Nat)) : zt_Con zo_Om (zo_Rel v) (hd, zi_1_K) zF_X8_put := zt_con (K := (zo_hd, zi_1_K)) (T := zT_X8_put) (w0 := zo_w0) (G := zo_g0) (zo_UR v) rfl zo_sg rfl rfl rfl (zt_ksok_of (Ks := zi_1_Ks) zt_k0) zi_1_c
-- X9_feed X
def zi_2_K : Nat × (List zt_A × List zt_C × List Nat) × zt_W × List zt_O := (1, ([zjr 0, zt_top, zt_top, zt_top, zt_top, zt_top], [], []), [(51, 1, 1), (52, 0, 799)], [(some (zj (.negSucc 0) (.ofNat 800)), [], [], [])])
def zi_2_A : zt_An := [(0, [(([some (zjr 0), some zt_top, some zt_top, some zt_top, some zt_top, some zt_top], [], [], []), .ofNat 0, [])])]
def zi_2_Ks : List (Nat × List zt_K) := [(86, [((2, some 8, false, [(0, 2)]), zi_0_K)]), (90, [((2, some 8, false, [(0, 2)]), zi_1_K)])]
def zi_2_H : zt_H := ((zo_w1, 1, zo_Sg), (zo_g1, zi_2_K.2.2.1, [0, 1, 2, 3, 4, 5], zo_U), [], ((some .int), zi_2_K.2.2.2, zi_2_K.2.1.1), zi_2_Ks)
theorem zi_2_c : zt_chk zi_2_H (zB_X9_feed, [], []) 9 zi_2_A 6 (zo_hd, zi_2_K) = true := by decide +kernel
theorem zi_2 (v : Nat) (hd : Nat × Option Nat × Bool × List (Nat × Nat)) : zt_Con zo_Om (zo_Rel v) (hd, zi_2_K) zF_X9_feed := zt_con (K := (zo_hd, zi_2_K)) (T := zT_X9_feed) (w0 := zo_w1) (G := zo_g1) (zo_UR v) rfl zo_sg rfl rfl rfl (zt_ksok_of (Ks := zi_2_Ks) (zt_k1 rfl (zt_k2 rfl (zi_0 v _) zt_k3) (zt_k1 rfl (zt_k2 rfl (zi_1 v _) zt_k3) zt_k0))) zi_2_c
-- X9_end X
def zi_3_K : Nat × (List zt_A × List zt_C × List Nat) × zt_W × List zt_O := (1, ([zjr 0, zt_top], [], []), [(51, 1, 1)], [(some (zj (.negSucc 0) (.ofNat 800)), [], [], [])])
def zi_3_A : zt_An := [(0, [(([some (zjr 0), some zt_top], [], [], []), .ofNat 1, [])]), (15, [(([some (zjr 0), some zt_top], [], [], []), .ofNat 0, [])])]
def zi_3_Ks : List (Nat × List zt_K) := []
def zi_3_H : zt_H := ((zo_w1, 1, zo_Sg), (zo_g1, zi_3_K.2.2.1, [0, 1], zo_U), [], ((some .int), zi_3_K.2.2.2, zi_3_K.2.1.1), zi_3_Ks)
theorem zi_3_c : zt_chk zi_3_H (zB_X9_end, [], [15]) 4 zi_3_A 2 (zo_hd, zi_3_K) = true := by decide +kernel
theorem zi_3 (v : Nat) (hd : Nat × Option Nat × Bool × List (Nat × Nat)) : zt_Con zo_Om (zo_Rel v) (hd, zi_3_K) zF_X9_end := zt_con (K := (zo_hd, zi_3_K)) (T := zT_X9_end) (w0 := zo_w1) (G := zo_g1) (zo_UR v) rfl zo_sg rfl rfl rfl (zt_ksok_of (Ks := zi_3_Ks) zt_k0) zi_3_c
-- X0_clear B
def zi_4_K : Nat × (List zt_A × List zt_C × List Nat) × zt_W × List zt_O := (2, ([zjr 0], [], []), [(0, 0, 7)], [(none, [], [], [])])
def zi_4_A : zt_An := [(0, [(([some (zjr 0)], [], [], []), .ofNat 0, [])])]
def zi_4_Ks : List (Nat × List zt_K) := []
def zi_4_H : zt_H := ((zo_w2, 2, zo_Sg), (zo_g2, zi_4_K.2.2.1, [0], zo_U), [], (none, zi_4_K.2.2.2, zi_4_K.2.1.1), zi_4_Ks)
theorem zi_4_c : zt_chk zi_4_H (zB_X0_clear, [], []) 2 zi_4_A 1 (zo_hd, zi_4_K) = true := by decide +kernel
theorem zi_4 (v : Nat) (hd : Nat × Option Nat × Bool × List (Nat × Nat)) : zt_Con zo_Om (zo_Rel v) (hd, zi_4_K) zF_X0_clear := zt_con (K := (zo_hd, zi_4_K)) (T := zT_X0_clear) (w0 := zo_w2) (G := zo_g2) (zo_UR v) rfl zo_sg rfl rfl rfl (zt_ksok_of (Ks := zi_4_Ks) zt_k0) zi_4_c
-- X8_isBlank T/B
def zi_5_K : Nat × (List zt_A × List zt_C × List Nat) × zt_W × List zt_O := (3, ([zj (.ofNat 0) (.ofNat 255)], [], []), [], [(some ((0, .ofNat 0, .ofNat 0, 0, [])), [], [], []), (some ((0, .ofNat 1, .ofNat 1, 0, [])), [(0, .ofNat 10, .ofNat 32)], [], [])])
def zi_5_A : zt_An := [(0, [(([some (zj (.ofNat 0) (.ofNat 255))], [], [], []), .ofNat 2, [])]), (12, [(([some (zj (.ofNat 10) (.ofNat 32))], [], [], []), .ofNat 1, [])]), (17, [(([some (zj (.ofNat 0) (.ofNat 255))], [(0, .ofNat 0, .ofNat 0, 0, [])], [], []), .ofNat 0, []), (([some (zj (.ofNat 10) (.ofNat 32))], [(0, .ofNat 1, .ofNat 1, 0, [])], [], []), .ofNat 0, [])])]
def zi_5_Ks : List (Nat × List zt_K) := []
def zi_5_H : zt_H := ((zo_w3, 3, zo_Sg), (zo_g3, zi_5_K.2.2.1, [0], zo_U), [], ((some .boolean), zi_5_K.2.2.2, zi_5_K.2.1.1), zi_5_Ks)
theorem zi_5_c : zt_chk zi_5_H (zB_X8_isBlank, [], [12, 17]) 4 zi_5_A 1 (zo_hd, zi_5_K) = true := by decide +kernel
theorem zi_5 (v : Nat) (hd : Nat × Option Nat × Bool × List (Nat × Nat)) : zt_Con zo_Om (zo_Rel v) (hd, zi_5_K) zF_X8_isBlank := zt_con (K := (zo_hd, zi_5_K)) (T := zT_X8_isBlank) (w0 := zo_w3) (G := zo_g3) (zo_UR v) rfl zo_sg rfl rfl rfl (zt_ksok_of (Ks := zi_5_Ks) zt_k0) zi_5_c
-- X8_kindOf T/B
def zi_6_K : Nat × (List zt_A × List zt_C × List Nat) × zt_W × List zt_O := (3, ([zj (.ofNat 0) (.ofNat 255)], [], []), [], [(some ((0, .ofNat 1, .ofNat 1, 0, [])), [(0, .ofNat 97, .ofNat 122)], [], []), (some (zj (.ofNat 2) (.ofNat 4)), [], [], [])])
def zi_6_A : zt_An := [(0, [(([some (zj (.ofNat 0) (.ofNat 255))], [], [], []), .ofNat 3, [])]), (14, [(([some (zj (.ofNat 0) (.ofNat 255))], [], [], []), .ofNat 2, [])]), (28, [(([some (zj (.ofNat 0) (.ofNat 255))], [], [], []), .ofNat 1, [])]), (39, [(([some (zj (.ofNat 0) (.ofNat 255))], [zj (.ofNat 3) (.ofNat 4)], [], []), .ofNat 0, [])])]
def zi_6_Ks : List (Nat × List zt_K) := []
def zi_6_H : zt_H := ((zo_w3, 3, zo_Sg), (zo_g3, zi_6_K.2.2.1, [0], zo_U), [], ((some .int), zi_6_K.2.2.2, zi_6_K.2.1.1), zi_6_Ks)
theorem zi_6_c : zt_chk zi_6_H (zB_X8_kindOf, [], [14, 28, 39]) 4 zi_6_A 1 (zo_hd, zi_6_K) = true := by decide +kernel
theorem zi_6 (v : Nat) (hd : Nat × Option Nat × Bool × List (Nat × Nat)) : zt_Con zo_Om (zo_Rel v) (hd, zi_6_K) zF_X8_kindOf := zt_con (K := (zo_hd, zi_6_K)) (T := zT_X8_kindOf) (w0 := zo_w3) (G := zo_g3) (zo_UR v) rfl zo_sg rfl rfl rfl (zt_ksok_of (Ks := zi_6_Ks) zt_k0) zi_6_c
-- X8_growsOn T/B
def zi_7_K : Nat × (List zt_A × List zt_C × List Nat) × zt_W × List zt_O := (3, ([zjr 0], [], []), [], [(some ((0, .ofNat 0, .ofNat 0, 0, [])), [], [], []), (some ((0, .ofNat 1, .ofNat 1, 0, [])), [], [], [])])
def zi_7_A : zt_An := [(0, [(([some (zjr 0)], [], [], []), .ofNat 2, [])]), (16, [(([some (zjr 0)], [], [((1, 0, 4), .ofNat 1, .ofNat 2)], []), .ofNat 1, [])]), (21, [(([some (zjr 0)], [(0, .ofNat 0, .ofNat 0, 0, [])], [((1, 0, 4), .ofNat 0, .ofNat 4)], []), .ofNat 0, []), (([some (zjr 0)], [(0, .ofNat 1, .ofNat 1, 0, [])], [((1, 0, 4), .ofNat 1, .ofNat 2)], []), .ofNat 0, [])])]
def zi_7_Ks : List (Nat × List zt_K) := []
def zi_7_H : zt_H := ((zo_w3, 3, zo_Sg), (zo_g3, zi_7_K.2.2.1, [0], zo_U), [], ((some .boolean), zi_7_K.2.2.2, zi_7_K.2.1.1), zi_7_Ks)
theorem zi_7_c : zt_chk zi_7_H (zB_X8_growsOn, [], [16, 21]) 4 zi_7_A 1 (zo_hd, zi_7_K) = true := by decide +kernel
theorem zi_7 (v : Nat) (hd : Nat × Option Nat × Bool × List (Nat × Nat)) : zt_Con zo_Om (zo_Rel v) (hd, zi_7_K) zF_X8_growsOn := zt_con (K := (zo_hd, zi_7_K)) (T := zT_X8_growsOn) (w0 := zo_w3) (G := zo_g3) (zo_UR v) rfl zo_sg rfl rfl rfl (zt_ksok_of (Ks := zi_7_Ks) zt_k0) zi_7_c
-- X8_advance T/B
def zi_8_K : Nat × (List zt_A × List zt_C × List Nat) × zt_W × List zt_O := (3, ([zjr 0], [], []), [(0, 4, 6)], [(none, [], [], [])])
def zi_8_A : zt_An := [(0, [(([some (zjr 0), none], [], [], []), .ofNat 1604, [])]), (5, [(([some (zjr 0), some (zj (.ofNat 0) (.ofNat 800))], [], [], []), .ofNat 1603, [(.negSucc 0, 1)])]), (31, [(([some (zjr 0), some (zj (.ofNat 0) (.ofNat 800))], [], [((1, 0, 1), .ofNat 0, .ofNat 800)], []), .ofNat 802, [])]), (65, [(([some (zjr 0), some (zj (.ofNat 0) (.ofNat 800))], [], [((1, 0, 1), .ofNat 0, .ofNat 800), ((1, 0, 4), .ofNat 0, .ofNat 4), ((1, 0, 5), .ofNat 0, .ofNat 800)], []), .ofNat 801, [(.negSucc 0, 1)])]), (102, [(([some (zjr 0), some (zj (.ofNat 0) (.ofNat 800))], [], [((1, 0, 1), .ofNat 0, .ofNat 800), ((1, 0, 4), .ofNat 0, .ofNat 4), ((1, 0, 5), .ofNat 0, .ofNat 800)], []), .ofNat 0, [])])]
def zi_8_Ks : List (Nat × List zt_K) := [(147, [((1, none, true, []), zi_5_K)]), (151, [((1, none, true, []), zi_6_K)]), (155, [((1, some 8, true, []), zi_7_K)])]
def zi_8_H : zt_H := ((zo_w3, 3, zo_Sg), (zo_g3, zi_8_K.2.2.1, [0], zo_U), [], (none, zi_8_K.2.2.2, zi_8_K.2.1.1), zi_8_Ks)
theorem zi_8_c : zt_chk zi_8_H (zB_X8_advance, [], [5, 31, 65, 102]) 8 zi_8_A 2 (zo_hd, zi_8_K) = true := by decide +kernel
theorem zi_8 (v : Nat) (hd : Nat × Option Nat × Bool × List (Nat × Nat)) : zt_Con zo_Om (zo_Rel v) (hd, zi_8_K) zF_X8_advance := zt_con (K := (zo_hd, zi_8_K)) (T := zT_X8_advance) (w0 := zo_w3) (G := zo_g3) (zo_UR v) rfl zo_sg rfl rfl rfl (zt_ksok_of (Ks := zi_8_Ks) (zt_k1 rfl (zt_k2 rfl (zi_5 v _) zt_k3) (zt_k1 rfl (zt_k2 rfl (zi_6 v _) zt_k3) (zt_k1 rfl (zt_k2 rfl (zi_7 v _) zt_k3) zt_k0)))) zi_8_c
-- X8_refuse T/B
def zi_9_K : Nat × (List zt_A × List zt_C × List Nat) × zt_W × List zt_O := (3, ([zjr 0, zj (.ofNat 1) (.ofNat 3)], [], []), [(0, 2, 3)], [(none, [], [], [])])
def zi_9_A : zt_An := [(0, [(([some (zjr 0), some (zj (.ofNat 1) (.ofNat 3))], [], [], []), .ofNat 1, [])]), (20, [(([some (zjr 0), some (zj (.ofNat 1) (.ofNat 3))], [], [((1, 0, 2), .ofNat 1, .ofNat 3)], []), .ofNat 0, [])])]
def zi_9_Ks : List (Nat × List zt_K) := []
def zi_9_H : zt_H := ((zo_w3, 3, zo_Sg), (zo_g3, zi_9_K.2.2.1, [0, 1], zo_U), [], (none, zi_9_K.2.2.2, zi_9_K.2.1.1), zi_9_Ks)
theorem zi_9_c : zt_chk zi_9_H (zB_X8_refuse, [], [20]) 3 zi_9_A 2 (zo_hd, zi_9_K) = true := by decide +kernel
theorem zi_9 (v : Nat) (hd : Nat × Option Nat × Bool × List (Nat × Nat)) : zt_Con zo_Om (zo_Rel v) (hd, zi_9_K) zF_X8_refuse := zt_con (K := (zo_hd, zi_9_K)) (T := zT_X8_refuse) (w0 := zo_w3) (G := zo_g3) (zo_UR v) rfl zo_sg rfl rfl rfl (zt_ksok_of (Ks := zi_9_Ks) zt_k0) zi_9_c
-- X8_valueHere T/B
def zi_10_K : Nat × (List zt_A × List zt_C × List Nat) × zt_W × List zt_O := (3, ([zjr 0], [], []), [], [(some (zj (.negSucc 2147483647) (.ofNat 1000)), [], [], [])])
def zi_10_A : zt_An := [(0, [(([some (zjr 0), none, none], [], [], []), .ofNat 801, [])]), (7, [(([some (zjr 0), some (zj (.negSucc 2147483647) (.ofNat 1000)), some (zj (.ofNat 0) (.ofNat 800))], [], [], []), .ofNat 800, [(.negSucc 0, 2)])])]
def zi_10_Ks : List (Nat × List zt_K) := []
def zi_10_H : zt_H := ((zo_w3, 3, zo_Sg), (zo_g3, zi_10_K.2.2.1, [0], zo_U), [], ((some .int), zi_10_K.2.2.2, zi_10_K.2.1.1), zi_10_Ks)
theorem zi_10_c : zt_chk zi_10_H (zB_X8_valueHere, [], [7]) 3 zi_10_A 3 (zo_hd, zi_10_K) = true := by decide +kernel
theorem zi_10 (v : Nat) (hd : Nat × Option Nat × Bool × List (Nat × Nat)) : zt_Con zo_Om (zo_Rel v) (hd, zi_10_K) zF_X8_valueHere := zt_con (K := (zo_hd, zi_10_K)) (T := zT_X8_valueHere) (w0 := zo_w3) (G := zo_g3) (zo_UR v) rfl zo_sg rfl rfl rfl (zt_ksok_of (Ks := zi_10_Ks) zt_k0) zi_10_c
-- X8_takeSign T/B
def zi_11_K : Nat × (List zt_A × List zt_C × List Nat) × zt_W × List zt_O := (3, ([zjr 0], [], []), [(0, 2, 6)], [(none, [], [], [])])
def zi_11_A : zt_An := [(0, [(([some (zjr 0)], [], [], []), .ofNat 1, [])]), (28, [(([some (zjr 0)], [], [], []), .ofNat 0, [])])]
def zi_11_Ks : List (Nat × List zt_K) := [(33, [((1, some 8, true, []), zi_8_K)]), (60, [((2, some 8, true, []), zi_9_K)])]
def zi_11_H : zt_H := ((zo_w3, 3, zo_Sg), (zo_g3, zi_11_K.2.2.1, [0], zo_U), [], (none, zi_11_K.2.2.2, zi_11_K.2.1.1), zi_11_Ks)
theorem zi_11_c : zt_chk zi_11_H (zB_X8_takeSign, [], [28]) 5 zi_11_A 1 (zo_hd, zi_11_K) = true := by decide +kernel
theorem zi_11 (v : Nat) (hd : Nat × Option Nat × Bool × List (Nat × Nat)) : zt_Con zo_Om (zo_Rel v) (hd, zi_11_K) zF_X8_takeSign := zt_con (K := (zo_hd, zi_11_K)) (T := zT_X8_takeSign) (w0 := zo_w3) (G := zo_g3) (zo_UR v) rfl zo_sg rfl rfl rfl (zt_ksok_of (Ks := zi_11_Ks) (zt_k1 rfl (zt_k2 rfl (zi_8 v _) zt_k3) (zt_k1 rfl (zt_k2 rfl (zi_9 v _) zt_k3) zt_k0))) zi_11_c
-- X0_copyFrom B/B
def zi_12_K : Nat × (List zt_A × List zt_C × List Nat) × zt_W × List zt_O := (4, ([zjr 0, zjr 10], [], []), [(0, 0, 7), (1, 0, 5), (2, 0, 4), (3, 0, 4), (4, 0, 4), (5, 0, 4), (6, 0, 4), (7, 0, 40), (8, 0, 40), (9, 0, 40)], [(none, [], [], [])])
def zi_12_A : zt_An := [(0, [(([some (zjr 0), some (zjr 10), none], [], [], []), .ofNat 56, [])]), (66, [(([some (zjr 0), some (zjr 10), some (zj (.ofNat 0) (.ofNat 6))], [], [((1, 0, 0), .negSucc 2147483647, .ofNat 2147483647), ((1, 0, 1), .ofNat 0, .ofNat 3), ((1, 0, 2), .ofNat 0, .ofNat 99), ((1, 0, 3), .ofNat 0, .ofNat 30), ((1, 0, 4), .ofNat 0, .ofNat 10), ((1, 0, 5), .ofNat 0, .ofNat 6), ((1, 0, 6), .ofNat 0, .ofNat 5), ((1, 0, 7), .ofNat 0, .ofNat 41)], []), .ofNat 55, [(.negSucc 0, 2)])]), (92, [(([some (zjr 0), some (zjr 10), some (zj (.ofNat 0) (.ofNat 5))], [], [((1, 0, 0), .negSucc 2147483647, .ofNat 2147483647), ((1, 0, 1), .ofNat 0, .ofNat 3), ((1, 0, 2), .ofNat 0, .ofNat 99), ((1, 0, 3), .ofNat 0, .ofNat 30), ((1, 0, 4), .ofNat 0, .ofNat 10), ((1, 0, 5), .ofNat 0, .ofNat 6), ((1, 0, 6), .ofNat 0, .ofNat 5), ((1, 0, 7), .ofNat 0, .ofNat 41)], []), .ofNat 48, [(.negSucc 0, 2)])]), (165, [(([some (zjr 0), some (zjr 10), some (zj (.ofNat 0) (.ofNat 41))], [], [((1, 0, 0), .negSucc 2147483647, .ofNat 2147483647), ((1, 0, 1), .ofNat 0, .ofNat 3), ((1, 0, 2), .ofNat 0, .ofNat 99), ((1, 0, 3), .ofNat 0, .ofNat 30), ((1, 0, 4), .ofNat 0, .ofNat 10), ((1, 0, 5), .ofNat 0, .ofNat 6), ((1, 0, 6), .ofNat 0, .ofNat 5), ((1, 0, 7), .ofNat 0, .ofNat 41)], []), .ofNat 42, [(.negSucc 0, 2)])]), (221, [(([some (zjr 0), some (zjr 10), some (zj (.ofNat 0) (.ofNat 41))], [], [((1, 0, 0), .negSucc 2147483647, .ofNat 2147483647), ((1, 0, 1), .ofNat 0, .ofNat 3), ((1, 0, 2), .ofNat 0, .ofNat 99), ((1, 0, 3), .ofNat 0, .ofNat 30), ((1, 0, 4), .ofNat 0, .ofNat 10), ((1, 0, 5), .ofNat 0, .ofNat 6), ((1, 0, 6), .ofNat 0, .ofNat 5), ((1, 0, 7), .ofNat 0, .ofNat 41)], []), .ofNat 0, [])])]
def zi_12_Ks : List (Nat × List zt_K) := []
def zi_12_H : zt_H := ((zo_w4, 4, zo_Sg), (zo_g4, zi_12_K.2.2.1, [0, 1], zo_U), [], (none, zi_12_K.2.2.2, zi_12_K.2.1.1), zi_12_Ks)
theorem zi_12_c : zt_chk zi_12_H (zB_X0_copyFrom, [], [66, 92, 165, 221]) 4 zi_12_A 3 (zo_hd, zi_12_K) = true := by decide +kernel
theorem zi_12 (v : Nat) (hd : Nat × Option Nat × Bool × List (Nat × Nat)) : zt_Con zo_Om (zo_Rel v) (hd, zi_12_K) zF_X0_copyFrom := zt_con (K := (zo_hd, zi_12_K)) (T := zT_X0_copyFrom) (w0 := zo_w4) (G := zo_g4) (zo_UR v) rfl zo_sg rfl rfl rfl (zt_ksok_of (Ks := zi_12_Ks) zt_k0) zi_12_c
-- X9_forgetAnswers X
def zi_13_K : Nat × (List zt_A × List zt_C × List Nat) × zt_W × List zt_O := (1, ([zjr 0], [], []), [(21, 1, 1), (68, 0, 0), (72, 0, 0)], [(none, [], [], [])])
def zi_13_A : zt_An := [(0, [(([some (zjr 0)], [], [], []), .ofNat 0, [])])]
def zi_13_Ks : List (Nat × List zt_K) := []
def zi_13_H : zt_H := ((zo_w1, 1, zo_Sg), (zo_g1, zi_13_K.2.2.1, [0], zo_U), [], (none, zi_13_K.2.2.2, zi_13_K.2.1.1), zi_13_Ks)
theorem zi_13_c : zt_chk zi_13_H (zB_X9_forgetAnswers, [], []) 2 zi_13_A 1 (zo_hd, zi_13_K) = true := by decide +kernel
theorem zi_13 (v : Nat) (hd : Nat × Option Nat × Bool × List (Nat × Nat)) : zt_Con zo_Om (zo_Rel v) (hd, zi_13_K) zF_X9_forgetAnswers := zt_con (K := (zo_hd, zi_13_K)) (T := zT_X9_forgetAnswers) (w0 := zo_w1) (G := zo_g1) (zo_UR v) rfl zo_sg rfl rfl rfl (zt_ksok_of (Ks := zi_13_Ks) zt_k0) zi_13_c
-- X9_fault X
def zi_14_K : Nat × (List zt_A × List zt_C × List Nat) × zt_W × List zt_O := (1, ([zjr 0, zt_top], [], []), [], [(some (zj (.negSucc 0) (.ofNat 800)), [], [], [])])
def zi_14_A : zt_An := [(0, [(([some (zjr 0), some zt_top], [], [], []), .ofNat 1, [])]), (28, [(([some (zjr 0), some zt_top], [zj (.negSucc 0) (.ofNat 800)], [], []), .ofNat 0, [])])]
def zi_14_Ks : List (Nat × List zt_K) := []
def zi_14_H : zt_H := ((zo_w1, 1, zo_Sg), (zo_g1, zi_14_K.2.2.1, [0, 1], zo_U), [], ((some .int), zi_14_K.2.2.2, zi_14_K.2.1.1), zi_14_Ks)
theorem zi_14_c : zt_chk zi_14_H (zB_X9_fault, [], [28]) 4 zi_14_A 2 (zo_hd, zi_14_K) = true := by decide +kernel
theorem zi_14 (v : Nat) (hd : Nat × Option Nat × Bool × List (Nat × Nat)) : zt_Con zo_Om (zo_Rel v) (hd, zi_14_K) zF_X9_fault := zt_con (K := (zo_hd, zi_14_K)) (T := zT_X9_fault) (w0 := zo_w1) (G := zo_g1) (zo_UR v) rfl zo_sg rfl rfl rfl (zt_ksok_of (Ks := zi_14_Ks) zt_k0) zi_14_c
-- X0_hasSeat B
def zi_15_K : Nat × (List zt_A × List zt_C × List Nat) × zt_W × List zt_O := (2, ([zjr 0, zt_top], [], []), [], [(some ((0, .ofNat 1, .ofNat 1, 0, [])), [(1, .ofNat 0, .ofNat 5)], [], []), (some ((0, .ofNat 0, .ofNat 0, 0, [])), [], [], [])])
def zi_15_A : zt_An := [(0, [(([some (zjr 0), some zt_top], [], [], []), .ofNat 2, [])]), (16, [(([some (zjr 0), some zt_top], [], [], []), .ofNat 1, [])]), (17, [(([some (zjr 0), some (zj (.ofNat 0) (.ofNat 5))], [(0, .ofNat 1, .ofNat 1, 0, [])], [((1, 0, 5), .ofNat 1, .ofNat 6)], []), .ofNat 0, []), (([some (zjr 0), some zt_top], [(0, .ofNat 0, .ofNat 0, 0, [])], [], []), .ofNat 0, [])])]
def zi_15_Ks : List (Nat × List zt_K) := []
def zi_15_H : zt_H := ((zo_w2, 2, zo_Sg), (zo_g2, zi_15_K.2.2.1, [0, 1], zo_U), [], ((some .boolean), zi_15_K.2.2.2, zi_15_K.2.1.1), zi_15_Ks)
theorem zi_15_c : zt_chk zi_15_H (zB_X0_hasSeat, [], [16, 17]) 4 zi_15_A 2 (zo_hd, zi_15_K) = true := by decide +kernel
theorem zi_15 (v : Nat) (hd : Nat × Option Nat × Bool × List (Nat × Nat)) : zt_Con zo_Om (zo_Rel v) (hd, zi_15_K) zF_X0_hasSeat := zt_con (K := (zo_hd, zi_15_K)) (T := zT_X0_hasSeat) (w0 := zo_w2) (G := zo_g2) (zo_UR v) rfl zo_sg rfl rfl rfl (zt_ksok_of (Ks := zi_15_Ks) zt_k0) zi_15_c
-- X9_seat X
def zi_16_K : Nat × (List zt_A × List zt_C × List Nat) × zt_W × List zt_O := (1, ([zjr 0, zt_top], [], []), [], [(some (zj (.negSucc 99) (.ofNat 9)), [], [], [])])
def zi_16_A : zt_An := [(0, [(([some (zjr 0), some zt_top], [], [], []), .ofNat 1, [])]), (25, [(([some (zjr 0), some zt_top], [zj (.negSucc 99) (.ofNat 9)], [], []), .ofNat 0, [])])]
def zi_16_Ks : List (Nat × List zt_K) := [(118, [((2, some 0, false, [(0, 10)]), zi_15_K)])]
def zi_16_H : zt_H := ((zo_w1, 1, zo_Sg), (zo_g1, zi_16_K.2.2.1, [0, 1], zo_U), [], ((some .int), zi_16_K.2.2.2, zi_16_K.2.1.1), zi_16_Ks)
theorem zi_16_c : zt_chk zi_16_H (zB_X9_seat, [], [25]) 4 zi_16_A 2 (zo_hd, zi_16_K) = true := by decide +kernel
theorem zi_16 (v : Nat) (hd : Nat × Option Nat × Bool × List (Nat × Nat)) : zt_Con zo_Om (zo_Rel v) (hd, zi_16_K) zF_X9_seat := zt_con (K := (zo_hd, zi_16_K)) (T := zT_X9_seat) (w0 := zo_w1) (G := zo_g1) (zo_UR v) rfl zo_sg rfl rfl rfl (zt_ksok_of (Ks := zi_16_Ks) (zt_k1 rfl (zt_k2 rfl (zi_15 v _) zt_k3) zt_k0)) zi_16_c
-- X0_hasCaller B
def zi_17_K : Nat × (List zt_A × List zt_C × List Nat) × zt_W × List zt_O := (2, ([zjr 0, zt_top], [], []), [], [(some ((0, .ofNat 1, .ofNat 1, 0, [])), [(1, .ofNat 0, .ofNat 4)], [], []), (some ((0, .ofNat 0, .ofNat 0, 0, [])), [], [], [])])
def zi_17_A : zt_An := [(0, [(([some (zjr 0), some zt_top], [], [], []), .ofNat 2, [])]), (16, [(([some (zjr 0), some zt_top], [], [], []), .ofNat 1, [])]), (17, [(([some (zjr 0), some (zj (.ofNat 0) (.ofNat 4))], [(0, .ofNat 1, .ofNat 1, 0, [])], [((1, 0, 6), .ofNat 1, .ofNat 5)], []), .ofNat 0, []), (([some (zjr 0), some zt_top], [(0, .ofNat 0, .ofNat 0, 0, [])], [], []), .ofNat 0, [])])]
def zi_17_Ks : List (Nat × List zt_K) := []
def zi_17_H : zt_H := ((zo_w2, 2, zo_Sg), (zo_g2, zi_17_K.2.2.1, [0, 1], zo_U), [], ((some .boolean), zi_17_K.2.2.2, zi_17_K.2.1.1), zi_17_Ks)
theorem zi_17_c : zt_chk zi_17_H (zB_X0_hasCaller, [], [16, 17]) 4 zi_17_A 2 (zo_hd, zi_17_K) = true := by decide +kernel
theorem zi_17 (v : Nat) (hd : Nat × Option Nat × Bool × List (Nat × Nat)) : zt_Con zo_Om (zo_Rel v) (hd, zi_17_K) zF_X0_hasCaller := zt_con (K := (zo_hd, zi_17_K)) (T := zT_X0_hasCaller) (w0 := zo_w2) (G := zo_g2) (zo_UR v) rfl zo_sg rfl rfl rfl (zt_ksok_of (Ks := zi_17_Ks) zt_k0) zi_17_c
-- X9_caller X
def zi_18_K : Nat × (List zt_A × List zt_C × List Nat) × zt_W × List zt_O := (1, ([zjr 0, zt_top, zt_top], [], []), [], [(some (zj (.negSucc 1) (.ofNat 99)), [], [], [])])
def zi_18_A : zt_An := [(0, [(([some (zjr 0), some zt_top, some zt_top], [], [], []), .ofNat 0, [])])]
def zi_18_Ks : List (Nat × List zt_K) := [(124, [((2, some 0, false, [(0, 10)]), zi_17_K)])]
def zi_18_H : zt_H := ((zo_w1, 1, zo_Sg), (zo_g1, zi_18_K.2.2.1, [0, 1, 2], zo_U), [], ((some .int), zi_18_K.2.2.2, zi_18_K.2.1.1), zi_18_Ks)
theorem zi_18_c : zt_chk zi_18_H (zB_X9_caller, [], []) 5 zi_18_A 3 (zo_hd, zi_18_K) = true := by decide +kernel
theorem zi_18 (v : Nat) (hd : Nat × Option Nat × Bool × List (Nat × Nat)) : zt_Con zo_Om (zo_Rel v) (hd, zi_18_K) zF_X9_caller := zt_con (K := (zo_hd, zi_18_K)) (T := zT_X9_caller) (w0 := zo_w1) (G := zo_g1) (zo_UR v) rfl zo_sg rfl rfl rfl (zt_ksok_of (Ks := zi_18_Ks) (zt_k1 rfl (zt_k2 rfl (zi_17 v _) zt_k3) zt_k0)) zi_18_c
-- X9_isMinute X
def zi_19_K : Nat × (List zt_A × List zt_C × List Nat) × zt_W × List zt_O := (1, ([zt_top], [], []), [], [(some ((0, .ofNat 1, .ofNat 1, 0, [])), [(0, .ofNat 0, .ofNat 60)], [], []), (some ((0, .ofNat 0, .ofNat 0, 0, [])), [], [], [])])
def zi_19_A : zt_An := [(0, [(([some zt_top], [], [], []), .ofNat 2, [])]), (14, [(([some zt_top], [], [], []), .ofNat 1, [])]), (15, [(([some (zj (.ofNat 0) (.ofNat 60))], [(0, .ofNat 1, .ofNat 1, 0, [])], [], []), .ofNat 0, []), (([some zt_top], [(0, .ofNat 0, .ofNat 0, 0, [])], [], []), .ofNat 0, [])])]
def zi_19_Ks : List (Nat × List zt_K) := []
def zi_19_H : zt_H := ((zo_w1, 1, zo_Sg), (zo_g1, zi_19_K.2.2.1, [0], zo_U), [], ((some .boolean), zi_19_K.2.2.2, zi_19_K.2.1.1), zi_19_Ks)
theorem zi_19_c : zt_chk zi_19_H (zB_X9_isMinute, [], [14, 15]) 4 zi_19_A 1 (zo_hd, zi_19_K) = true := by decide +kernel
theorem zi_19 (v : Nat) (hd : Nat × Option Nat × Bool × List (Nat × Nat)) : zt_Con zo_Om (zo_Rel v) (hd, zi_19_K) zF_X9_isMinute := zt_con (K := (zo_hd, zi_19_K)) (T := zT_X9_isMinute) (w0 := zo_w1) (G := zo_g1) (zo_UR v) rfl zo_sg rfl rfl rfl (zt_ksok_of (Ks := zi_19_Ks) zt_k0) zi_19_c
-- J7_fill_53178 a_int305_-1_99
def zi_20_K : Nat × (List zt_A × List zt_C × List Nat) × zt_W × List zt_O := (5, ([zjr 0, zj (.negSucc 0) (.negSucc 0)], [], []), [(0, 0, 304)], [(none, [], [], [])])
def zi_20_A : zt_An := [(0, [(([some (zjr 0), some (zj (.negSucc 0) (.negSucc 0)), none, none], [], [], []), .ofNat 306, [])]), (5, [(([some (zjr 0), some (zj (.negSucc 0) (.negSucc 0)), some (zj (.ofNat 0) (.ofNat 305)), some (0, .ofNat 305, .ofNat 305, 0, [])], [], [], []), .ofNat 305, [(.negSucc 0, 2)])])]
def zi_20_Ks : List (Nat × List zt_K) := []
def zi_20_H : zt_H := ((zo_w5, 5, zo_Sg), (zo_g5, zi_20_K.2.2.1, [0, 1], zo_U), [], (none, zi_20_K.2.2.2, zi_20_K.2.1.1), zi_20_Ks)
theorem zi_20_c : zt_chk zi_20_H (zB_J7_fill_53178, [], [5]) 3 zi_20_A 4 (zo_hd, zi_20_K) = true := by decide +kernel
theorem zi_20 (v : Nat) (hd : Nat × Option Nat × Bool × List (Nat × Nat)) : zt_Con zo_Om (zo_Rel v) (hd, zi_20_K) zF_J7_fill_53178 := zt_con (K := (zo_hd, zi_20_K)) (T := zT_J7_fill_53178) (w0 := zo_w5) (G := zo_g5) (zo_UR v) rfl zo_sg rfl rfl rfl (zt_ksok_of (Ks := zi_20_Ks) zt_k0) zi_20_c
-- J7_fill_53178 a_int305_-1_5
def zi_21_K : Nat × (List zt_A × List zt_C × List Nat) × zt_W × List zt_O := (6, ([zjr 0, zj (.negSucc 0) (.negSucc 0)], [], []), [(0, 0, 304)], [(none, [], [], [])])
def zi_21_A : zt_An := [(0, [(([some (zjr 0), some (zj (.negSucc 0) (.negSucc 0)), none, none], [], [], []), .ofNat 306, [])]), (5, [(([some (zjr 0), some (zj (.negSucc 0) (.negSucc 0)), some (zj (.ofNat 0) (.ofNat 305)), some (0, .ofNat 305, .ofNat 305, 0, [])], [], [], []), .ofNat 305, [(.negSucc 0, 2)])])]
def zi_21_Ks : List (Nat × List zt_K) := []
def zi_21_H : zt_H := ((zo_w6, 6, zo_Sg), (zo_g6, zi_21_K.2.2.1, [0, 1], zo_U), [], (none, zi_21_K.2.2.2, zi_21_K.2.1.1), zi_21_Ks)
theorem zi_21_c : zt_chk zi_21_H (zB_J7_fill_53178, [], [5]) 3 zi_21_A 4 (zo_hd, zi_21_K) = true := by decide +kernel
theorem zi_21 (v : Nat) (hd : Nat × Option Nat × Bool × List (Nat × Nat)) : zt_Con zo_Om (zo_Rel v) (hd, zi_21_K) zF_J7_fill_53178 := zt_con (K := (zo_hd, zi_21_K)) (T := zT_J7_fill_53178) (w0 := zo_w6) (G := zo_g6) (zo_UR v) rfl zo_sg rfl rfl rfl (zt_ksok_of (Ks := zi_21_Ks) zt_k0) zi_21_c
-- X2_dawn D/B
def zi_22_K : Nat × (List zt_A × List zt_C × List Nat) × zt_W × List zt_O := (7, ([zjr 0, zjr 8], [], []), [(0, 7, 9), (1, 0, 4), (2, 0, 4), (3, 0, 4), (4, 0, 4), (5, 0, 4), (6, 0, 4), (7, 0, 5)], [(none, [], [], [])])
def zi_22_A : zt_An := [(0, [(([some (zjr 0), some (zjr 8), none], [], [], []), .ofNat 55, [])]), (2, [(([some (zjr 0), some (zjr 8), some (zj (.ofNat 0) (.ofNat 5))], [], [], []), .ofNat 54, [(.negSucc 0, 2)])]), (63, [(([some (zjr 0), some (zjr 8), some (zj (.ofNat 0) (.ofNat 6))], [], [], []), .ofNat 48, [(.negSucc 0, 2)])]), (99, [(([some (zjr 0), some (zjr 8), some (zj (.ofNat 0) (.ofNat 41))], [], [((1, 0, 7), .ofNat 0, .ofNat 0)], []), .ofNat 41, [(.negSucc 0, 2)])])]
def zi_22_Ks : List (Nat × List zt_K) := []
def zi_22_H : zt_H := ((zo_w7, 7, zo_Sg), (zo_g7, zi_22_K.2.2.1, [0, 1], zo_U), [], (none, zi_22_K.2.2.2, zi_22_K.2.1.1), zi_22_Ks)
theorem zi_22_c : zt_chk zi_22_H (zB_X2_dawn, [], [2, 63, 99]) 3 zi_22_A 3 (zo_hd, zi_22_K) = true := by decide +kernel
theorem zi_22 (v : Nat) (hd : Nat × Option Nat × Bool × List (Nat × Nat)) : zt_Con zo_Om (zo_Rel v) (hd, zi_22_K) zF_X2_dawn := zt_con (K := (zo_hd, zi_22_K)) (T := zT_X2_dawn) (w0 := zo_w7) (G := zo_g7) (zo_UR v) rfl zo_sg rfl rfl rfl (zt_ksok_of (Ks := zi_22_Ks) zt_k0) zi_22_c
-- X2_leaveSeat D/B
def zi_23_K : Nat × (List zt_A × List zt_C × List Nat) × zt_W × List zt_O := (7, ([zjr 0, zj (.ofNat 0) (.ofNat 4)], [], []), [(7, 0, 5)], [(none, [], [], [])])
def zi_23_A : zt_An := [(0, [(([some (zjr 0), some (zj (.ofNat 0) (.ofNat 4))], [], [], []), .ofNat 1, [])]), (21, [(([some (zjr 0), some (zj (.ofNat 0) (.ofNat 4))], [], [((2, 1, 1), .negSucc 2, .ofNat 5)], []), .ofNat 0, [])])]
def zi_23_Ks : List (Nat × List zt_K) := []
def zi_23_H : zt_H := ((zo_w7, 7, zo_Sg), (zo_g7, zi_23_K.2.2.1, [0, 1], zo_U), [], (none, zi_23_K.2.2.2, zi_23_K.2.1.1), zi_23_Ks)
theorem zi_23_c : zt_chk zi_23_H (zB_X2_leaveSeat, [], [21]) 3 zi_23_A 2 (zo_hd, zi_23_K) = true := by decide +kernel
theorem zi_23 (v : Nat) (hd : Nat × Option Nat × Bool × List (Nat × Nat)) : zt_Con zo_Om (zo_Rel v) (hd, zi_23_K) zF_X2_leaveSeat := zt_con (K := (zo_hd, zi_23_K)) (T := zT_X2_leaveSeat) (w0 := zo_w7) (G := zo_g7) (zo_UR v) rfl zo_sg rfl rfl rfl (zt_ksok_of (Ks := zi_23_Ks) zt_k0) zi_23_c
-- X2_moveAll D/B
def zi_24_K : Nat × (List zt_A × List zt_C × List Nat) × zt_W × List zt_O := (7, ([zjr 0, zjr 8, zj (.ofNat 0) (.ofNat 60)], [], []), [(0, 9, 9), (1, 0, 4), (7, 0, 5)], [(none, [], [], [])])
def zi_24_A : zt_An := [(0, [(([some (zjr 0), some (zjr 8), some (zj (.ofNat 0) (.ofNat 60)), none, none, none], [], [], []), .ofNat 84, [])]), (2, [(([some (zjr 0), some (zjr 8), some (zj (.ofNat 0) (.ofNat 60)), some (zj (.ofNat 0) (.ofNat 41)), none, none], [], [], []), .ofNat 83, [(.negSucc 1, 3)])]), (94, [(([some (zjr 0), some (zjr 8), some (zj (.ofNat 0) (.ofNat 60)), some (zj (.ofNat 0) (.ofNat 40)), some (0, .ofNat 0, .ofNat 4, 1, [(2, 15, 3, .ofNat 0)]), some (0, .ofNat 0, .ofNat 5, 1, [(2, 16, 3, .ofNat 0)])], [], [((1, 8, 7), .ofNat 1, .ofNat 41), ((2, 17, 3), .ofNat 0, .ofNat 60)], []), .ofNat 82, [(.negSucc 1, 3)])])]
def zi_24_Ks : List (Nat × List zt_K) := [(103, [((2, some 2, true, []), zi_23_K)])]
def zi_24_H : zt_H := ((zo_w7, 7, zo_Sg), (zo_g7, zi_24_K.2.2.1, [0, 1, 2], zo_U), [], (none, zi_24_K.2.2.2, zi_24_K.2.1.1), zi_24_Ks)
theorem zi_24_c : zt_chk zi_24_H (zB_X2_moveAll, [], [2, 94]) 7 zi_24_A 6 (zo_hd, zi_24_K) = true := by decide +kernel
theorem zi_24 (v : Nat) (hd : Nat × Option Nat × Bool × List (Nat × Nat)) : zt_Con zo_Om (zo_Rel v) (hd, zi_24_K) zF_X2_moveAll := zt_con (K := (zo_hd, zi_24_K)) (T := zT_X2_moveAll) (w0 := zo_w7) (G := zo_g7) (zo_UR v) rfl zo_sg rfl rfl rfl (zt_ksok_of (Ks := zi_24_Ks) (zt_k1 rfl (zt_k2 rfl (zi_23 v _) zt_k3) zt_k0)) zi_24_c
-- X2_sitDown D/B
def zi_25_K : Nat × (List zt_A × List zt_C × List Nat) × zt_W × List zt_O := (7, ([zjr 0, zjr 8, zj (.ofNat 0) (.ofNat 4)], [], []), [(1, 0, 4), (7, 0, 5)], [(none, [], [], [])])
def zi_25_A : zt_An := [(0, [(([some (zjr 0), some (zjr 8), some (zj (.ofNat 0) (.ofNat 4)), none, none], [], [], []), .ofNat 14, [])]), (17, [(([some (zjr 0), some (zjr 8), some (zj (.ofNat 0) (.ofNat 4)), some (zj (.ofNat 0) (.ofNat 5)), some (zj (.ofNat 0) (.ofNat 6))], [], [((2, 1, 2), .negSucc 0, .negSucc 0)], []), .ofNat 13, [(.negSucc 1, 4)])]), (68, [(([some (zjr 0), some (zjr 8), some (zj (.ofNat 0) (.ofNat 4)), some (zj (.ofNat 0) (.ofNat 5)), some (zj (.ofNat 0) (.ofNat 5))], [(0, .ofNat 0, .ofNat 0, 0, [])], [((1, 8, 5), .ofNat 1, .ofNat 6), ((2, 1, 2), .negSucc 0, .negSucc 0), ((2, 7, 3), .ofNat 0, .ofNat 4)], []), .ofNat 12, [(.negSucc 1, 4)]), (([some (zjr 0), some (zjr 8), some (zj (.ofNat 0) (.ofNat 4)), some (zj (.ofNat 0) (.ofNat 4)), some (zj (.ofNat 0) (.ofNat 5))], [(0, .ofNat 1, .ofNat 5, 1, [(0, 3, 0, .ofNat 1)])], [((1, 8, 5), .ofNat 2, .ofNat 6), ((2, 1, 2), .negSucc 0, .negSucc 0), ((2, 7, 3), .ofNat 0, .ofNat 4)], []), .ofNat 12, [(.negSucc 1, 4)])])]
def zi_25_Ks : List (Nat × List zt_K) := []
def zi_25_H : zt_H := ((zo_w7, 7, zo_Sg), (zo_g7, zi_25_K.2.2.1, [0, 1, 2], zo_U), [], (none, zi_25_K.2.2.2, zi_25_K.2.1.1), zi_25_Ks)
theorem zi_25_c : zt_chk zi_25_H (zB_X2_sitDown, [], [17, 68]) 5 zi_25_A 5 (zo_hd, zi_25_K) = true := by decide +kernel
theorem zi_25 (v : Nat) (hd : Nat × Option Nat × Bool × List (Nat × Nat)) : zt_Con zo_Om (zo_Rel v) (hd, zi_25_K) zF_X2_sitDown := zt_con (K := (zo_hd, zi_25_K)) (T := zT_X2_sitDown) (w0 := zo_w7) (G := zo_g7) (zo_UR v) rfl zo_sg rfl rfl rfl (zt_ksok_of (Ks := zi_25_Ks) zt_k0) zi_25_c
-- X2_settle D/B
def zi_26_K : Nat × (List zt_A × List zt_C × List Nat) × zt_W × List zt_O := (7, ([zjr 0, zjr 8, zj (.ofNat 0) (.ofNat 60)], [], []), [(0, 9, 9), (1, 0, 4), (7, 0, 5)], [(none, [], [], [])])
def zi_26_A : zt_An := [(0, [(([some (zjr 0), some (zjr 8), some (zj (.ofNat 0) (.ofNat 60)), none], [], [], []), .ofNat 25, [])]), (19, [(([some (zjr 0), some (zjr 8), some (zj (.ofNat 0) (.ofNat 60)), none], [], [], []), .ofNat 24, [])]), (21, [(([some (zjr 0), some (zjr 8), some (zj (.ofNat 0) (.ofNat 60)), some (zj (.ofNat 0) (.ofNat 5))], [], [], []), .ofNat 23, [(.negSucc 1, 3)])]), (45, [(([some (zjr 0), some (zjr 8), some (zj (.ofNat 0) (.ofNat 60)), some (zj (.ofNat 0) (.ofNat 4))], [], [((1, 8, 6), .ofNat 1, .ofNat 5)], []), .ofNat 22, [(.negSucc 1, 3)])]), (53, [(([some (zjr 0), some (zjr 8), some (zj (.ofNat 0) (.ofNat 60)), some (zj (.ofNat 0) (.ofNat 5))], [], [((1, 8, 6), .ofNat 0, .ofNat 5)], []), .ofNat 11, [(.negSucc 1, 3)])]), (77, [(([some (zjr 0), some (zjr 8), some (zj (.ofNat 0) (.ofNat 60)), some (zj (.ofNat 0) (.ofNat 4))], [], [((1, 8, 6), .ofNat 1, .ofNat 5), ((2, 11, 3), .ofNat 0, .ofNat 61)], []), .ofNat 10, [(.negSucc 1, 3)])])]
def zi_26_Ks : List (Nat × List zt_K) := [(70, [((3, some 2, true, []), zi_24_K)]), (73, [((3, some 2, true, []), zi_25_K)])]
def zi_26_H : zt_H := ((zo_w7, 7, zo_Sg), (zo_g7, zi_26_K.2.2.1, [0, 1, 2], zo_U), [], (none, zi_26_K.2.2.2, zi_26_K.2.1.1), zi_26_Ks)
theorem zi_26_c : zt_chk zi_26_H (zB_X2_settle, [], [19, 21, 45, 53, 77]) 4 zi_26_A 4 (zo_hd, zi_26_K) = true := by decide +kernel
theorem zi_26 (v : Nat) (hd : Nat × Option Nat × Bool × List (Nat × Nat)) : zt_Con zo_Om (zo_Rel v) (hd, zi_26_K) zF_X2_settle := zt_con (K := (zo_hd, zi_26_K)) (T := zT_X2_settle) (w0 := zo_w7) (G := zo_g7) (zo_UR v) rfl zo_sg rfl rfl rfl (zt_ksok_of (Ks := zi_26_Ks) (zt_k1 rfl (zt_k2 rfl (zi_24 v _) zt_k3) (zt_k1 rfl (zt_k2 rfl (zi_25 v _) zt_k3) zt_k0))) zi_26_c
-- X3_note Y/B
def zi_27_K : Nat × (List zt_A × List zt_C × List Nat) × zt_W × List zt_O := (8, ([zjr 0, zjr 11, zj (.ofNat 0) (.ofNat 60)], [], []), [(9, 0, 304), (10, 0, 304)], [(none, [], [], [])])
def zi_27_A : zt_An := [(0, [(([some (zjr 0), some (zjr 11), some (zj (.ofNat 0) (.ofNat 60)), none], [], [], []), .ofNat 18, [])]), (2, [(([some (zjr 0), some (zjr 11), some (zj (.ofNat 0) (.ofNat 60)), some (zj (.ofNat 0) (.ofNat 5))], [], [], []), .ofNat 17, [(.negSucc 2, 3)])]), (76, [(([some (zjr 0), some (zjr 11), some (zj (.ofNat 0) (.ofNat 60)), some (zj (.ofNat 0) (.ofNat 4))], [zj (.negSucc 0) (.ofNat 5), zj (.ofNat 0) (.ofNat 304), zjr 10], [((1, 11, 6), .ofNat 1, .ofNat 5), ((2, 2, 3), .negSucc 0, .ofNat 5)], []), .ofNat 16, [(.negSucc 2, 3)])]), (77, [(([some (zjr 0), some (zjr 11), some (zj (.ofNat 0) (.ofNat 60)), some (zj (.ofNat 0) (.ofNat 4))], [], [((1, 11, 6), .ofNat 1, .ofNat 5), ((2, 2, 3), .negSucc 2, .ofNat 5)], []), .ofNat 15, [(.negSucc 2, 3)])])]
def zi_27_Ks : List (Nat × List zt_K) := []
def zi_27_H : zt_H := ((zo_w8, 8, zo_Sg), (zo_g8, zi_27_K.2.2.1, [0, 1, 2], zo_U), [], (none, zi_27_K.2.2.2, zi_27_K.2.1.1), zi_27_Ks)
theorem zi_27_c : zt_chk zi_27_H (zB_X3_note, [], [2, 76, 77]) 5 zi_27_A 4 (zo_hd, zi_27_K) = true := by decide +kernel
theorem zi_27 (v : Nat) (hd : Nat × Option Nat × Bool × List (Nat × Nat)) : zt_Con zo_Om (zo_Rel v) (hd, zi_27_K) zF_X3_note := zt_con (K := (zo_hd, zi_27_K)) (T := zT_X3_note) (w0 := zo_w8) (G := zo_g8) (zo_UR v) rfl zo_sg rfl rfl rfl (zt_ksok_of (Ks := zi_27_Ks) zt_k0) zi_27_c
-- X0_callsTill B
def zi_28_K : Nat × (List zt_A × List zt_C × List Nat) × zt_W × List zt_O := (2, ([zjr 0, zj (.ofNat 0) (.ofNat 60)], [], []), [], [(some ((0, .ofNat 0, .ofNat 0, 0, [])), [], [], []), (some (zj (.ofNat 0) (.ofNat 60)), [], [], [])])
def zi_28_A : zt_An := [(0, [(([some (zjr 0), some (zj (.ofNat 0) (.ofNat 60))], [], [], []), .ofNat 1, [])]), (17, [(([some (zjr 0), some (zj (.ofNat 0) (.ofNat 60))], [(0, .ofNat 0, .ofNat 0, 0, [])], [((1, 0, 3), .ofNat 0, .ofNat 0)], []), .ofNat 0, []), (([some (zjr 0), some (zj (.ofNat 0) (.ofNat 60))], [zj (.ofNat 0) (.ofNat 60)], [((1, 0, 3), .ofNat 1, .ofNat 30)], []), .ofNat 0, [])])]
def zi_28_Ks : List (Nat × List zt_K) := []
def zi_28_H : zt_H := ((zo_w2, 2, zo_Sg), (zo_g2, zi_28_K.2.2.1, [0, 1], zo_U), [], ((some .int), zi_28_K.2.2.2, zi_28_K.2.1.1), zi_28_Ks)
theorem zi_28_c : zt_chk zi_28_H (zB_X0_callsTill, [], [17]) 3 zi_28_A 2 (zo_hd, zi_28_K) = true := by decide +kernel
theorem zi_28 (v : Nat) (hd : Nat × Option Nat × Bool × List (Nat × Nat)) : zt_Con zo_Om (zo_Rel v) (hd, zi_28_K) zF_X0_callsTill := zt_con (K := (zo_hd, zi_28_K)) (T := zT_X0_callsTill) (w0 := zo_w2) (G := zo_g2) (zo_UR v) rfl zo_sg rfl rfl rfl (zt_ksok_of (Ks := zi_28_Ks) zt_k0) zi_28_c
-- X2_firstThere D/B
def zi_29_K : Nat × (List zt_A × List zt_C × List Nat) × zt_W × List zt_O := (7, ([zjr 0, zjr 8], [], []), [], [(some (zj (.negSucc 0) (.ofNat 4)), [], [], [])])
def zi_29_A : zt_An := [(0, [(([some (zjr 0), some (zjr 8), none, none], [], [], []), .ofNat 18, [])]), (4, [(([some (zjr 0), some (zjr 8), some (zj (.negSucc 0) (.ofNat 4)), some (zj (.ofNat 0) (.ofNat 5))], [], [], []), .ofNat 17, [(.negSucc 2, 3)])]), (42, [(([some (zjr 0), some (zjr 8), some (zj (.negSucc 0) (.ofNat 4)), some (zj (.ofNat 0) (.ofNat 4))], [], [((1, 8, 6), .ofNat 1, .ofNat 5), ((2, 1, 3), .negSucc 0, .ofNat 5)], []), .ofNat 16, [(.negSucc 2, 3)])]), (44, [(([some (zjr 0), some (zjr 8), some (zj (.negSucc 0) (.ofNat 4)), some (zj (.ofNat 0) (.ofNat 4))], [], [((1, 8, 6), .ofNat 1, .ofNat 5), ((2, 1, 3), .negSucc 2, .ofNat 5)], []), .ofNat 15, [(.negSucc 2, 3)])])]
def zi_29_Ks : List (Nat × List zt_K) := []
def zi_29_H : zt_H := ((zo_w7, 7, zo_Sg), (zo_g7, zi_29_K.2.2.1, [0, 1], zo_U), [], ((some .int), zi_29_K.2.2.2, zi_29_K.2.1.1), zi_29_Ks)
theorem zi_29_c : zt_chk zi_29_H (zB_X2_firstThere, [], [4, 42, 44]) 5 zi_29_A 4 (zo_hd, zi_29_K) = true := by decide +kernel
theorem zi_29 (v : Nat) (hd : Nat × Option Nat × Bool × List (Nat × Nat)) : zt_Con zo_Om (zo_Rel v) (hd, zi_29_K) zF_X2_firstThere := zt_con (K := (zo_hd, zi_29_K)) (T := zT_X2_firstThere) (w0 := zo_w7) (G := zo_g7) (zo_UR v) rfl zo_sg rfl rfl rfl (zt_ksok_of (Ks := zi_29_Ks) zt_k0) zi_29_c
-- X2_admit D/B
def zi_30_K : Nat × (List zt_A × List zt_C × List Nat) × zt_W × List zt_O := (7, ([zjr 0, zj (.negSucc 0) (.ofNat 4), zj (.ofNat 0) (.ofNat 60)], [], []), [(0, 7, 7), (1, 0, 4), (5, 0, 4), (6, 0, 4), (7, 0, 5)], [(none, [], [], [])])
def zi_30_A : zt_An := [(0, [(([some (zjr 0), some (zj (.negSucc 0) (.ofNat 4)), some (zj (.ofNat 0) (.ofNat 60))], [], [], []), .ofNat 0, [])])]
def zi_30_Ks : List (Nat × List zt_K) := [(103, [((2, some 2, true, []), zi_23_K)])]
def zi_30_H : zt_H := ((zo_w7, 7, zo_Sg), (zo_g7, zi_30_K.2.2.1, [0, 1, 2], zo_U), [], (none, zi_30_K.2.2.2, zi_30_K.2.1.1), zi_30_Ks)
theorem zi_30_c : zt_chk zi_30_H (zB_X2_admit, [], []) 4 zi_30_A 3 (zo_hd, zi_30_K) = true := by decide +kernel
theorem zi_30 (v : Nat) (hd : Nat × Option Nat × Bool × List (Nat × Nat)) : zt_Con zo_Om (zo_Rel v) (hd, zi_30_K) zF_X2_admit := zt_con (K := (zo_hd, zi_30_K)) (T := zT_X2_admit) (w0 := zo_w7) (G := zo_g7) (zo_UR v) rfl zo_sg rfl rfl rfl (zt_ksok_of (Ks := zi_30_Ks) (zt_k1 rfl (zt_k2 rfl (zi_23 v _) zt_k3) zt_k0)) zi_30_c
-- X2_neighbours D/B
def zi_31_K : Nat × (List zt_A × List zt_C × List Nat) × zt_W × List zt_O := (7, ([zjr 0, zjr 8, zj (.ofNat 0) (.ofNat 5)], [], []), [], [(some (zj (.ofNat 0) (.ofNat 2)), [], [], [])])
def zi_31_A : zt_An := [(0, [(([some (zjr 0), some (zjr 8), some (zj (.ofNat 0) (.ofNat 5)), none, none], [], [], []), .ofNat 4, [])]), (20, [(([some (zjr 0), some (zjr 8), some (zj (.ofNat 0) (.ofNat 5)), none, none], [], [], []), .ofNat 3, [])]), (21, [(([some (zjr 0), some (zjr 8), some (zj (.ofNat 1) (.ofNat 5)), none, none], [(0, .ofNat 1, .ofNat 1, 0, [])], [], []), .ofNat 2, []), (([some (zjr 0), some (zjr 8), some (zj (.ofNat 0) (.ofNat 5)), none, none], [(0, .ofNat 0, .ofNat 0, 0, [])], [], []), .ofNat 2, [])]), (48, [(([some (zjr 0), some (zjr 8), some (zj (.ofNat 0) (.ofNat 5)), some (zj (.ofNat 0) (.ofNat 1)), none], [], [((1, 8, 5), .ofNat 0, .ofNat 6)], []), .ofNat 1, [])]), (49, [(([some (zjr 0), some (zjr 8), some (zj (.ofNat 0) (.ofNat 4)), some (zj (.ofNat 0) (.ofNat 1)), none], [(0, .ofNat 1, .ofNat 1, 0, [])], [((1, 8, 5), .ofNat 2, .ofNat 6)], []), .ofNat 0, []), (([some (zjr 0), some (zjr 8), some (zj (.ofNat 0) (.ofNat 5)), some (zj (.ofNat 0) (.ofNat 1)), none], [(0, .ofNat 0, .ofNat 0, 0, [])], [((1, 8, 5), .ofNat 0, .ofNat 6)], []), .ofNat 0, [])])]
def zi_31_Ks : List (Nat × List zt_K) := []
def zi_31_H : zt_H := ((zo_w7, 7, zo_Sg), (zo_g7, zi_31_K.2.2.1, [0, 1, 2], zo_U), [], ((some .int), zi_31_K.2.2.2, zi_31_K.2.1.1), zi_31_Ks)
theorem zi_31_c : zt_chk zi_31_H (zB_X2_neighbours, [], [20, 21, 48, 49]) 4 zi_31_A 5 (zo_hd, zi_31_K) = true := by decide +kernel
theorem zi_31 (v : Nat) (hd : Nat × Option Nat × Bool × List (Nat × Nat)) : zt_Con zo_Om (zo_Rel v) (hd, zi_31_K) zF_X2_neighbours := zt_con (K := (zo_hd, zi_31_K)) (T := zT_X2_neighbours) (w0 := zo_w7) (G := zo_g7) (zo_UR v) rfl zo_sg rfl rfl rfl (zt_ksok_of (Ks := zi_31_Ks) zt_k0) zi_31_c
-- X2_ageBehind D/B
def zi_32_K : Nat × (List zt_A × List zt_C × List Nat) × zt_W × List zt_O := (7, ([zjr 0, zjr 8, zj (.ofNat 0) (.ofNat 4), zj (.ofNat 0) (.ofNat 5)], [], []), [], [(some (zj (.negSucc 8) (.ofNat 110)), [], [], [])])
def zi_32_A : zt_An := [(0, [(([some (zjr 0), some (zjr 8), some (zj (.ofNat 0) (.ofNat 4)), some (zj (.ofNat 0) (.ofNat 5)), none, none, none], [], [], []), .ofNat 1, [])]), (88, [(([some (zjr 0), some (zjr 8), some (zj (.ofNat 0) (.ofNat 4)), some (zj (.ofNat 0) (.ofNat 5)), some (0, .ofNat 0, .ofNat 99, 1, [(2, 2, 2, .ofNat 0)]), some (0, .negSucc 8, .ofNat 9, 1, [(2, 9, 3, .ofNat 0)]), some (zj (.ofNat 0) (.ofNat 9))], [zj (.ofNat 0) (.ofNat 99)], [((1, 8, 1), .ofNat 1, .ofNat 1), ((1, 8, 2), .ofNat 0, .ofNat 99), ((2, 2, 2), .ofNat 0, .ofNat 99)], []), .ofNat 0, [])]), (110, [(([some (zjr 0), some (zjr 8), some (zj (.ofNat 0) (.ofNat 4)), some (zj (.ofNat 0) (.ofNat 5)), some (0, .ofNat 0, .ofNat 99, 1, [(2, 2, 2, .ofNat 0)]), some (0, .negSucc 8, .ofNat 9, 1, [(2, 9, 3, .ofNat 0)]), some (zj (.ofNat 0) (.ofNat 9))], [zj (.negSucc 8) (.ofNat 108)], [((1, 8, 1), .ofNat 2, .ofNat 2)], []), .ofNat 0, [])])]
def zi_32_Ks : List (Nat × List zt_K) := [(138, [((3, some 2, true, []), zi_31_K)])]
def zi_32_H : zt_H := ((zo_w7, 7, zo_Sg), (zo_g7, zi_32_K.2.2.1, [0, 1, 2, 3], zo_U), [], ((some .int), zi_32_K.2.2.2, zi_32_K.2.1.1), zi_32_Ks)
theorem zi_32_c : zt_chk zi_32_H (zB_X2_ageBehind, [], [88, 110]) 4 zi_32_A 7 (zo_hd, zi_32_K) = true := by decide +kernel
theorem zi_32 (v : Nat) (hd : Nat × Option Nat × Bool × List (Nat × Nat)) : zt_Con zo_Om (zo_Rel v) (hd, zi_32_K) zF_X2_ageBehind := zt_con (K := (zo_hd, zi_32_K)) (T := zT_X2_ageBehind) (w0 := zo_w7) (G := zo_g7) (zo_UR v) rfl zo_sg rfl rfl rfl (zt_ksok_of (Ks := zi_32_Ks) (zt_k1 rfl (zt_k2 rfl (zi_31 v _) zt_k3) zt_k0)) zi_32_c
-- X2_growAll D/B
def zi_33_K : Nat × (List zt_A × List zt_C × List Nat) × zt_W × List zt_O := (7, ([zjr 0, zjr 8], [], []), [(2, 0, 4), (3, 0, 4), (4, 0, 4)], [(none, [], [], [])])
def zi_33_A : zt_An := [(0, [(([some (zjr 0), some (zjr 8), none, none], [], [], []), .ofNat 18, [])]), (2, [(([some (zjr 0), some (zjr 8), some (zj (.ofNat 0) (.ofNat 5)), none], [], [], []), .ofNat 17, [(.negSucc 2, 2)])]), (48, [(([some (zjr 0), some (zjr 8), some (zj (.ofNat 0) (.ofNat 4)), some (0, .ofNat 0, .ofNat 5, 1, [(2, 1, 2, .ofNat 0)])], [(0, .ofNat 0, .ofNat 0, 0, []), (0, .ofNat 0, .ofNat 4, 1, [(0, 2, 0, .ofNat 0)]), zjr 4], [((1, 8, 6), .ofNat 1, .ofNat 5), ((2, 1, 2), .ofNat 0, .ofNat 5), ((2, 3, 2), .negSucc 0, .ofNat 5)], []), .ofNat 16, [(.negSucc 2, 2)]), (([some (zjr 0), some (zjr 8), some (zj (.ofNat 0) (.ofNat 4)), some (0, .ofNat 0, .ofNat 5, 1, [(2, 1, 2, .ofNat 0)])], [zt_top, (0, .ofNat 0, .ofNat 4, 1, [(0, 2, 0, .ofNat 0)]), zjr 4], [((1, 8, 6), .ofNat 1, .ofNat 5), ((2, 1, 2), .ofNat 0, .ofNat 5), ((2, 3, 2), .ofNat 0, .ofNat 5)], []), .ofNat 16, [(.negSucc 2, 2)])]), (78, [(([some (zjr 0), some (zjr 8), some (zj (.ofNat 0) (.ofNat 4)), some (0, .negSucc 2, .ofNat 5, 1, [(2, 1, 2, .ofNat 0)])], [], [((1, 8, 6), .ofNat 1, .ofNat 5), ((2, 1, 2), .negSucc 2, .ofNat 5)], []), .ofNat 15, [(.negSucc 2, 2)])])]
def zi_33_Ks : List (Nat × List zt_K) := [(113, [((4, some 2, true, []), zi_32_K)])]
def zi_33_H : zt_H := ((zo_w7, 7, zo_Sg), (zo_g7, zi_33_K.2.2.1, [0, 1], zo_U), [], (none, zi_33_K.2.2.2, zi_33_K.2.1.1), zi_33_Ks)
theorem zi_33_c : zt_chk zi_33_H (zB_X2_growAll, [], [2, 48, 78]) 5 zi_33_A 4 (zo_hd, zi_33_K) = true := by decide +kernel
theorem zi_33 (v : Nat) (hd : Nat × Option Nat × Bool × List (Nat × Nat)) : zt_Con zo_Om (zo_Rel v) (hd, zi_33_K) zF_X2_growAll := zt_con (K := (zo_hd, zi_33_K)) (T := zT_X2_growAll) (w0 := zo_w7) (G := zo_g7) (zo_UR v) rfl zo_sg rfl rfl rfl (zt_ksok_of (Ks := zi_33_Ks) (zt_k1 rfl (zt_k2 rfl (zi_32 v _) zt_k3) zt_k0)) zi_33_c
-- X2_finish D/B
def zi_34_K : Nat × (List zt_A × List zt_C × List Nat) × zt_W × List zt_O := (7, ([zjr 0, zjr 8, zj (.ofNat 0) (.ofNat 60), zt_ltop], [], []), [(0, 7, 7), (1, 0, 4), (2, 0, 4), (3, 0, 4), (4, 0, 4), (5, 0, 4), (6, 0, 4), (7, 0, 5)], [(none, [], [], [])])
def zi_34_A : zt_An := [(0, [(([some (zjr 0), some (zjr 8), some (zj (.ofNat 0) (.ofNat 60)), some zt_ltop, none, none, none], [], [], []), .ofNat 3, [])]), (27, [(([some (zjr 0), some (zjr 8), some (zj (.ofNat 0) (.ofNat 60)), some zt_ltop, none, some (zj (.ofNat 0) (.ofNat 60)), none], [], [], []), .ofNat 2, [])]), (28, [(([some (zjr 0), some (zjr 8), some (zj (.ofNat 0) (.ofNat 60)), some zt_ltop, none, some (zj (.ofNat 1) (.ofNat 60)), none], [(0, .ofNat 1, .ofNat 1, 0, [])], [], []), .ofNat 1, []), (([some (zjr 0), some (zjr 8), some (zj (.ofNat 0) (.ofNat 60)), some zt_ltop, none, some (zj (.ofNat 0) (.ofNat 60)), none], [(0, .ofNat 0, .ofNat 0, 0, [])], [], []), .ofNat 1, [])]), (58, [(([some (zjr 0), some (zjr 8), some (zj (.ofNat 0) (.ofNat 60)), some zt_ltop, none, some (zj (.ofNat 0) (.ofNat 60)), some (zj (.ofNat 0) (.ofNat 1))], [], [], []), .ofNat 0, [])])]
def zi_34_Ks : List (Nat × List zt_K) := [(79, [((2, some 0, false, [(0, 10)]), zi_28_K)]), (86, [((2, some 2, true, []), zi_29_K)]), (90, [((3, some 2, true, []), zi_30_K)]), (94, [((2, some 2, true, []), zi_33_K)])]
def zi_34_H : zt_H := ((zo_w7, 7, zo_Sg), (zo_g7, zi_34_K.2.2.1, [0, 1, 2, 3], zo_U), [], (none, zi_34_K.2.2.2, zi_34_K.2.1.1), zi_34_Ks)
theorem zi_34_c : zt_chk zi_34_H (zB_X2_finish, [], [27, 28, 58]) 5 zi_34_A 7 (zo_hd, zi_34_K) = true := by decide +kernel
theorem zi_34 (v : Nat) (hd : Nat × Option Nat × Bool × List (Nat × Nat)) : zt_Con zo_Om (zo_Rel v) (hd, zi_34_K) zF_X2_finish := zt_con (K := (zo_hd, zi_34_K)) (T := zT_X2_finish) (w0 := zo_w7) (G := zo_g7) (zo_UR v) rfl zo_sg rfl rfl rfl (zt_ksok_of (Ks := zi_34_Ks) (zt_k1 rfl (zt_k2 rfl (zi_28 v _) zt_k3) (zt_k1 rfl (zt_k2 rfl (zi_29 v _) zt_k3) (zt_k1 rfl (zt_k2 rfl (zi_30 v _) zt_k3) (zt_k1 rfl (zt_k2 rfl (zi_33 v _) zt_k3) zt_k0))))) zi_34_c
-- X3_keep Y/B
def zi_35_K : Nat × (List zt_A × List zt_C × List Nat) × zt_W × List zt_O := (8, ([zjr 0, zjr 11], [], []), [(0, 1, 1), (1, 7, 9), (2, 0, 4), (3, 0, 4), (4, 0, 4), (5, 0, 4), (6, 0, 4), (7, 0, 4), (8, 0, 5), (9, 0, 304), (10, 0, 304)], [(none, [], [], [])])
def zi_35_A : zt_An := [(0, [(([some (zjr 0), some (zjr 11), none], [], [], []), .ofNat 63, [])]), (26, [(([some (zjr 0), some (zjr 11), some (zj (.ofNat 0) (.ofNat 61))], [], [], []), .ofNat 62, [(.negSucc 0, 2)])]), (77, [(([some (zjr 0), some (zjr 11), some (zj (.ofNat 0) (.ofNat 61))], [], [], []), .ofNat 0, [])])]
def zi_35_Ks : List (Nat × List zt_K) := [(25, [((2, none, false, [(0, 1)]), zi_20_K), ((2, none, false, [(0, 1)]), zi_21_K)]), (31, [((2, some 2, false, [(0, 8), (1, 10)]), zi_22_K)]), (44, [((3, some 2, false, [(0, 8), (1, 10)]), zi_26_K)]), (48, [((3, some 3, true, []), zi_27_K)]), (51, [((4, some 2, false, [(0, 8), (1, 10)]), zi_34_K)])]
def zi_35_H : zt_H := ((zo_w8, 8, zo_Sg), (zo_g8, zi_35_K.2.2.1, [0, 1], zo_U), [], (none, zi_35_K.2.2.2, zi_35_K.2.1.1), zi_35_Ks)
theorem zi_35_c : zt_chk zi_35_H (zB_X3_keep, [], [26, 77]) 7 zi_35_A 3 (zo_hd, zi_35_K) = true := by decide +kernel
theorem zi_35 (v : Nat) (hd : Nat × Option Nat × Bool × List (Nat × Nat)) : zt_Con zo_Om (zo_Rel v) (hd, zi_35_K) zF_X3_keep := zt_con (K := (zo_hd, zi_35_K)) (T := zT_X3_keep) (w0 := zo_w8) (G := zo_g8) (zo_UR v) rfl zo_sg rfl rfl rfl (zt_ksok_of (Ks := zi_35_Ks) (zt_k1 rfl (zt_k2 rfl (zi_20 v _) (zt_k2 rfl (zi_21 v _) zt_k3)) (zt_k1 rfl (zt_k2 rfl (zi_22 v _) zt_k3) (zt_k1 rfl (zt_k2 rfl (zi_26 v _) zt_k3) (zt_k1 rfl (zt_k2 rfl (zi_27 v _) zt_k3) (zt_k1 rfl (zt_k2 rfl (zi_34 v _) zt_k3) zt_k0)))))) zi_35_c
-- X9_livedToday X
def zi_36_K : Nat × (List zt_A × List zt_C × List Nat) × zt_W × List zt_O := (1, ([zjr 0], [], []), [(21, 1, 1), (22, 7, 9), (23, 0, 4), (24, 0, 4), (25, 0, 4), (26, 0, 4), (27, 0, 4), (28, 0, 4), (29, 0, 5), (30, 0, 304), (31, 0, 304)], [(some (zjr 21), [], [], [])])
def zi_36_A : zt_An := [(0, [(([some (zjr 0)], [], [], []), .ofNat 1, [])]), (21, [(([some (zjr 0)], [], [], []), .ofNat 0, [])])]
def zi_36_Ks : List (Nat × List zt_K) := [(390, [((2, some 3, false, [(0, 11), (1, 10)]), zi_35_K)])]
def zi_36_H : zt_H := ((zo_w1, 1, zo_Sg), (zo_g1, zi_36_K.2.2.1, [0], zo_U), [], ((some (.object "WearingBench$Diary")), zi_36_K.2.2.2, zi_36_K.2.1.1), zi_36_Ks)
theorem zi_36_c : zt_chk zi_36_H (zB_X9_livedToday, [], [21]) 3 zi_36_A 1 (zo_hd, zi_36_K) = true := by decide +kernel
theorem zi_36 (v : Nat) (hd : Nat × Option Nat × Bool × List (Nat × Nat)) : zt_Con zo_Om (zo_Rel v) (hd, zi_36_K) zF_X9_livedToday := zt_con (K := (zo_hd, zi_36_K)) (T := zT_X9_livedToday) (w0 := zo_w1) (G := zo_g1) (zo_UR v) rfl zo_sg rfl rfl rfl (zt_ksok_of (Ks := zi_36_Ks) (zt_k1 rfl (zt_k2 rfl (zi_35 v _) zt_k3) zt_k0)) zi_36_c
-- X3_ageAt Y
def zi_37_K : Nat × (List zt_A × List zt_C × List Nat) × zt_W × List zt_O := (9, ([zjr 0, zj (.ofNat 0) (.ofNat 4), zj (.ofNat 0) (.ofNat 60)], [], []), [], [(some (zj (.negSucc 0) (.ofNat 99)), [], [], [])])
def zi_37_A : zt_An := [(0, [(([some (zjr 0), some (zj (.ofNat 0) (.ofNat 4)), some (zj (.ofNat 0) (.ofNat 60))], [], [], []), .ofNat 0, [])])]
def zi_37_Ks : List (Nat × List zt_K) := []
def zi_37_H : zt_H := ((zo_w9, 9, zo_Sg), (zo_g9, zi_37_K.2.2.1, [0, 1, 2], zo_U), [], ((some .int), zi_37_K.2.2.2, zi_37_K.2.1.1), zi_37_Ks)
theorem zi_37_c : zt_chk zi_37_H (zB_X3_ageAt, [], []) 2 zi_37_A 3 (zo_hd, zi_37_K) = true := by decide +kernel
theorem zi_37 (v : Nat) (hd : Nat × Option Nat × Bool × List (Nat × Nat)) : zt_Con zo_Om (zo_Rel v) (hd, zi_37_K) zF_X3_ageAt := zt_con (K := (zo_hd, zi_37_K)) (T := zT_X3_ageAt) (w0 := zo_w9) (G := zo_g9) (zo_UR v) rfl zo_sg rfl rfl rfl (zt_ksok_of (Ks := zi_37_Ks) zt_k0) zi_37_c
-- X9_age X
def zi_38_K : Nat × (List zt_A × List zt_C × List Nat) × zt_W × List zt_O := (1, ([zjr 0, zt_top, zt_top], [], []), [(21, 1, 1), (22, 7, 9), (23, 0, 4), (24, 0, 4), (25, 0, 4), (26, 0, 4), (27, 0, 4), (28, 0, 4), (29, 0, 5), (30, 0, 304), (31, 0, 304)], [(some (zj (.negSucc 1) (.ofNat 99)), [], [], [])])
def zi_38_A : zt_An := [(0, [(([some (zjr 0), some zt_top, some zt_top], [], [], []), .ofNat 1, [])]), (18, [(([some (zjr 0), some zt_top, some zt_top], [], [], []), .ofNat 0, [])])]
def zi_38_Ks : List (Nat × List zt_K) := [(124, [((2, some 0, false, [(0, 10)]), zi_17_K)]), (142, [((1, none, true, []), zi_19_K)]), (145, [((1, some 9, true, []), zi_36_K)]), (149, [((3, some 3, false, [(0, 11)]), zi_37_K)])]
def zi_38_H : zt_H := ((zo_w1, 1, zo_Sg), (zo_g1, zi_38_K.2.2.1, [0, 1, 2], zo_U), [], ((some .int), zi_38_K.2.2.2, zi_38_K.2.1.1), zi_38_Ks)
theorem zi_38_c : zt_chk zi_38_H (zB_X9_age, [], [18]) 8 zi_38_A 3 (zo_hd, zi_38_K) = true := by decide +kernel
theorem zi_38 (v : Nat) (hd : Nat × Option Nat × Bool × List (Nat × Nat)) : zt_Con zo_Om (zo_Rel v) (hd, zi_38_K) zF_X9_age := zt_con (K := (zo_hd, zi_38_K)) (T := zT_X9_age) (w0 := zo_w1) (G := zo_g1) (zo_UR v) rfl zo_sg rfl rfl rfl (zt_ksok_of (Ks := zi_38_Ks) (zt_k1 rfl (zt_k2 rfl (zi_17 v _) zt_k3) (zt_k1 rfl (zt_k2 rfl (zi_19 v _) zt_k3) (zt_k1 rfl (zt_k2 rfl (zi_36 v _) zt_k3) (zt_k1 rfl (zt_k2 rfl (zi_37 v _) zt_k3) zt_k0))))) zi_38_c
-- X3_seatAt Y
def zi_39_K : Nat × (List zt_A × List zt_C × List Nat) × zt_W × List zt_O := (9, ([zjr 0, zj (.ofNat 0) (.ofNat 4), zj (.ofNat 0) (.ofNat 60)], [], []), [], [(some (zj (.negSucc 0) (.ofNat 5)), [], [], [])])
def zi_39_A : zt_An := [(0, [(([some (zjr 0), some (zj (.ofNat 0) (.ofNat 4)), some (zj (.ofNat 0) (.ofNat 60))], [], [], []), .ofNat 0, [])])]
def zi_39_Ks : List (Nat × List zt_K) := []
def zi_39_H : zt_H := ((zo_w9, 9, zo_Sg), (zo_g9, zi_39_K.2.2.1, [0, 1, 2], zo_U), [], ((some .int), zi_39_K.2.2.2, zi_39_K.2.1.1), zi_39_Ks)
theorem zi_39_c : zt_chk zi_39_H (zB_X3_seatAt, [], []) 2 zi_39_A 3 (zo_hd, zi_39_K) = true := by decide +kernel
theorem zi_39 (v : Nat) (hd : Nat × Option Nat × Bool × List (Nat × Nat)) : zt_Con zo_Om (zo_Rel v) (hd, zi_39_K) zF_X3_seatAt := zt_con (K := (zo_hd, zi_39_K)) (T := zT_X3_seatAt) (w0 := zo_w9) (G := zo_g9) (zo_UR v) rfl zo_sg rfl rfl rfl (zt_ksok_of (Ks := zi_39_Ks) zt_k0) zi_39_c
