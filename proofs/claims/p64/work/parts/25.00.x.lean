/-! WHAT THE METHODS KEEP, printed by program (wip/abs/ztprint.py) -/
-- X8_hasRoom T
def zi_0_K : Nat × (List zt_A × List zt_C × List Nat) × zt_W × List zt_O := (0, ([zjr 0, zj (.ofNat 20) (.ofNat 20)], [], []), [], [(some ((0, .ofNat 0, .ofNat 0, 0, [])), [], [], []), (some ((0, .ofNat 1, .ofNat 1, 0, [])), [], [], [])])
def zi_0_A : zt_An := [(0, [(([some (zjr 0), some (zj (.ofNat 20) (.ofNat 20))], [], [], []), .ofNat 1, [])]), (17, [(([some (zjr 0), some (zj (.ofNat 20) (.ofNat 20))], [(0, .ofNat 0, .ofNat 0, 0, [])], [((1, 0, 1), .ofNat 781, .ofNat 800)], []), .ofNat 0, []), (([some (zjr 0), some (zj (.ofNat 20) (.ofNat 20))], [(0, .ofNat 1, .ofNat 1, 0, [])], [((1, 0, 1), .ofNat 0, .ofNat 780)], []), .ofNat 0, [])])]
def zi_0_Ks : List (Nat × List zt_K) := []
def zi_0_H : zt_H := ((zo_w0, 0, zo_Sg), (zo_g0, zi_0_K.2.2.1, [0, 1], zo_U), [], ((some .boolean), zi_0_K.2.2.2, zi_0_K.2.1.1), zi_0_Ks)
theorem zi_0_c : zt_chk zi_0_H (zB_X8_hasRoom, [], [17]) 3 zi_0_A 2 (zo_hd, zi_0_K) = true := by decide +kernel
theorem zi_0 (v : Nat) (hd : Nat × Option Nat × Bool × List (Nat × Nat)) : zt_Con zo_Om (zo_Rel v) (hd, zi_0_K) zF_X8_hasRoom := zt_con (K := (zo_hd, zi_0_K)) (T := zT_X8_hasRoom) (w0 := zo_w0) (G := zo_g0) (zo_UR v) rfl zo_sg rfl rfl rfl (zt_ksok_of (Ks := zi_0_Ks) zt_k0) zi_0_c
-- X8_put T
def zi_1_K : Nat × (List zt_A × List zt_C × List Nat) × zt_W × List zt_O := (0, ([zjr 0, zt_top], [], []), [(0, 1, 1), (1, 0, 799)], [(none, [], [], [])])
def zi_1_A : zt_An := [(0, [(([some (zjr 0), some zt_top, none], [], [], []), .ofNat 34, [])]), (3, [(([some (zjr 0), some zt_top, some (zj (.negSucc 7) (.ofNat 24))], [], [], []), .ofNat 9, [(.ofNat 1, 2)])]), (49, [(([some (zjr 0), some zt_top, some (zj (.negSucc 7) (.ofNat 24))], [], [], []), .ofNat 0, [])])]
def zi_1_Ks : List (Nat × List zt_K) := []
def zi_1_H : zt_H := ((zo_w0, 0, zo_Sg), (zo_g0, zi_1_K.2.2.1, [0, 1], zo_U), [], (none, zi_1_K.2.2.2, zi_1_K.2.1.1), zi_1_Ks)
theorem zi_1_c : zt_chk zi_1_H (zB_X8_put, [], [3, 49]) 4 zi_1_A 3 (zo_hd, zi_1_K) = true := by decide +kernel
theorem zi_1 (v : Nat) (hd : Nat × Option Nat × Bool × List (Nat × Nat)) : zt_Con zo_Om (zo_Rel v) (hd, zi_1_K) zF_X8_put := zt_con (K := (zo_hd, zi_1_K)) (T := zT_X8_put) (w0 := zo_w0) (G := zo_g0) (zo_UR v) rfl zo_sg rfl rfl rfl (zt_ksok_of (Ks := zi_1_Ks) zt_k0) zi_1_c
-- X9_feed X
def zi_2_K : Nat × (List zt_A × List zt_C × List Nat) × zt_W × List zt_O := (1, ([zjr 0, zt_top, zt_top, zt_top, zt_top, zt_top], [], []), [(51, 1, 1), (52, 0, 799)], [(some (zj (.negSucc 0) (.ofNat 800)), [], [], [])])
def zi_2_A : zt_An := [(0, [(([some (zjr 0), some zt_top, some zt_top, some zt_top, some zt_top, some zt_top], [], [], []), .ofNat 0, [])])]
def zi_2_Ks : List (Nat × List zt_K) := [(86, [((2, some 8, false, [(0, 2)]), zi_0_K)]), (90, [((2, some 8, false, [(0, 2)]), zi_1_K)])]
def zi_2_H : zt_H := ((zo_w1, 1, zo_Sg), (zo_g1, zi_2_K.2.2.1, [0, 1, 2, 3, 4, 5], zo_U), [], ((some .int), zi_2_K.2.2.2, zi_2_K.2.1.1), zi_2_Ks)
theorem zi_2_c : zt_chk zi_2_H (zB_X9_feed, [], []) 9 zi_2_A 6 (zo_hd, zi_2_K) = true := by decide +kernel
theorem zi_2 (v : Nat) (hd : Nat × Option Nat × Bool × List (Nat × Nat)) : zt_Con zo_Om (zo_Rel v) (hd, zi_2_K) zF_X9_feed := zt_con (K := (zo_hd, zi_2_K)) (T := zT_X9_feed) (w0 := zo_w1) (G := zo_g1) (zo_UR v) rfl zo_sg rfl rfl rfl (zt_ksok_of (Ks := zi_2_Ks) (zt_k1 rfl (zt_k2 rfl (zi_0 v _) zt_k3) (zt_k1 rfl (zt_k2 rfl (zi_1 v _) zt_k3) zt_k0))) zi_2_c
-- X9_end X
def zi_3_K : Nat × (List zt_A × List zt_C × List Nat) × zt_W × List zt_O := (1, ([zjr 0, zt_top], [], []), [(51, 1, 1)], [(some (zj (.negSucc 0) (.ofNat 800)), [], [], [])])
def zi_3_A : zt_An := [(0, [(([some (zjr 0), some zt_top], [], [], []), .ofNat 1, [])]), (15, [(([some (zjr 0), some zt_top], [], [], []), .ofNat 0, [])])]
def zi_3_Ks : List (Nat × List zt_K) := []
def zi_3_H : zt_H := ((zo_w1, 1, zo_Sg), (zo_g1, zi_3_K.2.2.1, [0, 1], zo_U), [], ((some .int), zi_3_K.2.2.2, zi_3_K.2.1.1), zi_3_Ks)
theorem zi_3_c : zt_chk zi_3_H (zB_X9_end, [], [15]) 4 zi_3_A 2 (zo_hd, zi_3_K) = true := by decide +kernel
theorem zi_3 (v : Nat) (hd : Nat × Option Nat × Bool × List (Nat × Nat)) : zt_Con zo_Om (zo_Rel v) (hd, zi_3_K) zF_X9_end := zt_con (K := (zo_hd, zi_3_K)) (T := zT_X9_end) (w0 := zo_w1) (G := zo_g1) (zo_UR v) rfl zo_sg rfl rfl rfl (zt_ksok_of (Ks := zi_3_Ks) zt_k0) zi_3_c
-- X0_clear B
def zi_4_K : Nat × (List zt_A × List zt_C × List Nat) × zt_W × List zt_O := (2, ([zjr 0], [], []), [(0, 0, 7)], [(none, [], [], [])])
def zi_4_A : zt_An := [(0, [(([some (zjr 0)], [], [], []), .ofNat 0, [])])]
def zi_4_Ks : List (Nat × List zt_K) := []
def zi_4_H : zt_H := ((zo_w2, 2, zo_Sg), (zo_g2, zi_4_K.2.2.1, [0], zo_U), [], (none, zi_4_K.2.2.2, zi_4_K.2.1.1), zi_4_Ks)
theorem zi_4_c : zt_chk zi_4_H (zB_X0_clear, [], []) 2 zi_4_A 1 (zo_hd, zi_4_K) = true := by decide +kernel
theorem zi_4 (v : Nat) (hd : Nat × Option Nat × Bool × List (Nat × Nat)) : zt_Con zo_Om (zo_Rel v) (hd, zi_4_K) zF_X0_clear := zt_con (K := (zo_hd, zi_4_K)) (T := zT_X0_clear) (w0 := zo_w2) (G := zo_g2) (zo_UR v) rfl zo_sg rfl rfl rfl (zt_ksok_of (Ks := zi_4_Ks) zt_k0) zi_4_c
-- X8_isBlank T/B
def zi_5_K : Nat × (List zt_A × List zt_C × List Nat) × zt_W × List zt_O := (3, ([zj (.ofNat 0) (.ofNat 255)], [], []), [], [(some ((0, .ofNat 0, .ofNat 0, 0, [])), [], [], []), (some ((0, .ofNat 1, .ofNat 1, 0, [])), [(0, .ofNat 10, .ofNat 32)], [], [])])
def zi_5_A : zt_An := [(0, [(([some (zj (.ofNat 0) (.ofNat 255))], [], [], []), .ofNat 2, [])]), (12, [(([some (zj (.ofNat 10) (.ofNat 32))], [], [], []), .ofNat 1, [])]), (17, [(([some (zj (.ofNat 0) (.ofNat 255))], [(0, .ofNat 0, .ofNat 0, 0, [])], [], []), .ofNat 0, []), (([some (zj (.ofNat 10) (.ofNat 32))], [(0, .ofNat 1, .ofNat 1, 0, [])], [], []), .ofNat 0, [])])]
def zi_5_Ks : List (Nat × List zt_K) := []
def zi_5_H : zt_H := ((zo_w3, 3, zo_Sg), (zo_g3, zi_5_K.2.2.1, [0], zo_U), [], ((some .boolean), zi_5_K.2.2.2, zi_5_K.2.1.1), zi_5_Ks)
theorem zi_5_c : zt_chk zi_5_H (zB_X8_isBlank, [], [12, 17]) 4 zi_5_A 1 (zo_hd, zi_5_K) = true := by decide +kernel
theorem zi_5 (v : Nat) (hd : Nat × Option Nat × Bool × List (Nat × Nat)) : zt_Con zo_Om (zo_Rel v) (hd, zi_5_K) zF_X8_isBlank := zt_con (K := (zo_hd, zi_5_K)) (T := zT_X8_isBlank) (w0 := zo_w3) (G := zo_g3) (zo_UR v) rfl zo_sg rfl rfl rfl (zt_ksok_of (Ks := zi_5_Ks) zt_k0) zi_5_c
-- X8_kindOf T/B
def zi_6_K : Nat × (List zt_A × List zt_C × List Nat) × zt_W × List zt_O := (3, ([zj (.ofNat 0) (.ofNat 255)], [], []), [], [(some ((0, .ofNat 1, .ofNat 1, 0, [])), [(0, .ofNat 97, .ofNat 122)], [], []), (some (zj (.ofNat 2) (.ofNat 4)), [], [], [])])
def zi_6_A : zt_An := [(0, [(([some (zj (.ofNat 0) (.ofNat 255))], [], [], []), .ofNat 3, [])]), (14, [(([some (zj (.ofNat 0) (.ofNat 255))], [], [], []), .ofNat 2, [])]), (28, [(([some (zj (.ofNat 0) (.ofNat 255))], [], [], []), .ofNat 1, [])]), (39, [(([some (zj (.ofNat 0) (.ofNat 255))], [zj (.ofNat 3) (.ofNat 4)], [], []), .ofNat 0, [])])]
def zi_6_Ks : List (Nat × List zt_K) := []
def zi_6_H : zt_H := ((zo_w3, 3, zo_Sg), (zo_g3, zi_6_K.2.2.1, [0], zo_U), [], ((some .int), zi_6_K.2.2.2, zi_6_K.2.1.1), zi_6_Ks)
theorem zi_6_c : zt_chk zi_6_H (zB_X8_kindOf, [], [14, 28, 39]) 4 zi_6_A 1 (zo_hd, zi_6_K) = true := by decide +kernel
theorem zi_6 (v : Nat) (hd : Nat × Option Nat × Bool × List (Nat × Nat)) : zt_Con zo_Om (zo_Rel v) (hd, zi_6_K) zF_X8_kindOf := zt_con (K := (zo_hd, zi_6_K)) (T := zT_X8_kindOf) (w0 := zo_w3) (G := zo_g3) (zo_UR v) rfl zo_sg rfl rfl rfl (zt_ksok_of (Ks := zi_6_Ks) zt_k0) zi_6_c
-- X8_growsOn T/B
def zi_7_K : Nat × (List zt_A × List zt_C × List Nat) × zt_W × List zt_O := (3, ([zjr 0], [], []), [], [(some ((0, .ofNat 0, .ofNat 0, 0, [])), [], [], []), (some ((0, .ofNat 1, .ofNat 1, 0, [])), [], [], [])])
def zi_7_A : zt_An := [(0, [(([some (zjr 0)], [], [], []), .ofNat 2, [])]), (16, [(([some (zjr 0)], [], [((1, 0, 4), .ofNat 1, .ofNat 2)], []), .ofNat 1, [])]), (21, [(([some (zjr 0)], [(0, .ofNat 0, .ofNat 0, 0, [])], [((1, 0, 4), .ofNat 0, .ofNat 4)], []), .ofNat 0, []), (([some (zjr 0)], [(0, .ofNat 1, .ofNat 1, 0, [])], [((1, 0, 4), .ofNat 1, .ofNat 2)], []), .ofNat 0, [])])]
def zi_7_Ks : List (Nat × List zt_K) := []
def zi_7_H : zt_H := ((zo_w3, 3, zo_Sg), (zo_g3, zi_7_K.2.2.1, [0], zo_U), [], ((some .boolean), zi_7_K.2.2.2, zi_7_K.2.1.1), zi_7_Ks)
theorem zi_7_c : zt_chk zi_7_H (zB_X8_growsOn, [], [16, 21]) 4 zi_7_A 1 (zo_hd, zi_7_K) = true := by decide +kernel
theorem zi_7 (v : Nat) (hd : Nat × Option Nat × Bool × List (Nat × Nat)) : zt_Con zo_Om (zo_Rel v) (hd, zi_7_K) zF_X8_growsOn := zt_con (K := (zo_hd, zi_7_K)) (T := zT_X8_growsOn) (w0 := zo_w3) (G := zo_g3) (zo_UR v) rfl zo_sg rfl rfl rfl (zt_ksok_of (Ks := zi_7_Ks) zt_k0) zi_7_c
-- X8_advance T/B
def zi_8_K : Nat × (List zt_A × List zt_C × List Nat) × zt_W × List zt_O := (3, ([zjr 0], [], []), [(0, 4, 6)], [(none, [], [], [])])
def zi_8_A : zt_An := [(0, [(([some (zjr 0), none], [], [], []), .ofNat 1604, [])]), (5, [(([some (zjr 0), some (zj (.ofNat 0) (.ofNat 800))], [], [], []), .ofNat 1603, [(.negSucc 0, 1)])]), (31, [(([some (zjr 0), some (zj (.ofNat 0) (.ofNat 800))], [], [((1, 0, 1), .ofNat 0, .ofNat 800)], []), .ofNat 802, [])]), (65, [(([some (zjr 0), some (zj (.ofNat 0) (.ofNat 800))], [], [((1, 0, 1), .ofNat 0, .ofNat 800), ((1, 0, 4), .ofNat 0, .ofNat 4), ((1, 0, 5), .ofNat 0, .ofNat 800)], []), .ofNat 801, [(.negSucc 0, 1)])]), (102, [(([some (zjr 0), some (zj (.ofNat 0) (.ofNat 800))], [], [((1, 0, 1), .ofNat 0, .ofNat 800), ((1, 0, 4), .ofNat 0, .ofNat 4), ((1, 0, 5), .ofNat 0, .ofNat 800)], []), .ofNat 0, [])])]
def zi_8_Ks : List (Nat × List zt_K) := [(147, [((1, none, true, []), zi_5_K)]), (151, [((1, none, true, []), zi_6_K)]), (155, [((1, some 8, true, []), zi_7_K)])]
def zi_8_H : zt_H := ((zo_w3, 3, zo_Sg), (zo_g3, zi_8_K.2.2.1, [0], zo_U), [], (none, zi_8_K.2.2.2, zi_8_K.2.1.1), zi_8_Ks)
theorem zi_8_c : zt_chk zi_8_H (zB_X8_advance, [], [5, 31, 65, 102]) 8 zi_8_A 2 (zo_hd, zi_8_K) = true := by decide +kernel
theorem zi_8 (v : Nat) (hd : Nat × Option Nat × Bool × List (Nat × Nat)) : zt_Con zo_Om (zo_Rel v) (hd, zi_8_K) zF_X8_advance := zt_con (K := (zo_hd, zi_8_K)) (T := zT_X8_advance) (w0 := zo_w3) (G := zo_g3) (zo_UR v) rfl zo_sg rfl rfl rfl (zt_ksok_of (Ks := zi_8_Ks) (zt_k1 rfl (zt_k2 rfl (zi_5 v _) zt_k3) (zt_k1 rfl (zt_k2 rfl (zi_6 v _) zt_k3) (zt_k1 rfl (zt_k2 rfl (zi_7 v _) zt_k3) zt_k0)))) zi_8_c
-- X8_isWord T/B
def zi_9_K : Nat × (List zt_A × List zt_C × List Nat) × zt_W × List zt_O := (3, ([zjr 0, (4, .ofNat 5, .ofNat 0, 0, [])], [], []), [], [(some (zj (.ofNat 0) (.ofNat 0)), [], [], []), (some (zj (.ofNat 1) (.ofNat 1)), [], [], [])])
theorem zi_9 (v : Nat) (hd : Nat × Option Nat × Bool × List (Nat × Nat)) : zt_Con zo_Om (zo_Rel v) (hd, zi_9_K) zF_X8_isWord := zh_isWord 5 (by decide) v hd
-- X8_isWord T/B
def zi_10_K : Nat × (List zt_A × List zt_C × List Nat) × zt_W × List zt_O := (3, ([zjr 0, (4, .ofNat 8, .ofNat 0, 0, [])], [], []), [], [(some (zj (.ofNat 0) (.ofNat 0)), [], [], []), (some (zj (.ofNat 1) (.ofNat 1)), [], [], [])])
theorem zi_10 (v : Nat) (hd : Nat × Option Nat × Bool × List (Nat × Nat)) : zt_Con zo_Om (zo_Rel v) (hd, zi_10_K) zF_X8_isWord := zh_isWord 8 (by decide) v hd
-- X8_refuse T/B
def zi_11_K : Nat × (List zt_A × List zt_C × List Nat) × zt_W × List zt_O := (3, ([zjr 0, zj (.ofNat 1) (.ofNat 3)], [], []), [(0, 2, 3)], [(none, [], [], [])])
def zi_11_A : zt_An := [(0, [(([some (zjr 0), some (zj (.ofNat 1) (.ofNat 3))], [], [], []), .ofNat 1, [])]), (20, [(([some (zjr 0), some (zj (.ofNat 1) (.ofNat 3))], [], [((1, 0, 2), .ofNat 1, .ofNat 3)], []), .ofNat 0, [])])]
def zi_11_Ks : List (Nat × List zt_K) := []
def zi_11_H : zt_H := ((zo_w3, 3, zo_Sg), (zo_g3, zi_11_K.2.2.1, [0, 1], zo_U), [], (none, zi_11_K.2.2.2, zi_11_K.2.1.1), zi_11_Ks)
theorem zi_11_c : zt_chk zi_11_H (zB_X8_refuse, [], [20]) 3 zi_11_A 2 (zo_hd, zi_11_K) = true := by decide +kernel
theorem zi_11 (v : Nat) (hd : Nat × Option Nat × Bool × List (Nat × Nat)) : zt_Con zo_Om (zo_Rel v) (hd, zi_11_K) zF_X8_refuse := zt_con (K := (zo_hd, zi_11_K)) (T := zT_X8_refuse) (w0 := zo_w3) (G := zo_g3) (zo_UR v) rfl zo_sg rfl rfl rfl (zt_ksok_of (Ks := zi_11_Ks) zt_k0) zi_11_c
-- X8_takeWord T/B
def zi_12_K : Nat × (List zt_A × List zt_C × List Nat) × zt_W × List zt_O := (3, ([zjr 0, (4, .ofNat 8, .ofNat 0, 0, [])], [], []), [(0, 2, 6)], [(none, [], [], [])])
def zi_12_A : zt_An := [(0, [(([some (zjr 0), some (4, .ofNat 8, .ofNat 0, 0, [])], [], [], []), .ofNat 1, [])]), (28, [(([some (zjr 0), some (4, .ofNat 8, .ofNat 0, 0, [])], [], [], []), .ofNat 0, [])])]
def zi_12_Ks : List (Nat × List zt_K) := [(33, [((1, some 8, true, []), zi_8_K)]), (48, [((2, some 8, true, []), zi_10_K)]), (60, [((2, some 8, true, []), zi_11_K)])]
def zi_12_H : zt_H := ((zo_w3, 3, zo_Sg), (zo_g3, zi_12_K.2.2.1, [0, 1], zo_U), [], (none, zi_12_K.2.2.2, zi_12_K.2.1.1), zi_12_Ks)
theorem zi_12_c : zt_chk zi_12_H (zB_X8_takeWord, [], [28]) 6 zi_12_A 2 (zo_hd, zi_12_K) = true := by decide +kernel
theorem zi_12 (v : Nat) (hd : Nat × Option Nat × Bool × List (Nat × Nat)) : zt_Con zo_Om (zo_Rel v) (hd, zi_12_K) zF_X8_takeWord := zt_con (K := (zo_hd, zi_12_K)) (T := zT_X8_takeWord) (w0 := zo_w3) (G := zo_g3) (zo_UR v) rfl zo_sg rfl rfl rfl (zt_ksok_of (Ks := zi_12_Ks) (zt_k1 rfl (zt_k2 rfl (zi_8 v _) zt_k3) (zt_k1 rfl (zt_k2 rfl (zi_10 v _) zt_k3) (zt_k1 rfl (zt_k2 rfl (zi_11 v _) zt_k3) zt_k0)))) zi_12_c
-- X8_isWord T/B
def zi_13_K : Nat × (List zt_A × List zt_C × List Nat) × zt_W × List zt_O := (3, ([zjr 0, (4, .ofNat 9, .ofNat 0, 0, [])], [], []), [], [(some (zj (.ofNat 0) (.ofNat 0)), [], [], []), (some (zj (.ofNat 1) (.ofNat 1)), [], [], [])])
theorem zi_13 (v : Nat) (hd : Nat × Option Nat × Bool × List (Nat × Nat)) : zt_Con zo_Om (zo_Rel v) (hd, zi_13_K) zF_X8_isWord := zh_isWord 9 (by decide) v hd
-- X8_takeWord T/B
def zi_14_K : Nat × (List zt_A × List zt_C × List Nat) × zt_W × List zt_O := (3, ([zjr 0, (4, .ofNat 9, .ofNat 0, 0, [])], [], []), [(0, 2, 6)], [(none, [], [], [])])
def zi_14_A : zt_An := [(0, [(([some (zjr 0), some (4, .ofNat 9, .ofNat 0, 0, [])], [], [], []), .ofNat 1, [])]), (28, [(([some (zjr 0), some (4, .ofNat 9, .ofNat 0, 0, [])], [], [], []), .ofNat 0, [])])]
def zi_14_Ks : List (Nat × List zt_K) := [(33, [((1, some 8, true, []), zi_8_K)]), (48, [((2, some 8, true, []), zi_13_K)]), (60, [((2, some 8, true, []), zi_11_K)])]
def zi_14_H : zt_H := ((zo_w3, 3, zo_Sg), (zo_g3, zi_14_K.2.2.1, [0, 1], zo_U), [], (none, zi_14_K.2.2.2, zi_14_K.2.1.1), zi_14_Ks)
theorem zi_14_c : zt_chk zi_14_H (zB_X8_takeWord, [], [28]) 6 zi_14_A 2 (zo_hd, zi_14_K) = true := by decide +kernel
theorem zi_14 (v : Nat) (hd : Nat × Option Nat × Bool × List (Nat × Nat)) : zt_Con zo_Om (zo_Rel v) (hd, zi_14_K) zF_X8_takeWord := zt_con (K := (zo_hd, zi_14_K)) (T := zT_X8_takeWord) (w0 := zo_w3) (G := zo_g3) (zo_UR v) rfl zo_sg rfl rfl rfl (zt_ksok_of (Ks := zi_14_Ks) (zt_k1 rfl (zt_k2 rfl (zi_8 v _) zt_k3) (zt_k1 rfl (zt_k2 rfl (zi_13 v _) zt_k3) (zt_k1 rfl (zt_k2 rfl (zi_11 v _) zt_k3) zt_k0)))) zi_14_c
-- X8_valueHere T/B
def zi_15_K : Nat × (List zt_A × List zt_C × List Nat) × zt_W × List zt_O := (3, ([zjr 0], [], []), [], [(some (zj (.negSucc 2147483647) (.ofNat 1000)), [], [], [])])
def zi_15_A : zt_An := [(0, [(([some (zjr 0), none, none], [], [], []), .ofNat 801, [])]), (7, [(([some (zjr 0), some (zj (.negSucc 2147483647) (.ofNat 1000)), some (zj (.ofNat 0) (.ofNat 800))], [], [], []), .ofNat 800, [(.negSucc 0, 2)])])]
def zi_15_Ks : List (Nat × List zt_K) := []
def zi_15_H : zt_H := ((zo_w3, 3, zo_Sg), (zo_g3, zi_15_K.2.2.1, [0], zo_U), [], ((some .int), zi_15_K.2.2.2, zi_15_K.2.1.1), zi_15_Ks)
theorem zi_15_c : zt_chk zi_15_H (zB_X8_valueHere, [], [7]) 3 zi_15_A 3 (zo_hd, zi_15_K) = true := by decide +kernel
theorem zi_15 (v : Nat) (hd : Nat × Option Nat × Bool × List (Nat × Nat)) : zt_Con zo_Om (zo_Rel v) (hd, zi_15_K) zF_X8_valueHere := zt_con (K := (zo_hd, zi_15_K)) (T := zT_X8_valueHere) (w0 := zo_w3) (G := zo_g3) (zo_UR v) rfl zo_sg rfl rfl rfl (zt_ksok_of (Ks := zi_15_Ks) zt_k0) zi_15_c
-- X8_takeAfter T/B
def zi_16_K : Nat × (List zt_A × List zt_C × List Nat) × zt_W × List zt_O := (3, ([zjr 0, (4, .ofNat 9, .ofNat 0, 0, []), zj (.ofNat 0) (.ofNat 0), zj (.ofNat 99) (.ofNat 99)], [], []), [(0, 2, 6)], [(some (zj (.ofNat 0) (.ofNat 99)), [], [], []), (some ((0, .ofNat 0, .ofNat 0, 0, [])), [], [], [])])
def zi_16_A : zt_An := [(0, [(([some (zjr 0), some (4, .ofNat 9, .ofNat 0, 0, []), some (zj (.ofNat 0) (.ofNat 0)), some (zj (.ofNat 99) (.ofNat 99)), none], [], [], []), .ofNat 1, [])]), (47, [(([some (zjr 0), some (4, .ofNat 9, .ofNat 0, 0, []), some (zj (.ofNat 0) (.ofNat 0)), some (zj (.ofNat 99) (.ofNat 99)), some (zj (.negSucc 2147483647) (.ofNat 1000))], [], [((1, 0, 2), .ofNat 0, .ofNat 0), ((1, 0, 4), .ofNat 2, .ofNat 2)], []), .ofNat 0, [])])]
def zi_16_Ks : List (Nat × List zt_K) := [(33, [((1, some 8, true, []), zi_8_K)]), (60, [((2, some 8, true, []), zi_11_K)]), (69, [((2, some 8, true, []), zi_14_K)]), (128, [((1, some 8, true, []), zi_15_K)])]
def zi_16_H : zt_H := ((zo_w3, 3, zo_Sg), (zo_g3, zi_16_K.2.2.1, [0, 1, 2, 3], zo_U), [], ((some .int), zi_16_K.2.2.2, zi_16_K.2.1.1), zi_16_Ks)
theorem zi_16_c : zt_chk zi_16_H (zB_X8_takeAfter, [], [47]) 9 zi_16_A 5 (zo_hd, zi_16_K) = true := by decide +kernel
theorem zi_16 (v : Nat) (hd : Nat × Option Nat × Bool × List (Nat × Nat)) : zt_Con zo_Om (zo_Rel v) (hd, zi_16_K) zF_X8_takeAfter := zt_con (K := (zo_hd, zi_16_K)) (T := zT_X8_takeAfter) (w0 := zo_w3) (G := zo_g3) (zo_UR v) rfl zo_sg rfl rfl rfl (zt_ksok_of (Ks := zi_16_Ks) (zt_k1 rfl (zt_k2 rfl (zi_8 v _) zt_k3) (zt_k1 rfl (zt_k2 rfl (zi_11 v _) zt_k3) (zt_k1 rfl (zt_k2 rfl (zi_14 v _) zt_k3) (zt_k1 rfl (zt_k2 rfl (zi_15 v _) zt_k3) zt_k0))))) zi_16_c
-- X8_isWord T/B
def zi_17_K : Nat × (List zt_A × List zt_C × List Nat) × zt_W × List zt_O := (3, ([zjr 0, (4, .ofNat 10, .ofNat 0, 0, [])], [], []), [], [(some (zj (.ofNat 0) (.ofNat 0)), [], [], []), (some (zj (.ofNat 1) (.ofNat 1)), [], [], [])])
theorem zi_17 (v : Nat) (hd : Nat × Option Nat × Bool × List (Nat × Nat)) : zt_Con zo_Om (zo_Rel v) (hd, zi_17_K) zF_X8_isWord := zh_isWord 10 (by decide) v hd
-- X8_takeWord T/B
def zi_18_K : Nat × (List zt_A × List zt_C × List Nat) × zt_W × List zt_O := (3, ([zjr 0, (4, .ofNat 10, .ofNat 0, 0, [])], [], []), [(0, 2, 6)], [(none, [], [], [])])
def zi_18_A : zt_An := [(0, [(([some (zjr 0), some (4, .ofNat 10, .ofNat 0, 0, [])], [], [], []), .ofNat 1, [])]), (28, [(([some (zjr 0), some (4, .ofNat 10, .ofNat 0, 0, [])], [], [], []), .ofNat 0, [])])]
def zi_18_Ks : List (Nat × List zt_K) := [(33, [((1, some 8, true, []), zi_8_K)]), (48, [((2, some 8, true, []), zi_17_K)]), (60, [((2, some 8, true, []), zi_11_K)])]
def zi_18_H : zt_H := ((zo_w3, 3, zo_Sg), (zo_g3, zi_18_K.2.2.1, [0, 1], zo_U), [], (none, zi_18_K.2.2.2, zi_18_K.2.1.1), zi_18_Ks)
theorem zi_18_c : zt_chk zi_18_H (zB_X8_takeWord, [], [28]) 6 zi_18_A 2 (zo_hd, zi_18_K) = true := by decide +kernel
theorem zi_18 (v : Nat) (hd : Nat × Option Nat × Bool × List (Nat × Nat)) : zt_Con zo_Om (zo_Rel v) (hd, zi_18_K) zF_X8_takeWord := zt_con (K := (zo_hd, zi_18_K)) (T := zT_X8_takeWord) (w0 := zo_w3) (G := zo_g3) (zo_UR v) rfl zo_sg rfl rfl rfl (zt_ksok_of (Ks := zi_18_Ks) (zt_k1 rfl (zt_k2 rfl (zi_8 v _) zt_k3) (zt_k1 rfl (zt_k2 rfl (zi_17 v _) zt_k3) (zt_k1 rfl (zt_k2 rfl (zi_11 v _) zt_k3) zt_k0)))) zi_18_c
-- X8_takeAfter T/B
def zi_19_K : Nat × (List zt_A × List zt_C × List Nat) × zt_W × List zt_O := (3, ([zjr 0, (4, .ofNat 10, .ofNat 0, 0, []), zj (.ofNat 0) (.ofNat 0), zj (.ofNat 30) (.ofNat 30)], [], []), [(0, 2, 6)], [(some (zj (.ofNat 0) (.ofNat 30)), [], [], []), (some ((0, .ofNat 0, .ofNat 0, 0, [])), [], [], [])])
def zi_19_A : zt_An := [(0, [(([some (zjr 0), some (4, .ofNat 10, .ofNat 0, 0, []), some (zj (.ofNat 0) (.ofNat 0)), some (zj (.ofNat 30) (.ofNat 30)), none], [], [], []), .ofNat 1, [])]), (47, [(([some (zjr 0), some (4, .ofNat 10, .ofNat 0, 0, []), some (zj (.ofNat 0) (.ofNat 0)), some (zj (.ofNat 30) (.ofNat 30)), some (zj (.negSucc 2147483647) (.ofNat 1000))], [], [((1, 0, 2), .ofNat 0, .ofNat 0), ((1, 0, 4), .ofNat 2, .ofNat 2)], []), .ofNat 0, [])])]
def zi_19_Ks : List (Nat × List zt_K) := [(33, [((1, some 8, true, []), zi_8_K)]), (60, [((2, some 8, true, []), zi_11_K)]), (69, [((2, some 8, true, []), zi_18_K)]), (128, [((1, some 8, true, []), zi_15_K)])]
def zi_19_H : zt_H := ((zo_w3, 3, zo_Sg), (zo_g3, zi_19_K.2.2.1, [0, 1, 2, 3], zo_U), [], ((some .int), zi_19_K.2.2.2, zi_19_K.2.1.1), zi_19_Ks)
theorem zi_19_c : zt_chk zi_19_H (zB_X8_takeAfter, [], [47]) 9 zi_19_A 5 (zo_hd, zi_19_K) = true := by decide +kernel
theorem zi_19 (v : Nat) (hd : Nat × Option Nat × Bool × List (Nat × Nat)) : zt_Con zo_Om (zo_Rel v) (hd, zi_19_K) zF_X8_takeAfter := zt_con (K := (zo_hd, zi_19_K)) (T := zT_X8_takeAfter) (w0 := zo_w3) (G := zo_g3) (zo_UR v) rfl zo_sg rfl rfl rfl (zt_ksok_of (Ks := zi_19_Ks) (zt_k1 rfl (zt_k2 rfl (zi_8 v _) zt_k3) (zt_k1 rfl (zt_k2 rfl (zi_11 v _) zt_k3) (zt_k1 rfl (zt_k2 rfl (zi_18 v _) zt_k3) (zt_k1 rfl (zt_k2 rfl (zi_15 v _) zt_k3) zt_k0))))) zi_19_c
-- X8_takeWord T/B
def zi_20_K : Nat × (List zt_A × List zt_C × List Nat) × zt_W × List zt_O := (3, ([zjr 0, (4, .ofNat 5, .ofNat 0, 0, [])], [], []), [(0, 2, 6)], [(none, [], [], [])])
def zi_20_A : zt_An := [(0, [(([some (zjr 0), some (4, .ofNat 5, .ofNat 0, 0, [])], [], [], []), .ofNat 1, [])]), (28, [(([some (zjr 0), some (4, .ofNat 5, .ofNat 0, 0, [])], [], [], []), .ofNat 0, [])])]
def zi_20_Ks : List (Nat × List zt_K) := [(33, [((1, some 8, true, []), zi_8_K)]), (48, [((2, some 8, true, []), zi_9_K)]), (60, [((2, some 8, true, []), zi_11_K)])]
def zi_20_H : zt_H := ((zo_w3, 3, zo_Sg), (zo_g3, zi_20_K.2.2.1, [0, 1], zo_U), [], (none, zi_20_K.2.2.2, zi_20_K.2.1.1), zi_20_Ks)
theorem zi_20_c : zt_chk zi_20_H (zB_X8_takeWord, [], [28]) 6 zi_20_A 2 (zo_hd, zi_20_K) = true := by decide +kernel
theorem zi_20 (v : Nat) (hd : Nat × Option Nat × Bool × List (Nat × Nat)) : zt_Con zo_Om (zo_Rel v) (hd, zi_20_K) zF_X8_takeWord := zt_con (K := (zo_hd, zi_20_K)) (T := zT_X8_takeWord) (w0 := zo_w3) (G := zo_g3) (zo_UR v) rfl zo_sg rfl rfl rfl (zt_ksok_of (Ks := zi_20_Ks) (zt_k1 rfl (zt_k2 rfl (zi_8 v _) zt_k3) (zt_k1 rfl (zt_k2 rfl (zi_9 v _) zt_k3) (zt_k1 rfl (zt_k2 rfl (zi_11 v _) zt_k3) zt_k0)))) zi_20_c
-- X8_takeAfter T/B
def zi_21_K : Nat × (List zt_A × List zt_C × List Nat) × zt_W × List zt_O := (3, ([zjr 0, (4, .ofNat 5, .ofNat 0, 0, []), zj (.ofNat 0) (.ofNat 0), zj (.negSucc 0) (.ofNat 5)], [], []), [(0, 2, 6)], [(some (zj (.ofNat 0) (.ofNat 5)), [(3, .ofNat 0, .ofNat 5)], [], []), (some ((0, .ofNat 0, .ofNat 0, 0, [])), [], [], [])])
def zi_21_A : zt_An := [(0, [(([some (zjr 0), some (4, .ofNat 5, .ofNat 0, 0, []), some (zj (.ofNat 0) (.ofNat 0)), some (zj (.negSucc 0) (.ofNat 5)), none], [], [], []), .ofNat 1, [])]), (47, [(([some (zjr 0), some (4, .ofNat 5, .ofNat 0, 0, []), some (zj (.ofNat 0) (.ofNat 0)), some (zj (.negSucc 0) (.ofNat 5)), some (zj (.negSucc 2147483647) (.ofNat 1000))], [], [((1, 0, 2), .ofNat 0, .ofNat 0), ((1, 0, 4), .ofNat 2, .ofNat 2)], []), .ofNat 0, [])])]
def zi_21_Ks : List (Nat × List zt_K) := [(33, [((1, some 8, true, []), zi_8_K)]), (60, [((2, some 8, true, []), zi_11_K)]), (69, [((2, some 8, true, []), zi_20_K)]), (128, [((1, some 8, true, []), zi_15_K)])]
def zi_21_H : zt_H := ((zo_w3, 3, zo_Sg), (zo_g3, zi_21_K.2.2.1, [0, 1, 2, 3], zo_U), [], ((some .int), zi_21_K.2.2.2, zi_21_K.2.1.1), zi_21_Ks)
theorem zi_21_c : zt_chk zi_21_H (zB_X8_takeAfter, [], [47]) 9 zi_21_A 5 (zo_hd, zi_21_K) = true := by decide +kernel
theorem zi_21 (v : Nat) (hd : Nat × Option Nat × Bool × List (Nat × Nat)) : zt_Con zo_Om (zo_Rel v) (hd, zi_21_K) zF_X8_takeAfter := zt_con (K := (zo_hd, zi_21_K)) (T := zT_X8_takeAfter) (w0 := zo_w3) (G := zo_g3) (zo_UR v) rfl zo_sg rfl rfl rfl (zt_ksok_of (Ks := zi_21_Ks) (zt_k1 rfl (zt_k2 rfl (zi_8 v _) zt_k3) (zt_k1 rfl (zt_k2 rfl (zi_11 v _) zt_k3) (zt_k1 rfl (zt_k2 rfl (zi_20 v _) zt_k3) (zt_k1 rfl (zt_k2 rfl (zi_15 v _) zt_k3) zt_k0))))) zi_21_c
-- X8_isWord T/B
def zi_22_K : Nat × (List zt_A × List zt_C × List Nat) × zt_W × List zt_O := (3, ([zjr 0, (4, .ofNat 11, .ofNat 0, 0, [])], [], []), [], [(some (zj (.ofNat 0) (.ofNat 0)), [], [], []), (some (zj (.ofNat 1) (.ofNat 1)), [], [], [])])
theorem zi_22 (v : Nat) (hd : Nat × Option Nat × Bool × List (Nat × Nat)) : zt_Con zo_Om (zo_Rel v) (hd, zi_22_K) zF_X8_isWord := zh_isWord 11 (by decide) v hd
-- X8_takeWord T/B
def zi_23_K : Nat × (List zt_A × List zt_C × List Nat) × zt_W × List zt_O := (3, ([zjr 0, (4, .ofNat 11, .ofNat 0, 0, [])], [], []), [(0, 2, 6)], [(none, [], [], [])])
def zi_23_A : zt_An := [(0, [(([some (zjr 0), some (4, .ofNat 11, .ofNat 0, 0, [])], [], [], []), .ofNat 1, [])]), (28, [(([some (zjr 0), some (4, .ofNat 11, .ofNat 0, 0, [])], [], [], []), .ofNat 0, [])])]
def zi_23_Ks : List (Nat × List zt_K) := [(33, [((1, some 8, true, []), zi_8_K)]), (48, [((2, some 8, true, []), zi_22_K)]), (60, [((2, some 8, true, []), zi_11_K)])]
def zi_23_H : zt_H := ((zo_w3, 3, zo_Sg), (zo_g3, zi_23_K.2.2.1, [0, 1], zo_U), [], (none, zi_23_K.2.2.2, zi_23_K.2.1.1), zi_23_Ks)
theorem zi_23_c : zt_chk zi_23_H (zB_X8_takeWord, [], [28]) 6 zi_23_A 2 (zo_hd, zi_23_K) = true := by decide +kernel
theorem zi_23 (v : Nat) (hd : Nat × Option Nat × Bool × List (Nat × Nat)) : zt_Con zo_Om (zo_Rel v) (hd, zi_23_K) zF_X8_takeWord := zt_con (K := (zo_hd, zi_23_K)) (T := zT_X8_takeWord) (w0 := zo_w3) (G := zo_g3) (zo_UR v) rfl zo_sg rfl rfl rfl (zt_ksok_of (Ks := zi_23_Ks) (zt_k1 rfl (zt_k2 rfl (zi_8 v _) zt_k3) (zt_k1 rfl (zt_k2 rfl (zi_22 v _) zt_k3) (zt_k1 rfl (zt_k2 rfl (zi_11 v _) zt_k3) zt_k0)))) zi_23_c
-- X8_takeAfter T/B
def zi_24_K : Nat × (List zt_A × List zt_C × List Nat) × zt_W × List zt_O := (3, ([zjr 0, (4, .ofNat 11, .ofNat 0, 0, []), zj (.ofNat 0) (.ofNat 0), zj (.ofNat 99) (.ofNat 99)], [], []), [(0, 2, 6)], [(some (zj (.ofNat 0) (.ofNat 99)), [], [], []), (some ((0, .ofNat 0, .ofNat 0, 0, [])), [], [], [])])
def zi_24_A : zt_An := [(0, [(([some (zjr 0), some (4, .ofNat 11, .ofNat 0, 0, []), some (zj (.ofNat 0) (.ofNat 0)), some (zj (.ofNat 99) (.ofNat 99)), none], [], [], []), .ofNat 1, [])]), (47, [(([some (zjr 0), some (4, .ofNat 11, .ofNat 0, 0, []), some (zj (.ofNat 0) (.ofNat 0)), some (zj (.ofNat 99) (.ofNat 99)), some (zj (.negSucc 2147483647) (.ofNat 1000))], [], [((1, 0, 2), .ofNat 0, .ofNat 0), ((1, 0, 4), .ofNat 2, .ofNat 2)], []), .ofNat 0, [])])]
def zi_24_Ks : List (Nat × List zt_K) := [(33, [((1, some 8, true, []), zi_8_K)]), (60, [((2, some 8, true, []), zi_11_K)]), (69, [((2, some 8, true, []), zi_23_K)]), (128, [((1, some 8, true, []), zi_15_K)])]
def zi_24_H : zt_H := ((zo_w3, 3, zo_Sg), (zo_g3, zi_24_K.2.2.1, [0, 1, 2, 3], zo_U), [], ((some .int), zi_24_K.2.2.2, zi_24_K.2.1.1), zi_24_Ks)
theorem zi_24_c : zt_chk zi_24_H (zB_X8_takeAfter, [], [47]) 9 zi_24_A 5 (zo_hd, zi_24_K) = true := by decide +kernel
theorem zi_24 (v : Nat) (hd : Nat × Option Nat × Bool × List (Nat × Nat)) : zt_Con zo_Om (zo_Rel v) (hd, zi_24_K) zF_X8_takeAfter := zt_con (K := (zo_hd, zi_24_K)) (T := zT_X8_takeAfter) (w0 := zo_w3) (G := zo_g3) (zo_UR v) rfl zo_sg rfl rfl rfl (zt_ksok_of (Ks := zi_24_Ks) (zt_k1 rfl (zt_k2 rfl (zi_8 v _) zt_k3) (zt_k1 rfl (zt_k2 rfl (zi_11 v _) zt_k3) (zt_k1 rfl (zt_k2 rfl (zi_23 v _) zt_k3) (zt_k1 rfl (zt_k2 rfl (zi_15 v _) zt_k3) zt_k0))))) zi_24_c
-- X8_isWord T/B
def zi_25_K : Nat × (List zt_A × List zt_C × List Nat) × zt_W × List zt_O := (3, ([zjr 0, (4, .ofNat 12, .ofNat 0, 0, [])], [], []), [], [(some (zj (.ofNat 0) (.ofNat 0)), [], [], []), (some (zj (.ofNat 1) (.ofNat 1)), [], [], [])])
theorem zi_25 (v : Nat) (hd : Nat × Option Nat × Bool × List (Nat × Nat)) : zt_Con zo_Om (zo_Rel v) (hd, zi_25_K) zF_X8_isWord := zh_isWord 12 (by decide) v hd
-- X8_takeWord T/B
def zi_26_K : Nat × (List zt_A × List zt_C × List Nat) × zt_W × List zt_O := (3, ([zjr 0, (4, .ofNat 12, .ofNat 0, 0, [])], [], []), [(0, 2, 6)], [(none, [], [], [])])
def zi_26_A : zt_An := [(0, [(([some (zjr 0), some (4, .ofNat 12, .ofNat 0, 0, [])], [], [], []), .ofNat 1, [])]), (28, [(([some (zjr 0), some (4, .ofNat 12, .ofNat 0, 0, [])], [], [], []), .ofNat 0, [])])]
def zi_26_Ks : List (Nat × List zt_K) := [(33, [((1, some 8, true, []), zi_8_K)]), (48, [((2, some 8, true, []), zi_25_K)]), (60, [((2, some 8, true, []), zi_11_K)])]
def zi_26_H : zt_H := ((zo_w3, 3, zo_Sg), (zo_g3, zi_26_K.2.2.1, [0, 1], zo_U), [], (none, zi_26_K.2.2.2, zi_26_K.2.1.1), zi_26_Ks)
theorem zi_26_c : zt_chk zi_26_H (zB_X8_takeWord, [], [28]) 6 zi_26_A 2 (zo_hd, zi_26_K) = true := by decide +kernel
theorem zi_26 (v : Nat) (hd : Nat × Option Nat × Bool × List (Nat × Nat)) : zt_Con zo_Om (zo_Rel v) (hd, zi_26_K) zF_X8_takeWord := zt_con (K := (zo_hd, zi_26_K)) (T := zT_X8_takeWord) (w0 := zo_w3) (G := zo_g3) (zo_UR v) rfl zo_sg rfl rfl rfl (zt_ksok_of (Ks := zi_26_Ks) (zt_k1 rfl (zt_k2 rfl (zi_8 v _) zt_k3) (zt_k1 rfl (zt_k2 rfl (zi_25 v _) zt_k3) (zt_k1 rfl (zt_k2 rfl (zi_11 v _) zt_k3) zt_k0)))) zi_26_c
-- X8_takeAfter T/B
def zi_27_K : Nat × (List zt_A × List zt_C × List Nat) × zt_W × List zt_O := (3, ([zjr 0, (4, .ofNat 12, .ofNat 0, 0, []), zj (.ofNat 0) (.ofNat 99), zj (.ofNat 99) (.ofNat 99)], [], []), [(0, 2, 6)], [(some (zj (.ofNat 0) (.ofNat 99)), [], [], []), (some ((0, .ofNat 0, .ofNat 0, 0, [])), [], [], [])])
def zi_27_A : zt_An := [(0, [(([some (zjr 0), some (4, .ofNat 12, .ofNat 0, 0, []), some (zj (.ofNat 0) (.ofNat 99)), some (zj (.ofNat 99) (.ofNat 99)), none], [], [], []), .ofNat 1, [])]), (47, [(([some (zjr 0), some (4, .ofNat 12, .ofNat 0, 0, []), some (zj (.ofNat 0) (.ofNat 99)), some (zj (.ofNat 99) (.ofNat 99)), some (zj (.negSucc 2147483647) (.ofNat 1000))], [], [((1, 0, 2), .ofNat 0, .ofNat 0), ((1, 0, 4), .ofNat 2, .ofNat 2)], []), .ofNat 0, [])])]
def zi_27_Ks : List (Nat × List zt_K) := [(33, [((1, some 8, true, []), zi_8_K)]), (60, [((2, some 8, true, []), zi_11_K)]), (69, [((2, some 8, true, []), zi_26_K)]), (128, [((1, some 8, true, []), zi_15_K)])]
def zi_27_H : zt_H := ((zo_w3, 3, zo_Sg), (zo_g3, zi_27_K.2.2.1, [0, 1, 2, 3], zo_U), [], ((some .int), zi_27_K.2.2.2, zi_27_K.2.1.1), zi_27_Ks)
theorem zi_27_c : zt_chk zi_27_H (zB_X8_takeAfter, [], [47]) 9 zi_27_A 5 (zo_hd, zi_27_K) = true := by decide +kernel
theorem zi_27 (v : Nat) (hd : Nat × Option Nat × Bool × List (Nat × Nat)) : zt_Con zo_Om (zo_Rel v) (hd, zi_27_K) zF_X8_takeAfter := zt_con (K := (zo_hd, zi_27_K)) (T := zT_X8_takeAfter) (w0 := zo_w3) (G := zo_g3) (zo_UR v) rfl zo_sg rfl rfl rfl (zt_ksok_of (Ks := zi_27_Ks) (zt_k1 rfl (zt_k2 rfl (zi_8 v _) zt_k3) (zt_k1 rfl (zt_k2 rfl (zi_11 v _) zt_k3) (zt_k1 rfl (zt_k2 rfl (zi_26 v _) zt_k3) (zt_k1 rfl (zt_k2 rfl (zi_15 v _) zt_k3) zt_k0))))) zi_27_c
-- X8_readCaller T/B
def zi_28_K : Nat × (List zt_A × List zt_C × List Nat) × zt_W × List zt_O := (3, ([zjr 0, zjr 2], [], []), [(0, 2, 6), (2, 6, 6), (4, 0, 4), (5, 0, 4), (6, 0, 4), (7, 0, 4), (8, 0, 4)], [(none, [], [], [])])
def zi_28_A : zt_An := [(0, [(([some (zjr 0), some (zjr 2), none], [], [], []), .ofNat 0, [])])]
def zi_28_Ks : List (Nat × List zt_K) := [(60, [((2, some 8, true, []), zi_11_K)]), (69, [((2, some 8, true, []), zi_12_K)]), (75, [((4, some 8, true, []), zi_16_K), ((4, some 8, true, []), zi_19_K), ((4, some 8, true, []), zi_24_K), ((4, some 8, true, []), zi_21_K), ((4, some 8, true, []), zi_27_K)])]
def zi_28_H : zt_H := ((zo_w3, 3, zo_Sg), (zo_g3, zi_28_K.2.2.1, [0, 1], zo_U), [(55, .retAddr 8), (108, .retAddr 9), (112, .retAddr 10), (46, .retAddr 5), (118, .retAddr 11), (123, .retAddr 12)], (none, zi_28_K.2.2.2, zi_28_K.2.1.1), zi_28_Ks)
theorem zi_28_c : zt_chk zi_28_H (zB_X8_readCaller, [], []) 13 zi_28_A 3 (zo_hd, zi_28_K) = true := by decide +kernel
theorem zi_28 (v : Nat) (hd : Nat × Option Nat × Bool × List (Nat × Nat)) : zt_Con zo_Om (zo_Rel v) (hd, zi_28_K) zF_X8_readCaller := zt_con (K := (zo_hd, zi_28_K)) (T := zT_X8_readCaller) (w0 := zo_w3) (G := zo_g3) (zo_UR v) rfl zo_sg rfl rfl rfl (zt_ksok_of (Ks := zi_28_Ks) (zt_k1 rfl (zt_k2 rfl (zi_11 v _) zt_k3) (zt_k1 rfl (zt_k2 rfl (zi_12 v _) zt_k3) (zt_k1 rfl (zt_k2 rfl (zi_16 v _) (zt_k2 rfl (zi_19 v _) (zt_k2 rfl (zi_24 v _) (zt_k2 rfl (zi_21 v _) (zt_k2 rfl (zi_27 v _) zt_k3))))) zt_k0)))) zi_28_c
-- X8_isWord T/B
def zi_29_K : Nat × (List zt_A × List zt_C × List Nat) × zt_W × List zt_O := (3, ([zjr 0, (4, .ofNat 6, .ofNat 0, 0, [])], [], []), [], [(some (zj (.ofNat 0) (.ofNat 0)), [], [], []), (some (zj (.ofNat 1) (.ofNat 1)), [], [], [])])
theorem zi_29 (v : Nat) (hd : Nat × Option Nat × Bool × List (Nat × Nat)) : zt_Con zo_Om (zo_Rel v) (hd, zi_29_K) zF_X8_isWord := zh_isWord 6 (by decide) v hd
-- X8_isWord T/B
def zi_30_K : Nat × (List zt_A × List zt_C × List Nat) × zt_W × List zt_O := (3, ([zjr 0, (4, .ofNat 7, .ofNat 0, 0, [])], [], []), [], [(some (zj (.ofNat 0) (.ofNat 0)), [], [], []), (some (zj (.ofNat 1) (.ofNat 1)), [], [], [])])
theorem zi_30 (v : Nat) (hd : Nat × Option Nat × Bool × List (Nat × Nat)) : zt_Con zo_Om (zo_Rel v) (hd, zi_30_K) zF_X8_isWord := zh_isWord 7 (by decide) v hd
-- X8_takeWord T/B
def zi_31_K : Nat × (List zt_A × List zt_C × List Nat) × zt_W × List zt_O := (3, ([zjr 0, (4, .ofNat 7, .ofNat 0, 0, [])], [], []), [(0, 2, 6)], [(none, [], [], [])])
def zi_31_A : zt_An := [(0, [(([some (zjr 0), some (4, .ofNat 7, .ofNat 0, 0, [])], [], [], []), .ofNat 1, [])]), (28, [(([some (zjr 0), some (4, .ofNat 7, .ofNat 0, 0, [])], [], [], []), .ofNat 0, [])])]
def zi_31_Ks : List (Nat × List zt_K) := [(33, [((1, some 8, true, []), zi_8_K)]), (48, [((2, some 8, true, []), zi_30_K)]), (60, [((2, some 8, true, []), zi_11_K)])]
def zi_31_H : zt_H := ((zo_w3, 3, zo_Sg), (zo_g3, zi_31_K.2.2.1, [0, 1], zo_U), [], (none, zi_31_K.2.2.2, zi_31_K.2.1.1), zi_31_Ks)
theorem zi_31_c : zt_chk zi_31_H (zB_X8_takeWord, [], [28]) 6 zi_31_A 2 (zo_hd, zi_31_K) = true := by decide +kernel
theorem zi_31 (v : Nat) (hd : Nat × Option Nat × Bool × List (Nat × Nat)) : zt_Con zo_Om (zo_Rel v) (hd, zi_31_K) zF_X8_takeWord := zt_con (K := (zo_hd, zi_31_K)) (T := zT_X8_takeWord) (w0 := zo_w3) (G := zo_g3) (zo_UR v) rfl zo_sg rfl rfl rfl (zt_ksok_of (Ks := zi_31_Ks) (zt_k1 rfl (zt_k2 rfl (zi_8 v _) zt_k3) (zt_k1 rfl (zt_k2 rfl (zi_30 v _) zt_k3) (zt_k1 rfl (zt_k2 rfl (zi_11 v _) zt_k3) zt_k0)))) zi_31_c
-- X8_takeAfter T/B
def zi_32_K : Nat × (List zt_A × List zt_C × List Nat) × zt_W × List zt_O := (3, ([zjr 0, (4, .ofNat 7, .ofNat 0, 0, []), zj (.ofNat 0) (.ofNat 0), zj (.ofNat 9) (.ofNat 9)], [], []), [(0, 2, 6)], [(some (zj (.ofNat 0) (.ofNat 9)), [], [], []), (some ((0, .ofNat 0, .ofNat 0, 0, [])), [], [], [])])
def zi_32_A : zt_An := [(0, [(([some (zjr 0), some (4, .ofNat 7, .ofNat 0, 0, []), some (zj (.ofNat 0) (.ofNat 0)), some (zj (.ofNat 9) (.ofNat 9)), none], [], [], []), .ofNat 1, [])]), (47, [(([some (zjr 0), some (4, .ofNat 7, .ofNat 0, 0, []), some (zj (.ofNat 0) (.ofNat 0)), some (zj (.ofNat 9) (.ofNat 9)), some (zj (.negSucc 2147483647) (.ofNat 1000))], [], [((1, 0, 2), .ofNat 0, .ofNat 0), ((1, 0, 4), .ofNat 2, .ofNat 2)], []), .ofNat 0, [])])]
def zi_32_Ks : List (Nat × List zt_K) := [(33, [((1, some 8, true, []), zi_8_K)]), (60, [((2, some 8, true, []), zi_11_K)]), (69, [((2, some 8, true, []), zi_31_K)]), (128, [((1, some 8, true, []), zi_15_K)])]
def zi_32_H : zt_H := ((zo_w3, 3, zo_Sg), (zo_g3, zi_32_K.2.2.1, [0, 1, 2, 3], zo_U), [], ((some .int), zi_32_K.2.2.2, zi_32_K.2.1.1), zi_32_Ks)
theorem zi_32_c : zt_chk zi_32_H (zB_X8_takeAfter, [], [47]) 9 zi_32_A 5 (zo_hd, zi_32_K) = true := by decide +kernel
theorem zi_32 (v : Nat) (hd : Nat × Option Nat × Bool × List (Nat × Nat)) : zt_Con zo_Om (zo_Rel v) (hd, zi_32_K) zF_X8_takeAfter := zt_con (K := (zo_hd, zi_32_K)) (T := zT_X8_takeAfter) (w0 := zo_w3) (G := zo_g3) (zo_UR v) rfl zo_sg rfl rfl rfl (zt_ksok_of (Ks := zi_32_Ks) (zt_k1 rfl (zt_k2 rfl (zi_8 v _) zt_k3) (zt_k1 rfl (zt_k2 rfl (zi_11 v _) zt_k3) (zt_k1 rfl (zt_k2 rfl (zi_31 v _) zt_k3) (zt_k1 rfl (zt_k2 rfl (zi_15 v _) zt_k3) zt_k0))))) zi_32_c
-- X8_takeWord T/B
def zi_33_K : Nat × (List zt_A × List zt_C × List Nat) × zt_W × List zt_O := (3, ([zjr 0, (4, .ofNat 6, .ofNat 0, 0, [])], [], []), [(0, 2, 6)], [(none, [], [], [])])
def zi_33_A : zt_An := [(0, [(([some (zjr 0), some (4, .ofNat 6, .ofNat 0, 0, [])], [], [], []), .ofNat 1, [])]), (28, [(([some (zjr 0), some (4, .ofNat 6, .ofNat 0, 0, [])], [], [], []), .ofNat 0, [])])]
def zi_33_Ks : List (Nat × List zt_K) := [(33, [((1, some 8, true, []), zi_8_K)]), (48, [((2, some 8, true, []), zi_29_K)]), (60, [((2, some 8, true, []), zi_11_K)])]
def zi_33_H : zt_H := ((zo_w3, 3, zo_Sg), (zo_g3, zi_33_K.2.2.1, [0, 1], zo_U), [], (none, zi_33_K.2.2.2, zi_33_K.2.1.1), zi_33_Ks)
theorem zi_33_c : zt_chk zi_33_H (zB_X8_takeWord, [], [28]) 6 zi_33_A 2 (zo_hd, zi_33_K) = true := by decide +kernel
theorem zi_33 (v : Nat) (hd : Nat × Option Nat × Bool × List (Nat × Nat)) : zt_Con zo_Om (zo_Rel v) (hd, zi_33_K) zF_X8_takeWord := zt_con (K := (zo_hd, zi_33_K)) (T := zT_X8_takeWord) (w0 := zo_w3) (G := zo_g3) (zo_UR v) rfl zo_sg rfl rfl rfl (zt_ksok_of (Ks := zi_33_Ks) (zt_k1 rfl (zt_k2 rfl (zi_8 v _) zt_k3) (zt_k1 rfl (zt_k2 rfl (zi_29 v _) zt_k3) (zt_k1 rfl (zt_k2 rfl (zi_11 v _) zt_k3) zt_k0)))) zi_33_c
-- X8_takeAfter T/B
def zi_34_K : Nat × (List zt_A × List zt_C × List Nat) × zt_W × List zt_O := (3, ([zjr 0, (4, .ofNat 6, .ofNat 0, 0, []), zj (.ofNat 0) (.ofNat 0), zj (.ofNat 9) (.ofNat 9)], [], []), [(0, 2, 6)], [(some (zj (.ofNat 0) (.ofNat 9)), [], [], []), (some ((0, .ofNat 0, .ofNat 0, 0, [])), [], [], [])])
def zi_34_A : zt_An := [(0, [(([some (zjr 0), some (4, .ofNat 6, .ofNat 0, 0, []), some (zj (.ofNat 0) (.ofNat 0)), some (zj (.ofNat 9) (.ofNat 9)), none], [], [], []), .ofNat 1, [])]), (47, [(([some (zjr 0), some (4, .ofNat 6, .ofNat 0, 0, []), some (zj (.ofNat 0) (.ofNat 0)), some (zj (.ofNat 9) (.ofNat 9)), some (zj (.negSucc 2147483647) (.ofNat 1000))], [], [((1, 0, 2), .ofNat 0, .ofNat 0), ((1, 0, 4), .ofNat 2, .ofNat 2)], []), .ofNat 0, [])])]
def zi_34_Ks : List (Nat × List zt_K) := [(33, [((1, some 8, true, []), zi_8_K)]), (60, [((2, some 8, true, []), zi_11_K)]), (69, [((2, some 8, true, []), zi_33_K)]), (128, [((1, some 8, true, []), zi_15_K)])]
def zi_34_H : zt_H := ((zo_w3, 3, zo_Sg), (zo_g3, zi_34_K.2.2.1, [0, 1, 2, 3], zo_U), [], ((some .int), zi_34_K.2.2.2, zi_34_K.2.1.1), zi_34_Ks)
theorem zi_34_c : zt_chk zi_34_H (zB_X8_takeAfter, [], [47]) 9 zi_34_A 5 (zo_hd, zi_34_K) = true := by decide +kernel
theorem zi_34 (v : Nat) (hd : Nat × Option Nat × Bool × List (Nat × Nat)) : zt_Con zo_Om (zo_Rel v) (hd, zi_34_K) zF_X8_takeAfter := zt_con (K := (zo_hd, zi_34_K)) (T := zT_X8_takeAfter) (w0 := zo_w3) (G := zo_g3) (zo_UR v) rfl zo_sg rfl rfl rfl (zt_ksok_of (Ks := zi_34_Ks) (zt_k1 rfl (zt_k2 rfl (zi_8 v _) zt_k3) (zt_k1 rfl (zt_k2 rfl (zi_11 v _) zt_k3) (zt_k1 rfl (zt_k2 rfl (zi_33 v _) zt_k3) (zt_k1 rfl (zt_k2 rfl (zi_15 v _) zt_k3) zt_k0))))) zi_34_c
-- X8_readSeat T/B
def zi_35_K : Nat × (List zt_A × List zt_C × List Nat) × zt_W × List zt_O := (3, ([zjr 0, zjr 2], [], []), [(0, 2, 6), (2, 5, 5), (3, 0, 5)], [(none, [], [], [])])
def zi_35_A : zt_An := [(0, [(([some (zjr 0), some (zjr 2), none], [], [], []), .ofNat 1, [])]), (66, [(([some (zjr 0), some (zjr 2), some (0, .ofNat 0, .ofNat 5, 1, [(1, 2, 5, .ofNat 0)])], [], [((1, 2, 5), .ofNat 0, .ofNat 5), ((2, 3, 2), .negSucc 8, .ofNat 9)], []), .ofNat 0, [])])]
def zi_35_Ks : List (Nat × List zt_K) := [(48, [((2, some 8, true, []), zi_29_K)]), (60, [((2, some 8, true, []), zi_11_K)]), (69, [((2, some 8, true, []), zi_20_K)]), (75, [((4, some 8, true, []), zi_32_K), ((4, some 8, true, []), zi_34_K)])]
def zi_35_H : zt_H := ((zo_w3, 3, zo_Sg), (zo_g3, zi_35_K.2.2.1, [0, 1], zo_U), [(46, .retAddr 5), (96, .retAddr 6), (101, .retAddr 7)], (none, zi_35_K.2.2.2, zi_35_K.2.1.1), zi_35_Ks)
theorem zi_35_c : zt_chk zi_35_H (zB_X8_readSeat, [], [66]) 7 zi_35_A 3 (zo_hd, zi_35_K) = true := by decide +kernel
theorem zi_35 (v : Nat) (hd : Nat × Option Nat × Bool × List (Nat × Nat)) : zt_Con zo_Om (zo_Rel v) (hd, zi_35_K) zF_X8_readSeat := zt_con (K := (zo_hd, zi_35_K)) (T := zT_X8_readSeat) (w0 := zo_w3) (G := zo_g3) (zo_UR v) rfl zo_sg rfl rfl rfl (zt_ksok_of (Ks := zi_35_Ks) (zt_k1 rfl (zt_k2 rfl (zi_29 v _) zt_k3) (zt_k1 rfl (zt_k2 rfl (zi_11 v _) zt_k3) (zt_k1 rfl (zt_k2 rfl (zi_20 v _) zt_k3) (zt_k1 rfl (zt_k2 rfl (zi_32 v _) (zt_k2 rfl (zi_34 v _) zt_k3)) zt_k0))))) zi_35_c
-- X8_isWord T/B
def zi_36_K : Nat × (List zt_A × List zt_C × List Nat) × zt_W × List zt_O := (3, ([zjr 0, (4, .ofNat 0, .ofNat 0, 0, [])], [], []), [], [(some (zj (.ofNat 0) (.ofNat 0)), [], [], []), (some (zj (.ofNat 1) (.ofNat 1)), [], [], [])])
theorem zi_36 (v : Nat) (hd : Nat × Option Nat × Bool × List (Nat × Nat)) : zt_Con zo_Om (zo_Rel v) (hd, zi_36_K) zF_X8_isWord := zh_isWord 0 (by decide) v hd
-- X8_takeWord T/B
def zi_37_K : Nat × (List zt_A × List zt_C × List Nat) × zt_W × List zt_O := (3, ([zjr 0, (4, .ofNat 0, .ofNat 0, 0, [])], [], []), [(0, 2, 6)], [(none, [], [], [])])
def zi_37_A : zt_An := [(0, [(([some (zjr 0), some (4, .ofNat 0, .ofNat 0, 0, [])], [], [], []), .ofNat 1, [])]), (28, [(([some (zjr 0), some (4, .ofNat 0, .ofNat 0, 0, [])], [], [], []), .ofNat 0, [])])]
def zi_37_Ks : List (Nat × List zt_K) := [(33, [((1, some 8, true, []), zi_8_K)]), (48, [((2, some 8, true, []), zi_36_K)]), (60, [((2, some 8, true, []), zi_11_K)])]
def zi_37_H : zt_H := ((zo_w3, 3, zo_Sg), (zo_g3, zi_37_K.2.2.1, [0, 1], zo_U), [], (none, zi_37_K.2.2.2, zi_37_K.2.1.1), zi_37_Ks)
theorem zi_37_c : zt_chk zi_37_H (zB_X8_takeWord, [], [28]) 6 zi_37_A 2 (zo_hd, zi_37_K) = true := by decide +kernel
theorem zi_37 (v : Nat) (hd : Nat × Option Nat × Bool × List (Nat × Nat)) : zt_Con zo_Om (zo_Rel v) (hd, zi_37_K) zF_X8_takeWord := zt_con (K := (zo_hd, zi_37_K)) (T := zT_X8_takeWord) (w0 := zo_w3) (G := zo_g3) (zo_UR v) rfl zo_sg rfl rfl rfl (zt_ksok_of (Ks := zi_37_Ks) (zt_k1 rfl (zt_k2 rfl (zi_8 v _) zt_k3) (zt_k1 rfl (zt_k2 rfl (zi_36 v _) zt_k3) (zt_k1 rfl (zt_k2 rfl (zi_11 v _) zt_k3) zt_k0)))) zi_37_c
-- X8_isWord T/B
def zi_38_K : Nat × (List zt_A × List zt_C × List Nat) × zt_W × List zt_O := (3, ([zjr 0, (4, .ofNat 1, .ofNat 0, 0, [])], [], []), [], [(some (zj (.ofNat 0) (.ofNat 0)), [], [], []), (some (zj (.ofNat 1) (.ofNat 1)), [], [], [])])
theorem zi_38 (v : Nat) (hd : Nat × Option Nat × Bool × List (Nat × Nat)) : zt_Con zo_Om (zo_Rel v) (hd, zi_38_K) zF_X8_isWord := zh_isWord 1 (by decide) v hd
-- X8_takeWord T/B
def zi_39_K : Nat × (List zt_A × List zt_C × List Nat) × zt_W × List zt_O := (3, ([zjr 0, (4, .ofNat 1, .ofNat 0, 0, [])], [], []), [(0, 2, 6)], [(none, [], [], [])])
def zi_39_A : zt_An := [(0, [(([some (zjr 0), some (4, .ofNat 1, .ofNat 0, 0, [])], [], [], []), .ofNat 1, [])]), (28, [(([some (zjr 0), some (4, .ofNat 1, .ofNat 0, 0, [])], [], [], []), .ofNat 0, [])])]
def zi_39_Ks : List (Nat × List zt_K) := [(33, [((1, some 8, true, []), zi_8_K)]), (48, [((2, some 8, true, []), zi_38_K)]), (60, [((2, some 8, true, []), zi_11_K)])]
def zi_39_H : zt_H := ((zo_w3, 3, zo_Sg), (zo_g3, zi_39_K.2.2.1, [0, 1], zo_U), [], (none, zi_39_K.2.2.2, zi_39_K.2.1.1), zi_39_Ks)
theorem zi_39_c : zt_chk zi_39_H (zB_X8_takeWord, [], [28]) 6 zi_39_A 2 (zo_hd, zi_39_K) = true := by decide +kernel
theorem zi_39 (v : Nat) (hd : Nat × Option Nat × Bool × List (Nat × Nat)) : zt_Con zo_Om (zo_Rel v) (hd, zi_39_K) zF_X8_takeWord := zt_con (K := (zo_hd, zi_39_K)) (T := zT_X8_takeWord) (w0 := zo_w3) (G := zo_g3) (zo_UR v) rfl zo_sg rfl rfl rfl (zt_ksok_of (Ks := zi_39_Ks) (zt_k1 rfl (zt_k2 rfl (zi_8 v _) zt_k3) (zt_k1 rfl (zt_k2 rfl (zi_38 v _) zt_k3) (zt_k1 rfl (zt_k2 rfl (zi_11 v _) zt_k3) zt_k0)))) zi_39_c
