/-! WHAT THE METHODS KEEP, printed by program (wip/abs/ztprint.py) -/
-- X9_count X
def zi_240_K : Nat × (List zt_A × List zt_C × List Nat) × zt_W × List zt_O := (1, ([zjr 0, zt_top], [], []), [], [(some (zt_top), [], [], [])])
def zi_240_A : zt_An := [(0, [(([some (zjr 0), some zt_top], [], [], []), .ofNat 0, [])])]
def zi_240_Ks : List (Nat × List zt_K) := [(360, [((1, some 9, true, []), zi_239_K)])]
def zi_240_H : zt_H := ((zo_w1, 1, zo_Sg), (zo_g1, zi_240_K.2.2.1, [0, 1], zo_U), [], ((some .int), zi_240_K.2.2.2, zi_240_K.2.1.1), zi_240_Ks)
theorem zi_240_c : zt_chk zi_240_H (zB_X9_count, [], []) 4 zi_240_A 2 (zo_hd, zi_240_K) = true := by decide +kernel
theorem zi_240 (v : Nat) (hd : Nat × Option Nat × Bool × List (Nat × Nat)) : zt_Con zo_Om (zo_Rel v) (hd, zi_240_K) zF_X9_count := zt_con (K := (zo_hd, zi_240_K)) (T := zT_X9_count) (w0 := zo_w1) (G := zo_g1) (zo_UR v) rfl zo_sg rfl rfl rfl (zt_ksok_of (Ks := zi_240_Ks) (zt_k1 rfl (zt_k2 rfl (zi_239 v _) zt_k3) zt_k0)) zi_240_c
-- J7_fill_d0a16 a_long60_0_0
def zi_241_K : Nat × (List zt_A × List zt_C × List Nat) × zt_W × List zt_O := (21, ([zjr 0, (1, .ofNat 0, .ofNat 0, 1, [])], [], []), [(0, 0, 59)], [(none, [], [], [])])
def zi_241_A : zt_An := [(0, [(([some (zjr 0), some (1, .ofNat 0, .ofNat 0, 1, []), none, none, none], [], [], []), .ofNat 61, [])]), (6, [(([some (zjr 0), some (1, .ofNat 0, .ofNat 0, 1, []), none, some (zj (.ofNat 0) (.ofNat 60)), some (0, .ofNat 60, .ofNat 60, 0, [])], [], [], []), .ofNat 60, [(.negSucc 0, 3)])])]
def zi_241_Ks : List (Nat × List zt_K) := []
def zi_241_H : zt_H := ((zo_w21, 21, zo_Sg), (zo_g21, zi_241_K.2.2.1, [0, 1], zo_U), [], (none, zi_241_K.2.2.2, zi_241_K.2.1.1), zi_241_Ks)
theorem zi_241_c : zt_chk zi_241_H (zB_J7_fill_d0a16, [], [6]) 3 zi_241_A 5 (zo_hd, zi_241_K) = true := by decide +kernel
theorem zi_241 (v : Nat) (hd : Nat × Option Nat × Bool × List (Nat × Nat)) : zt_Con zo_Om (zo_Rel v) (hd, zi_241_K) zF_J7_fill_d0a16 := zt_con (K := (zo_hd, zi_241_K)) (T := zT_J7_fill_d0a16) (w0 := zo_w21) (G := zo_g21) (zo_UR v) rfl zo_sg rfl rfl rfl (zt_ksok_of (Ks := zi_241_Ks) zt_k0) zi_241_c
-- X7_start R
def zi_242_K : Nat × (List zt_A × List zt_C × List Nat) × zt_W × List zt_O := (20, ([zjr 0, zj (.ofNat 0) (.ofNat 3), zj (.ofNat 0) (.ofNat 60)], [], []), [(0, 0, 1), (1, 0, 59)], [(none, [], [], [])])
def zi_242_A : zt_An := [(0, [(([some (zjr 0), some (zj (.ofNat 0) (.ofNat 3)), some (zj (.ofNat 0) (.ofNat 60))], [], [], []), .ofNat 0, [])])]
def zi_242_Ks : List (Nat × List zt_K) := [(22, [((2, none, false, [(0, 1)]), zi_241_K)])]
def zi_242_H : zt_H := ((zo_w20, 20, zo_Sg), (zo_g20, zi_242_K.2.2.1, [0, 1, 2], zo_U), [], (none, zi_242_K.2.2.2, zi_242_K.2.1.1), zi_242_Ks)
theorem zi_242_c : zt_chk zi_242_H (zB_X7_start, [], []) 3 zi_242_A 3 (zo_hd, zi_242_K) = true := by decide +kernel
theorem zi_242 (v : Nat) (hd : Nat × Option Nat × Bool × List (Nat × Nat)) : zt_Con zo_Om (zo_Rel v) (hd, zi_242_K) zF_X7_start := zt_con (K := (zo_hd, zi_242_K)) (T := zT_X7_start) (w0 := zo_w20) (G := zo_g20) (zo_UR v) rfl zo_sg rfl rfl rfl (zt_ksok_of (Ks := zi_242_Ks) (zt_k1 rfl (zt_k2 rfl (zi_241 v _) zt_k3) zt_k0)) zi_242_c
-- X9_row X
def zi_243_K : Nat × (List zt_A × List zt_C × List Nat) × zt_W × List zt_O := (1, ([zjr 0, zt_top, zt_top, zt_top], [], []), [(54, 0, 1), (55, 0, 59), (56, 0, 1), (57, 0, 59), (58, 0, 1), (59, 0, 59), (60, 0, 1), (61, 0, 59)], [(some ((0, .ofNat 0, .ofNat 0, 0, [])), [(1, .ofNat 0, .ofNat 3), (2, .ofNat 0, .ofNat 3), (3, .ofNat 0, .ofNat 60)], [], []), (some (zj (.negSucc 2) (.negSucc 1)), [], [], [])])
def zi_243_A : zt_An := [(0, [(([some (zjr 0), some zt_top, some zt_top, some zt_top, none], [], [], []), .ofNat 1, [])]), (27, [(([some (zjr 0), some (zj (.ofNat 0) (.ofNat 0)), some zt_top, some zt_top, some (zjr 54)], [], [], []), .ofNat 0, []), (([some (zjr 0), some (zj (.ofNat 1) (.ofNat 1)), some zt_top, some zt_top, some (zjr 56)], [], [], []), .ofNat 0, []), (([some (zjr 0), some (zj (.ofNat 2) (.ofNat 2)), some zt_top, some zt_top, some (zjr 58)], [], [], []), .ofNat 0, []), (([some (zjr 0), some (zj (.ofNat 3) (.ofNat 3)), some zt_top, some zt_top, some (zjr 60)], [], [], []), .ofNat 0, []), (([some (zjr 0), some zt_top, some zt_top, some zt_top, some (3, .ofNat 0, .ofNat 0, 0, [])], [], [], []), .ofNat 0, [])])]
def zi_243_Ks : List (Nat × List zt_K) := [(264, [((2, some 9, true, []), zi_158_K)]), (363, [((3, some 7, false, [(0, 2)]), zi_242_K)])]
def zi_243_H : zt_H := ((zo_w1, 1, zo_Sg), (zo_g1, zi_243_K.2.2.1, [0, 1, 2, 3], zo_U), [], ((some .int), zi_243_K.2.2.2, zi_243_K.2.1.1), zi_243_Ks)
theorem zi_243_c : zt_chk zi_243_H (zB_X9_row, [], [27]) 9 zi_243_A 5 (zo_hd, zi_243_K) = true := by decide +kernel
theorem zi_243 (v : Nat) (hd : Nat × Option Nat × Bool × List (Nat × Nat)) : zt_Con zo_Om (zo_Rel v) (hd, zi_243_K) zF_X9_row := zt_con (K := (zo_hd, zi_243_K)) (T := zT_X9_row) (w0 := zo_w1) (G := zo_g1) (zo_UR v) rfl zo_sg rfl rfl rfl (zt_ksok_of (Ks := zi_243_Ks) (zt_k1 rfl (zt_k2 rfl (zi_158 v _) zt_k3) (zt_k1 rfl (zt_k2 rfl (zi_242 v _) zt_k3) zt_k0))) zi_243_c
-- X7_put R
def zi_244_K : Nat × (List zt_A × List zt_C × List Nat) × zt_W × List zt_O := (20, ([zjr 0, zj (.ofNat 0) (.ofNat 59), zt_ltop], [], []), [(1, 0, 59)], [(none, [], [], [])])
def zi_244_A : zt_An := [(0, [(([some (zjr 0), some (zj (.ofNat 0) (.ofNat 59)), some zt_ltop, none], [], [], []), .ofNat 1, [])]), (77, [(([some (zjr 0), some (zj (.ofNat 0) (.ofNat 59)), some zt_ltop, none], [], [((1, 0, 0), .negSucc 0, .ofNat 3)], []), .ofNat 0, [])])]
def zi_244_Ks : List (Nat × List zt_K) := []
def zi_244_H : zt_H := ((zo_w20, 20, zo_Sg), (zo_g20, zi_244_K.2.2.1, [0, 1, 2], zo_U), [], (none, zi_244_K.2.2.2, zi_244_K.2.1.1), zi_244_Ks)
theorem zi_244_c : zt_chk zi_244_H (zB_X7_put, [], [77]) 3 zi_244_A 4 (zo_hd, zi_244_K) = true := by decide +kernel
theorem zi_244 (v : Nat) (hd : Nat × Option Nat × Bool × List (Nat × Nat)) : zt_Con zo_Om (zo_Rel v) (hd, zi_244_K) zF_X7_put := zt_con (K := (zo_hd, zi_244_K)) (T := zT_X7_put) (w0 := zo_w20) (G := zo_g20) (zo_UR v) rfl zo_sg rfl rfl rfl (zt_ksok_of (Ks := zi_244_Ks) zt_k0) zi_244_c
-- X9_write X
def zi_245_K : Nat × (List zt_A × List zt_C × List Nat) × zt_W × List zt_O := (1, ([zjr 0, zt_top, zt_top, zt_ltop], [], []), [(55, 0, 59), (57, 0, 59), (59, 0, 59), (61, 0, 59)], [(some (zj (.negSucc 6) (.negSucc 1)), [], [], []), (some ((0, .ofNat 0, .ofNat 0, 0, [])), [(1, .ofNat 0, .ofNat 3), (2, .ofNat 0, .ofNat 59)], [], [])])
def zi_245_A : zt_An := [(0, [(([some (zjr 0), some zt_top, some zt_top, some zt_ltop, none, none], [], [], []), .ofNat 1, [])]), (39, [(([some (zjr 0), some (zj (.ofNat 0) (.ofNat 0)), some zt_top, some zt_ltop, none, some (zjr 54)], [], [], []), .ofNat 0, []), (([some (zjr 0), some (zj (.ofNat 1) (.ofNat 1)), some zt_top, some zt_ltop, none, some (zjr 56)], [], [], []), .ofNat 0, []), (([some (zjr 0), some (zj (.ofNat 2) (.ofNat 2)), some zt_top, some zt_ltop, none, some (zjr 58)], [], [], []), .ofNat 0, []), (([some (zjr 0), some (zj (.ofNat 3) (.ofNat 3)), some zt_top, some zt_ltop, none, some (zjr 60)], [], [], []), .ofNat 0, [])])]
def zi_245_Ks : List (Nat × List zt_K) := [(264, [((2, some 9, true, []), zi_158_K)]), (367, [((1, some 7, false, [(0, 2)]), zi_238_K)]), (371, [((3, some 7, false, [(0, 2)]), zi_244_K)])]
def zi_245_H : zt_H := ((zo_w1, 1, zo_Sg), (zo_g1, zi_245_K.2.2.1, [0, 1, 2, 3], zo_U), [], ((some .int), zi_245_K.2.2.2, zi_245_K.2.1.1), zi_245_Ks)
theorem zi_245_c : zt_chk zi_245_H (zB_X9_write, [], [39]) 9 zi_245_A 6 (zo_hd, zi_245_K) = true := by decide +kernel
theorem zi_245 (v : Nat) (hd : Nat × Option Nat × Bool × List (Nat × Nat)) : zt_Con zo_Om (zo_Rel v) (hd, zi_245_K) zF_X9_write := zt_con (K := (zo_hd, zi_245_K)) (T := zT_X9_write) (w0 := zo_w1) (G := zo_g1) (zo_UR v) rfl zo_sg rfl rfl rfl (zt_ksok_of (Ks := zi_245_Ks) (zt_k1 rfl (zt_k2 rfl (zi_158 v _) zt_k3) (zt_k1 rfl (zt_k2 rfl (zi_238 v _) zt_k3) (zt_k1 rfl (zt_k2 rfl (zi_244 v _) zt_k3) zt_k0)))) zi_245_c
-- X9_paste X
def zi_246_K : Nat × (List zt_A × List zt_C × List Nat) × zt_W × List zt_O := (1, ([zjr 0, zt_top, zt_top, zt_top, zt_top, zt_top], [], []), [(55, 0, 59), (57, 0, 59), (59, 0, 59), (61, 0, 59)], [(some (zj (.negSucc 7) (.ofNat 0)), [], [], [])])
theorem zi_246 (v : Nat) (hd : Nat × Option Nat × Bool × List (Nat × Nat)) : zt_Con zo_Om (zo_Rel v) (hd, zi_246_K) zF_X9_paste := zh_pasteX v hd
