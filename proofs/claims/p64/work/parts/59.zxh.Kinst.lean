/-! THE CHANCES ARE KEPT RIGHT, call by call (printed by program, wip/abs/regchance.py) -/
-- X9_forgetAnswers
def zi_2000_K : Nat × (List zt_A × List zt_C × List Nat) × zt_W × List zt_O := (1, ([zjr 0], [], []), [(21, 1, 1), (68, 0, 0), (72, 0, 0)], [(none, [], [], [12])])
theorem zi_2000 (v : Nat) (hd : Nat × Option Nat × Bool × List (Nat × Nat)) : zt_Con zo_Om (zo_Rel3 v) (hd, zi_2000_K) zF_X9_forgetAnswers := zcf_fgC v hd
-- X9_bench X
def zi_2001_K : Nat × (List zt_A × List zt_C × List Nat) × zt_W × List zt_O := (1, ([zjr 0], [], [12]), [(1, 0, 7), (2, 0, 5), (3, 0, 4), (4, 0, 4), (5, 0, 4), (6, 0, 4), (7, 0, 4), (8, 0, 40), (9, 0, 40), (10, 0, 40), (11, 0, 7), (12, 0, 5), (13, 0, 4), (14, 0, 4), (15, 0, 4), (16, 0, 4), (17, 0, 4), (21, 1, 1), (51, 1, 6), (68, 0, 0), (72, 0, 0)], [(some (zt_top), [], [], [12])])
def zi_2001_A : zt_An := [(0, [(([some (zjr 0), none], [], [], [12]), .ofNat 0, [])])]
def zi_2001_Ks : List (Nat × List zt_K) := [(98, [((2, some 8, false, [(0, 2), (1, 10)]), zi_52_K)]), (102, [((2, some 0, false, [(0, 10), (1, 10)]), zi_53_K)]), (106, [((1, some 9, true, []), zi_2000_K)])]
def zi_2001_H : zt_H := ((zo_w1, 1, zo_Sg), (zo_g1, zi_2001_K.2.2.1, [0], zo_U3), [], ((some .int), zi_2001_K.2.2.2, zi_2001_K.2.1.1), zi_2001_Ks)
theorem zi_2001_c : zt_chk zi_2001_H (zB_X9_bench, [], []) 6 zi_2001_A 2 (zo_hd, zi_2001_K) = true := by decide +kernel
theorem zi_2001 (v : Nat) (hd : Nat × Option Nat × Bool × List (Nat × Nat)) : zt_Con zo_Om (zo_Rel3 v) (hd, zi_2001_K) zF_X9_bench := zt_con (K := (zo_hd, zi_2001_K)) (T := zT_X9_bench) (w0 := zo_w1) (G := zo_g1) (zo_UR3 v) rfl zo_sg rfl rfl rfl (zt_ksok_of (Ks := zi_2001_Ks) (zt_k1 rfl (zt_k2 rfl (zcf_lift (zi_52 v _) (by decide)) zt_k3) (zt_k1 rfl (zt_k2 rfl (zcf_lift (zi_53 v _) (by decide)) zt_k3) (zt_k1 rfl (zt_k2 rfl (zi_2000 v _) zt_k3) zt_k0)))) zi_2001_c
-- X9_move X
def zi_2002_K : Nat × (List zt_A × List zt_C × List Nat) × zt_W × List zt_O := (1, ([zjr 0, zt_top, zt_top, zt_top], [], [12]), [(1, 7, 7), (8, 0, 40), (9, 0, 40), (10, 0, 40), (21, 1, 1), (22, 7, 9), (23, 0, 4), (24, 0, 4), (25, 0, 4), (26, 0, 4), (27, 0, 4), (28, 0, 4), (29, 0, 5), (30, 0, 304), (31, 0, 304), (68, 0, 0), (72, 0, 0)], [(some (zt_top), [], [], [12])])
def zi_2002_A : zt_An := [(0, [(([some (zjr 0), some zt_top, some zt_top, some zt_top, none], [], [], [12]), .ofNat 1, [])]), (29, [(([some (zjr 0), some zt_top, some zt_top, some zt_top, none], [], [], [12]), .ofNat 0, [])])]
def zi_2002_Ks : List (Nat × List zt_K) := [(106, [((1, some 9, true, []), zi_2000_K)]), (118, [((2, some 0, false, [(0, 10)]), zi_57_K)]), (124, [((2, some 0, false, [(0, 10)]), zi_59_K)]), (142, [((1, none, true, []), zi_61_K)]), (145, [((1, some 9, true, []), zi_78_K)]), (233, [((4, some 0, false, [(0, 10)]), zi_130_K)])]
def zi_2002_H : zt_H := ((zo_w1, 1, zo_Sg), (zo_g1, zi_2002_K.2.2.1, [0, 1, 2, 3], zo_U3), [], ((some .int), zi_2002_K.2.2.2, zi_2002_K.2.1.1), zi_2002_Ks)
theorem zi_2002_c : zt_chk zi_2002_H (zB_X9_move, [], [29]) 12 zi_2002_A 5 (zo_hd, zi_2002_K) = true := by decide +kernel
theorem zi_2002 (v : Nat) (hd : Nat × Option Nat × Bool × List (Nat × Nat)) : zt_Con zo_Om (zo_Rel3 v) (hd, zi_2002_K) zF_X9_move := zt_con (K := (zo_hd, zi_2002_K)) (T := zT_X9_move) (w0 := zo_w1) (G := zo_g1) (zo_UR3 v) rfl zo_sg rfl rfl rfl (zt_ksok_of (Ks := zi_2002_Ks) (zt_k1 rfl (zt_k2 rfl (zi_2000 v _) zt_k3) (zt_k1 rfl (zt_k2 rfl (zcf_lift (zi_57 v _) (by decide)) zt_k3) (zt_k1 rfl (zt_k2 rfl (zcf_lift (zi_59 v _) (by decide)) zt_k3) (zt_k1 rfl (zt_k2 rfl (zcf_lift (zi_61 v _) (by decide)) zt_k3) (zt_k1 rfl (zt_k2 rfl (zcf_lift (zi_78 v _) (by decide)) zt_k3) (zt_k1 rfl (zt_k2 rfl (zcf_lift (zi_130 v _) (by decide)) zt_k3) zt_k0))))))) zi_2002_c
-- X9_forgetAnswers
def zi_2003_K : Nat × (List zt_A × List zt_C × List Nat) × zt_W × List zt_O := (1, ([zjr 0], [((1, 1, 0), .ofNat 1, .ofNat 2147483647)], []), [(21, 1, 1), (68, 0, 0), (72, 0, 0)], [(none, [], [], [12])])
theorem zi_2003 (v : Nat) (hd : Nat × Option Nat × Bool × List (Nat × Nat)) : zt_Con zo_Om (zo_Rel3 v) (hd, zi_2003_K) zF_X9_forgetAnswers := zcf_fgC v hd
-- X9_undo X
def zi_2004_K : Nat × (List zt_A × List zt_C × List Nat) × zt_W × List zt_O := (1, ([zjr 0], [], [12]), [(1, 7, 7), (21, 1, 1), (68, 0, 0), (72, 0, 0)], [(some (zj (.negSucc 4) (.ofNat 40)), [], [], [12])])
def zi_2004_A : zt_An := [(0, [(([some (zjr 0)], [], [], [12]), .ofNat 0, [])])]
def zi_2004_Ks : List (Nat × List zt_K) := [(106, [((1, some 9, true, []), zi_2003_K)]), (156, [((1, some 9, true, []), zi_83_K)])]
def zi_2004_H : zt_H := ((zo_w1, 1, zo_Sg), (zo_g1, zi_2004_K.2.2.1, [0], zo_U3), [], ((some .int), zi_2004_K.2.2.2, zi_2004_K.2.1.1), zi_2004_Ks)
theorem zi_2004_c : zt_chk zi_2004_H (zB_X9_undo, [], []) 6 zi_2004_A 1 (zo_hd, zi_2004_K) = true := by decide +kernel
theorem zi_2004 (v : Nat) (hd : Nat × Option Nat × Bool × List (Nat × Nat)) : zt_Con zo_Om (zo_Rel3 v) (hd, zi_2004_K) zF_X9_undo := zt_con (K := (zo_hd, zi_2004_K)) (T := zT_X9_undo) (w0 := zo_w1) (G := zo_g1) (zo_UR3 v) rfl zo_sg rfl rfl rfl (zt_ksok_of (Ks := zi_2004_Ks) (zt_k1 rfl (zt_k2 rfl (zi_2003 v _) zt_k3) (zt_k1 rfl (zt_k2 rfl (zcf_lift (zi_83 v _) (by decide)) zt_k3) zt_k0))) zi_2004_c
-- X9_anew X
def zi_2005_K : Nat × (List zt_A × List zt_C × List Nat) × zt_W × List zt_O := (1, ([zjr 0], [], [12]), [(1, 7, 7), (21, 1, 1), (68, 0, 0), (72, 0, 0)], [(some (zj (.negSucc 1) (.ofNat 41)), [], [], [12])])
def zi_2005_A : zt_An := [(0, [(([some (zjr 0), none], [], [], [12]), .ofNat 0, [])])]
def zi_2005_Ks : List (Nat × List zt_K) := [(106, [((1, some 9, true, []), zi_2003_K)]), (156, [((1, some 9, true, []), zi_83_K)])]
def zi_2005_H : zt_H := ((zo_w1, 1, zo_Sg), (zo_g1, zi_2005_K.2.2.1, [0], zo_U3), [], ((some .int), zi_2005_K.2.2.2, zi_2005_K.2.1.1), zi_2005_Ks)
theorem zi_2005_c : zt_chk zi_2005_H (zB_X9_anew, [], []) 5 zi_2005_A 2 (zo_hd, zi_2005_K) = true := by decide +kernel
theorem zi_2005 (v : Nat) (hd : Nat × Option Nat × Bool × List (Nat × Nat)) : zt_Con zo_Om (zo_Rel3 v) (hd, zi_2005_K) zF_X9_anew := zt_con (K := (zo_hd, zi_2005_K)) (T := zT_X9_anew) (w0 := zo_w1) (G := zo_g1) (zo_UR3 v) rfl zo_sg rfl rfl rfl (zt_ksok_of (Ks := zi_2005_Ks) (zt_k1 rfl (zt_k2 rfl (zi_2003 v _) zt_k3) (zt_k1 rfl (zt_k2 rfl (zcf_lift (zi_83 v _) (by decide)) zt_k3) zt_k0))) zi_2005_c
-- X9_forgetAnswers
def zi_2006_K : Nat × (List zt_A × List zt_C × List Nat) × zt_W × List zt_O := (1, ([zjr 0], [((1, 1, 0), .ofNat 1, .ofNat 2147483647)], [12]), [(21, 1, 1), (68, 0, 0), (72, 0, 0)], [(none, [], [], [12])])
theorem zi_2006 (v : Nat) (hd : Nat × Option Nat × Bool × List (Nat × Nat)) : zt_Con zo_Om (zo_Rel3 v) (hd, zi_2006_K) zF_X9_forgetAnswers := zcf_fgC v hd
-- X9_rate X
def zi_2007_K : Nat × (List zt_A × List zt_C × List Nat) × zt_W × List zt_O := (1, ([zjr 0, zt_top], [], [12]), [(1, 2, 2), (21, 1, 1), (68, 0, 0), (72, 0, 0)], [(some (zj (.negSucc 4) (.ofNat 99)), [], [], [12])])
def zi_2007_A : zt_An := [(0, [(([some (zjr 0), some zt_top, none], [], [], [12]), .ofNat 1, [])]), (17, [(([some (zjr 0), some zt_top, none], [], [((1, 1, 0), .negSucc 2147483647, .ofNat 2147483647)], [12]), .ofNat 0, [])])]
def zi_2007_Ks : List (Nat × List zt_K) := [(106, [((1, some 9, true, []), zi_2006_K)]), (156, [((1, some 9, true, []), zi_83_K)])]
def zi_2007_H : zt_H := ((zo_w1, 1, zo_Sg), (zo_g1, zi_2007_K.2.2.1, [0, 1], zo_U3), [], ((some .int), zi_2007_K.2.2.2, zi_2007_K.2.1.1), zi_2007_Ks)
theorem zi_2007_c : zt_chk zi_2007_H (zB_X9_rate, [], [17]) 8 zi_2007_A 3 (zo_hd, zi_2007_K) = true := by decide +kernel
theorem zi_2007 (v : Nat) (hd : Nat × Option Nat × Bool × List (Nat × Nat)) : zt_Con zo_Om (zo_Rel3 v) (hd, zi_2007_K) zF_X9_rate := zt_con (K := (zo_hd, zi_2007_K)) (T := zT_X9_rate) (w0 := zo_w1) (G := zo_g1) (zo_UR3 v) rfl zo_sg rfl rfl rfl (zt_ksok_of (Ks := zi_2007_Ks) (zt_k1 rfl (zt_k2 rfl (zi_2006 v _) zt_k3) (zt_k1 rfl (zt_k2 rfl (zcf_lift (zi_83 v _) (by decide)) zt_k3) zt_k0))) zi_2007_c
