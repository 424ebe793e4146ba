/-! WHAT CALLS ANSWER OVER BOXES OF THEIR ARGUMENTS (printed by program, wip/abs/reg.py) -/
-- X9_rowAt X
def zi_2000_K : Nat × (List zt_A × List zt_C × List Nat) × zt_W × List zt_O := (1, ([zjr 0, zj (.negSucc 2147483647) (.negSucc 0)], [], []), [], [(some ((3, .ofNat 0, .ofNat 0, 0, [])), [], [], [])])
def zi_2000_A : zt_An := [(0, [(([some (zjr 0), some (zj (.negSucc 2147483647) (.negSucc 0))], [], [], []), .ofNat 2, [])]), (18, [(([some (zjr 0), some (zj (.negSucc 2147483647) (.negSucc 0))], [], [], []), .ofNat 1, [])]), (19, [(([some (zjr 0), some (zj (.negSucc 2147483647) (.negSucc 0))], [(3, .ofNat 0, .ofNat 0, 0, [])], [], []), .ofNat 0, [])])]
def zi_2000_Ks : List (Nat × List zt_K) := []
def zi_2000_H : zt_H := ((zo_w1, 1, zo_Sg), (zo_g1, zi_2000_K.2.2.1, [0, 1], zo_U), [], ((some (.object "WearingBench$Row")), zi_2000_K.2.2.2, zi_2000_K.2.1.1), zi_2000_Ks)
theorem zi_2000_c : zt_chk zi_2000_H (zB_X9_rowAt, [], [18, 19]) 2 zi_2000_A 2 (zo_hd, zi_2000_K) = true := by decide +kernel
theorem zi_2000 (v : Nat) (hd : Nat × Option Nat × Bool × List (Nat × Nat)) : zt_Con zo_Om (zo_Rel v) (hd, zi_2000_K) zF_X9_rowAt := zt_con (K := (zo_hd, zi_2000_K)) (T := zT_X9_rowAt) (w0 := zo_w1) (G := zo_g1) (zo_UR v) rfl zo_sg rfl rfl rfl (zt_ksok_of (Ks := zi_2000_Ks) zt_k0) zi_2000_c
-- X9_row X
def zi_2001_K : Nat × (List zt_A × List zt_C × List Nat) × zt_W × List zt_O := (1, ([zjr 0, zj (.negSucc 2147483647) (.negSucc 0), zt_top, zt_top], [], []), [], [(some ((0, .negSucc 1, .negSucc 1, 0, [])), [], [], [])])
def zi_2001_A : zt_An := [(0, [(([some (zjr 0), some (zj (.negSucc 2147483647) (.negSucc 0)), some zt_top, some zt_top, none], [], [], []), .ofNat 1, [])]), (27, [(([some (zjr 0), some (zj (.negSucc 2147483647) (.negSucc 0)), some zt_top, some zt_top, some (3, .ofNat 0, .ofNat 0, 0, [])], [], [], []), .ofNat 0, [])])]
def zi_2001_Ks : List (Nat × List zt_K) := [(264, [((2, some 9, true, []), zi_2000_K)])]
def zi_2001_H : zt_H := ((zo_w1, 1, zo_Sg), (zo_g1, zi_2001_K.2.2.1, [0, 1, 2, 3], zo_U), [], ((some .int), zi_2001_K.2.2.2, zi_2001_K.2.1.1), zi_2001_Ks)
theorem zi_2001_c : zt_chk zi_2001_H (zB_X9_row, [], [27]) 3 zi_2001_A 5 (zo_hd, zi_2001_K) = true := by decide +kernel
theorem zi_2001 (v : Nat) (hd : Nat × Option Nat × Bool × List (Nat × Nat)) : zt_Con zo_Om (zo_Rel v) (hd, zi_2001_K) zF_X9_row := zt_con (K := (zo_hd, zi_2001_K)) (T := zT_X9_row) (w0 := zo_w1) (G := zo_g1) (zo_UR v) rfl zo_sg rfl rfl rfl (zt_ksok_of (Ks := zi_2001_Ks) (zt_k1 rfl (zt_k2 rfl (zi_2000 v _) zt_k3) zt_k0)) zi_2001_c
-- X9_rowAt X
def zi_2002_K : Nat × (List zt_A × List zt_C × List Nat) × zt_W × List zt_O := (1, ([zjr 0, zj (.ofNat 4) (.ofNat 2147483647)], [], []), [], [(some ((3, .ofNat 0, .ofNat 0, 0, [])), [], [], [])])
def zi_2002_A : zt_An := [(0, [(([some (zjr 0), some (zj (.ofNat 4) (.ofNat 2147483647))], [], [], []), .ofNat 2, [])]), (18, [(([some (zjr 0), some (zj (.ofNat 4) (.ofNat 2147483647))], [], [], []), .ofNat 1, [])]), (19, [(([some (zjr 0), some (zj (.ofNat 4) (.ofNat 2147483647))], [(3, .ofNat 0, .ofNat 0, 0, [])], [], []), .ofNat 0, [])])]
def zi_2002_Ks : List (Nat × List zt_K) := []
def zi_2002_H : zt_H := ((zo_w1, 1, zo_Sg), (zo_g1, zi_2002_K.2.2.1, [0, 1], zo_U), [], ((some (.object "WearingBench$Row")), zi_2002_K.2.2.2, zi_2002_K.2.1.1), zi_2002_Ks)
theorem zi_2002_c : zt_chk zi_2002_H (zB_X9_rowAt, [], [18, 19]) 3 zi_2002_A 2 (zo_hd, zi_2002_K) = true := by decide +kernel
theorem zi_2002 (v : Nat) (hd : Nat × Option Nat × Bool × List (Nat × Nat)) : zt_Con zo_Om (zo_Rel v) (hd, zi_2002_K) zF_X9_rowAt := zt_con (K := (zo_hd, zi_2002_K)) (T := zT_X9_rowAt) (w0 := zo_w1) (G := zo_g1) (zo_UR v) rfl zo_sg rfl rfl rfl (zt_ksok_of (Ks := zi_2002_Ks) zt_k0) zi_2002_c
-- X9_row X
def zi_2003_K : Nat × (List zt_A × List zt_C × List Nat) × zt_W × List zt_O := (1, ([zjr 0, zj (.ofNat 4) (.ofNat 2147483647), zt_top, zt_top], [], []), [], [(some ((0, .negSucc 1, .negSucc 1, 0, [])), [], [], [])])
def zi_2003_A : zt_An := [(0, [(([some (zjr 0), some (zj (.ofNat 4) (.ofNat 2147483647)), some zt_top, some zt_top, none], [], [], []), .ofNat 1, [])]), (27, [(([some (zjr 0), some (zj (.ofNat 4) (.ofNat 2147483647)), some zt_top, some zt_top, some (3, .ofNat 0, .ofNat 0, 0, [])], [], [], []), .ofNat 0, [])])]
def zi_2003_Ks : List (Nat × List zt_K) := [(264, [((2, some 9, true, []), zi_2002_K)])]
def zi_2003_H : zt_H := ((zo_w1, 1, zo_Sg), (zo_g1, zi_2003_K.2.2.1, [0, 1, 2, 3], zo_U), [], ((some .int), zi_2003_K.2.2.2, zi_2003_K.2.1.1), zi_2003_Ks)
theorem zi_2003_c : zt_chk zi_2003_H (zB_X9_row, [], [27]) 3 zi_2003_A 5 (zo_hd, zi_2003_K) = true := by decide +kernel
theorem zi_2003 (v : Nat) (hd : Nat × Option Nat × Bool × List (Nat × Nat)) : zt_Con zo_Om (zo_Rel v) (hd, zi_2003_K) zF_X9_row := zt_con (K := (zo_hd, zi_2003_K)) (T := zT_X9_row) (w0 := zo_w1) (G := zo_g1) (zo_UR v) rfl zo_sg rfl rfl rfl (zt_ksok_of (Ks := zi_2003_Ks) (zt_k1 rfl (zt_k2 rfl (zi_2002 v _) zt_k3) zt_k0)) zi_2003_c
-- X9_rowAt X
def zi_2004_K : Nat × (List zt_A × List zt_C × List Nat) × zt_W × List zt_O := (1, ([zjr 0, zj (.ofNat 0) (.ofNat 3)], [], []), [], [(some (zjr 54), [(1, .ofNat 0, .ofNat 0)], [], []), (some (zjr 56), [(1, .ofNat 1, .ofNat 1)], [], []), (some (zjr 58), [(1, .ofNat 2, .ofNat 2)], [], []), (some (zjr 60), [(1, .ofNat 3, .ofNat 3)], [], [])])
def zi_2004_A : zt_An := [(0, [(([some (zjr 0), some (zj (.ofNat 0) (.ofNat 3))], [], [], []), .ofNat 1, [])]), (19, [(([some (zjr 0), some (zj (.ofNat 0) (.ofNat 0))], [zjr 54], [], []), .ofNat 0, []), (([some (zjr 0), some (zj (.ofNat 1) (.ofNat 1))], [zjr 56], [], []), .ofNat 0, []), (([some (zjr 0), some (zj (.ofNat 2) (.ofNat 2))], [zjr 58], [], []), .ofNat 0, []), (([some (zjr 0), some (zj (.ofNat 3) (.ofNat 3))], [zjr 60], [], []), .ofNat 0, [])])]
def zi_2004_Ks : List (Nat × List zt_K) := []
def zi_2004_H : zt_H := ((zo_w1, 1, zo_Sg), (zo_g1, zi_2004_K.2.2.1, [0, 1], zo_U), [], ((some (.object "WearingBench$Row")), zi_2004_K.2.2.2, zi_2004_K.2.1.1), zi_2004_Ks)
theorem zi_2004_c : zt_chk zi_2004_H (zB_X9_rowAt, [], [18, 19]) 4 zi_2004_A 2 (zo_hd, zi_2004_K) = true := by decide +kernel
theorem zi_2004 (v : Nat) (hd : Nat × Option Nat × Bool × List (Nat × Nat)) : zt_Con zo_Om (zo_Rel v) (hd, zi_2004_K) zF_X9_rowAt := zt_con (K := (zo_hd, zi_2004_K)) (T := zT_X9_rowAt) (w0 := zo_w1) (G := zo_g1) (zo_UR v) rfl zo_sg rfl rfl rfl (zt_ksok_of (Ks := zi_2004_Ks) zt_k0) zi_2004_c
-- X9_row X
def zi_2005_K : Nat × (List zt_A × List zt_C × List Nat) × zt_W × List zt_O := (1, ([zjr 0, zj (.ofNat 0) (.ofNat 3), zj (.negSucc 2147483647) (.negSucc 0), zt_top], [], []), [], [(some ((0, .negSucc 1, .negSucc 1, 0, [])), [], [], [])])
def zi_2005_A : zt_An := [(0, [(([some (zjr 0), some (zj (.ofNat 0) (.ofNat 3)), some (zj (.negSucc 2147483647) (.negSucc 0)), some zt_top, none], [], [], []), .ofNat 1, [])]), (27, [(([some (zjr 0), some (zj (.ofNat 0) (.ofNat 0)), some (zj (.negSucc 2147483647) (.negSucc 0)), some zt_top, some (zjr 54)], [], [], []), .ofNat 0, []), (([some (zjr 0), some (zj (.ofNat 1) (.ofNat 1)), some (zj (.negSucc 2147483647) (.negSucc 0)), some zt_top, some (zjr 56)], [], [], []), .ofNat 0, []), (([some (zjr 0), some (zj (.ofNat 2) (.ofNat 2)), some (zj (.negSucc 2147483647) (.negSucc 0)), some zt_top, some (zjr 58)], [], [], []), .ofNat 0, []), (([some (zjr 0), some (zj (.ofNat 3) (.ofNat 3)), some (zj (.negSucc 2147483647) (.negSucc 0)), some zt_top, some (zjr 60)], [], [], []), .ofNat 0, [])])]
def zi_2005_Ks : List (Nat × List zt_K) := [(264, [((2, some 9, true, []), zi_2004_K)])]
def zi_2005_H : zt_H := ((zo_w1, 1, zo_Sg), (zo_g1, zi_2005_K.2.2.1, [0, 1, 2, 3], zo_U), [], ((some .int), zi_2005_K.2.2.2, zi_2005_K.2.1.1), zi_2005_Ks)
theorem zi_2005_c : zt_chk zi_2005_H (zB_X9_row, [], [27]) 4 zi_2005_A 5 (zo_hd, zi_2005_K) = true := by decide +kernel
theorem zi_2005 (v : Nat) (hd : Nat × Option Nat × Bool × List (Nat × Nat)) : zt_Con zo_Om (zo_Rel v) (hd, zi_2005_K) zF_X9_row := zt_con (K := (zo_hd, zi_2005_K)) (T := zT_X9_row) (w0 := zo_w1) (G := zo_g1) (zo_UR v) rfl zo_sg rfl rfl rfl (zt_ksok_of (Ks := zi_2005_Ks) (zt_k1 rfl (zt_k2 rfl (zi_2004 v _) zt_k3) zt_k0)) zi_2005_c
-- X9_row X
def zi_2006_K : Nat × (List zt_A × List zt_C × List Nat) × zt_W × List zt_O := (1, ([zjr 0, zj (.ofNat 0) (.ofNat 3), zj (.ofNat 4) (.ofNat 2147483647), zt_top], [], []), [], [(some ((0, .negSucc 1, .negSucc 1, 0, [])), [], [], [])])
def zi_2006_A : zt_An := [(0, [(([some (zjr 0), some (zj (.ofNat 0) (.ofNat 3)), some (zj (.ofNat 4) (.ofNat 2147483647)), some zt_top, none], [], [], []), .ofNat 1, [])]), (27, [(([some (zjr 0), some (zj (.ofNat 0) (.ofNat 0)), some (zj (.ofNat 4) (.ofNat 2147483647)), some zt_top, some (zjr 54)], [], [], []), .ofNat 0, []), (([some (zjr 0), some (zj (.ofNat 1) (.ofNat 1)), some (zj (.ofNat 4) (.ofNat 2147483647)), some zt_top, some (zjr 56)], [], [], []), .ofNat 0, []), (([some (zjr 0), some (zj (.ofNat 2) (.ofNat 2)), some (zj (.ofNat 4) (.ofNat 2147483647)), some zt_top, some (zjr 58)], [], [], []), .ofNat 0, []), (([some (zjr 0), some (zj (.ofNat 3) (.ofNat 3)), some (zj (.ofNat 4) (.ofNat 2147483647)), some zt_top, some (zjr 60)], [], [], []), .ofNat 0, [])])]
def zi_2006_Ks : List (Nat × List zt_K) := [(264, [((2, some 9, true, []), zi_2004_K)])]
def zi_2006_H : zt_H := ((zo_w1, 1, zo_Sg), (zo_g1, zi_2006_K.2.2.1, [0, 1, 2, 3], zo_U), [], ((some .int), zi_2006_K.2.2.2, zi_2006_K.2.1.1), zi_2006_Ks)
theorem zi_2006_c : zt_chk zi_2006_H (zB_X9_row, [], [27]) 5 zi_2006_A 5 (zo_hd, zi_2006_K) = true := by decide +kernel
theorem zi_2006 (v : Nat) (hd : Nat × Option Nat × Bool × List (Nat × Nat)) : zt_Con zo_Om (zo_Rel v) (hd, zi_2006_K) zF_X9_row := zt_con (K := (zo_hd, zi_2006_K)) (T := zT_X9_row) (w0 := zo_w1) (G := zo_g1) (zo_UR v) rfl zo_sg rfl rfl rfl (zt_ksok_of (Ks := zi_2006_Ks) (zt_k1 rfl (zt_k2 rfl (zi_2004 v _) zt_k3) zt_k0)) zi_2006_c
-- X9_row X
def zi_2007_K : Nat × (List zt_A × List zt_C × List Nat) × zt_W × List zt_O := (1, ([zjr 0, zj (.ofNat 0) (.ofNat 3), zj (.ofNat 0) (.ofNat 3), zj (.ofNat 61) (.ofNat 2147483647)], [], []), [], [(some ((0, .negSucc 1, .negSucc 1, 0, [])), [], [], [])])
def zi_2007_A : zt_An := [(0, [(([some (zjr 0), some (zj (.ofNat 0) (.ofNat 3)), some (zj (.ofNat 0) (.ofNat 3)), some (zj (.ofNat 61) (.ofNat 2147483647)), none], [], [], []), .ofNat 1, [])]), (27, [(([some (zjr 0), some (zj (.ofNat 0) (.ofNat 0)), some (zj (.ofNat 0) (.ofNat 3)), some (zj (.ofNat 61) (.ofNat 2147483647)), some (zjr 54)], [], [], []), .ofNat 0, []), (([some (zjr 0), some (zj (.ofNat 1) (.ofNat 1)), some (zj (.ofNat 0) (.ofNat 3)), some (zj (.ofNat 61) (.ofNat 2147483647)), some (zjr 56)], [], [], []), .ofNat 0, []), (([some (zjr 0), some (zj (.ofNat 2) (.ofNat 2)), some (zj (.ofNat 0) (.ofNat 3)), some (zj (.ofNat 61) (.ofNat 2147483647)), some (zjr 58)], [], [], []), .ofNat 0, []), (([some (zjr 0), some (zj (.ofNat 3) (.ofNat 3)), some (zj (.ofNat 0) (.ofNat 3)), some (zj (.ofNat 61) (.ofNat 2147483647)), some (zjr 60)], [], [], []), .ofNat 0, [])])]
def zi_2007_Ks : List (Nat × List zt_K) := [(264, [((2, some 9, true, []), zi_2004_K)])]
def zi_2007_H : zt_H := ((zo_w1, 1, zo_Sg), (zo_g1, zi_2007_K.2.2.1, [0, 1, 2, 3], zo_U), [], ((some .int), zi_2007_K.2.2.2, zi_2007_K.2.1.1), zi_2007_Ks)
theorem zi_2007_c : zt_chk zi_2007_H (zB_X9_row, [], [27]) 6 zi_2007_A 5 (zo_hd, zi_2007_K) = true := by decide +kernel
theorem zi_2007 (v : Nat) (hd : Nat × Option Nat × Bool × List (Nat × Nat)) : zt_Con zo_Om (zo_Rel v) (hd, zi_2007_K) zF_X9_row := zt_con (K := (zo_hd, zi_2007_K)) (T := zT_X9_row) (w0 := zo_w1) (G := zo_g1) (zo_UR v) rfl zo_sg rfl rfl rfl (zt_ksok_of (Ks := zi_2007_Ks) (zt_k1 rfl (zt_k2 rfl (zi_2004 v _) zt_k3) zt_k0)) zi_2007_c
-- X9_row X
def zi_2008_K : Nat × (List zt_A × List zt_C × List Nat) × zt_W × List zt_O := (1, ([zjr 0, zj (.ofNat 0) (.ofNat 3), zj (.ofNat 0) (.ofNat 3), zj (.negSucc 2147483647) (.negSucc 0)], [], []), [], [(some ((0, .negSucc 2, .negSucc 2, 0, [])), [], [], [])])
def zi_2008_A : zt_An := [(0, [(([some (zjr 0), some (zj (.ofNat 0) (.ofNat 3)), some (zj (.ofNat 0) (.ofNat 3)), some (zj (.negSucc 2147483647) (.negSucc 0)), none], [], [], []), .ofNat 0, [])])]
def zi_2008_Ks : List (Nat × List zt_K) := [(264, [((2, some 9, true, []), zi_2004_K)])]
def zi_2008_H : zt_H := ((zo_w1, 1, zo_Sg), (zo_g1, zi_2008_K.2.2.1, [0, 1, 2, 3], zo_U), [], ((some .int), zi_2008_K.2.2.2, zi_2008_K.2.1.1), zi_2008_Ks)
theorem zi_2008_c : zt_chk zi_2008_H (zB_X9_row, [], [27]) 8 zi_2008_A 5 (zo_hd, zi_2008_K) = true := by decide +kernel
theorem zi_2008 (v : Nat) (hd : Nat × Option Nat × Bool × List (Nat × Nat)) : zt_Con zo_Om (zo_Rel v) (hd, zi_2008_K) zF_X9_row := zt_con (K := (zo_hd, zi_2008_K)) (T := zT_X9_row) (w0 := zo_w1) (G := zo_g1) (zo_UR v) rfl zo_sg rfl rfl rfl (zt_ksok_of (Ks := zi_2008_Ks) (zt_k1 rfl (zt_k2 rfl (zi_2004 v _) zt_k3) zt_k0)) zi_2008_c
-- X9_row X
def zi_2009_K : Nat × (List zt_A × List zt_C × List Nat) × zt_W × List zt_O := (1, ([zjr 0, zj (.ofNat 0) (.ofNat 3), zj (.ofNat 0) (.ofNat 3), zj (.ofNat 0) (.ofNat 60)], [], []), [(54, 0, 1), (55, 0, 59), (56, 0, 1), (57, 0, 59), (58, 0, 1), (59, 0, 59), (60, 0, 1), (61, 0, 59)], [(some ((0, .ofNat 0, .ofNat 0, 0, [])), [], [], [])])
def zi_2009_A : zt_An := [(0, [(([some (zjr 0), some (zj (.ofNat 0) (.ofNat 3)), some (zj (.ofNat 0) (.ofNat 3)), some (zj (.ofNat 0) (.ofNat 60)), none], [], [], []), .ofNat 0, [])])]
def zi_2009_Ks : List (Nat × List zt_K) := [(264, [((2, some 9, true, []), zi_2004_K)]), (363, [((3, some 7, false, [(0, 2)]), zi_242_K)])]
def zi_2009_H : zt_H := ((zo_w1, 1, zo_Sg), (zo_g1, zi_2009_K.2.2.1, [0, 1, 2, 3], zo_U), [], ((some .int), zi_2009_K.2.2.2, zi_2009_K.2.1.1), zi_2009_Ks)
theorem zi_2009_c : zt_chk zi_2009_H (zB_X9_row, [], [27]) 9 zi_2009_A 5 (zo_hd, zi_2009_K) = true := by decide +kernel
theorem zi_2009 (v : Nat) (hd : Nat × Option Nat × Bool × List (Nat × Nat)) : zt_Con zo_Om (zo_Rel v) (hd, zi_2009_K) zF_X9_row := zt_con (K := (zo_hd, zi_2009_K)) (T := zT_X9_row) (w0 := zo_w1) (G := zo_g1) (zo_UR v) rfl zo_sg rfl rfl rfl (zt_ksok_of (Ks := zi_2009_Ks) (zt_k1 rfl (zt_k2 rfl (zi_2004 v _) zt_k3) (zt_k1 rfl (zt_k2 rfl (zi_242 v _) zt_k3) zt_k0))) zi_2009_c
-- X10_in M
def zi_2010_K : Nat × (List zt_A × List zt_C × List Nat) × zt_W × List zt_O := (22, ([(1, .negSucc 2147483647, .negSucc 0, 1, []), (1, .ofNat 0, .ofNat 0, 1, []), (1, .ofNat 3, .ofNat 3, 1, [])], [], []), [], [(some ((0, .ofNat 0, .ofNat 0, 0, [])), [], [], [])])
def zi_2010_A : zt_An := [(0, [(([some (1, .negSucc 2147483647, .negSucc 0, 1, []), none, some (1, .ofNat 0, .ofNat 0, 1, []), none, some (1, .ofNat 3, .ofNat 3, 1, []), none], [], [], []), .ofNat 2, [])]), (17, [(([some (1, .negSucc 2147483647, .negSucc 0, 1, []), none, some (1, .ofNat 0, .ofNat 0, 1, []), none, some (1, .ofNat 3, .ofNat 3, 1, []), none], [], [], []), .ofNat 1, [])]), (18, [(([some (1, .negSucc 2147483647, .negSucc 0, 1, []), none, some (1, .ofNat 0, .ofNat 0, 1, []), none, some (1, .ofNat 3, .ofNat 3, 1, []), none], [(0, .ofNat 0, .ofNat 0, 0, [])], [], []), .ofNat 0, [])])]
def zi_2010_Ks : List (Nat × List zt_K) := []
def zi_2010_H : zt_H := ((zo_w22, 22, zo_Sg), (zo_g22, zi_2010_K.2.2.1, [0, 2, 4], zo_U), [], ((some .boolean), zi_2010_K.2.2.2, zi_2010_K.2.1.1), zi_2010_Ks)
theorem zi_2010_c : zt_chk zi_2010_H (zB_X10_in, [], [17, 18]) 2 zi_2010_A 6 (zo_hd, zi_2010_K) = true := by decide +kernel
theorem zi_2010 (v : Nat) (hd : Nat × Option Nat × Bool × List (Nat × Nat)) : zt_Con zo_Om (zo_Rel v) (hd, zi_2010_K) zF_X10_in := zt_con (K := (zo_hd, zi_2010_K)) (T := zT_X10_in) (w0 := zo_w22) (G := zo_g22) (zo_UR v) rfl zo_sg rfl rfl rfl (zt_ksok_of (Ks := zi_2010_Ks) zt_k0) zi_2010_c
-- X10_isSlot M
def zi_2011_K : Nat × (List zt_A × List zt_C × List Nat) × zt_W × List zt_O := (22, ([zj (.negSucc 2147483647) (.negSucc 0)], [], []), [], [(some ((0, .ofNat 0, .ofNat 0, 0, [])), [], [], [])])
def zi_2011_A : zt_An := [(0, [(([some (zj (.negSucc 2147483647) (.negSucc 0))], [], [], []), .ofNat 0, [])])]
def zi_2011_Ks : List (Nat × List zt_K) := [(112, [((3, none, true, []), zi_2010_K)])]
def zi_2011_H : zt_H := ((zo_w22, 22, zo_Sg), (zo_g22, zi_2011_K.2.2.1, [0], zo_U), [(110, .long (3))], ((some .boolean), zi_2011_K.2.2.2, zi_2011_K.2.1.1), zi_2011_Ks)
theorem zi_2011_c : zt_chk zi_2011_H (zB_X10_isSlot, [], []) 3 zi_2011_A 1 (zo_hd, zi_2011_K) = true := by decide +kernel
theorem zi_2011 (v : Nat) (hd : Nat × Option Nat × Bool × List (Nat × Nat)) : zt_Con zo_Om (zo_Rel v) (hd, zi_2011_K) zF_X10_isSlot := zt_con (K := (zo_hd, zi_2011_K)) (T := zT_X10_isSlot) (w0 := zo_w22) (G := zo_g22) (zo_UR v) rfl zo_sg rfl rfl rfl (zt_ksok_of (Ks := zi_2011_Ks) (zt_k1 rfl (zt_k2 rfl (zi_2010 v _) zt_k3) zt_k0)) zi_2011_c
-- X10_row M
def zi_2012_K : Nat × (List zt_A × List zt_C × List Nat) × zt_W × List zt_O := (22, ([zjr 0, zj (.negSucc 2147483647) (.negSucc 0), zt_top, zt_top], [], []), [(0, 0, 0)], [(some ((0, .negSucc 1, .negSucc 1, 0, [])), [], [], [])])
def zi_2012_A : zt_An := [(0, [(([some (zjr 0), some (zj (.negSucc 2147483647) (.negSucc 0)), some zt_top, some zt_top, none], [], [], []), .ofNat 1, [])]), (30, [(([some (zjr 0), some (zj (.negSucc 2147483647) (.negSucc 0)), some zt_top, some zt_top, none], [], [((1, 0, 0), .ofNat 0, .ofNat 0)], []), .ofNat 0, [])])]
def zi_2012_Ks : List (Nat × List zt_K) := [(116, [((1, none, true, []), zi_2011_K)])]
def zi_2012_H : zt_H := ((zo_w22, 22, zo_Sg), (zo_g22, zi_2012_K.2.2.1, [0, 1, 2, 3], zo_U), [(110, .long (3))], ((some .int), zi_2012_K.2.2.2, zi_2012_K.2.1.1), zi_2012_Ks)
theorem zi_2012_c : zt_chk zi_2012_H (zB_X10_row, [], [30, 57]) 3 zi_2012_A 5 (zo_hd, zi_2012_K) = true := by decide +kernel
theorem zi_2012 (v : Nat) (hd : Nat × Option Nat × Bool × List (Nat × Nat)) : zt_Con zo_Om (zo_Rel v) (hd, zi_2012_K) zF_X10_row := zt_con (K := (zo_hd, zi_2012_K)) (T := zT_X10_row) (w0 := zo_w22) (G := zo_g22) (zo_UR v) rfl zo_sg rfl rfl rfl (zt_ksok_of (Ks := zi_2012_Ks) (zt_k1 rfl (zt_k2 rfl (zi_2011 v _) zt_k3) zt_k0)) zi_2012_c
-- X10_in M
def zi_2013_K : Nat × (List zt_A × List zt_C × List Nat) × zt_W × List zt_O := (22, ([(1, .ofNat 4, .ofNat 2147483647, 1, []), (1, .ofNat 0, .ofNat 0, 1, []), (1, .ofNat 3, .ofNat 3, 1, [])], [], []), [], [(some ((0, .ofNat 0, .ofNat 0, 0, [])), [], [], [])])
def zi_2013_A : zt_An := [(0, [(([some (1, .ofNat 4, .ofNat 2147483647, 1, []), none, some (1, .ofNat 0, .ofNat 0, 1, []), none, some (1, .ofNat 3, .ofNat 3, 1, []), none], [], [], []), .ofNat 2, [])]), (17, [(([some (1, .ofNat 4, .ofNat 2147483647, 1, []), none, some (1, .ofNat 0, .ofNat 0, 1, []), none, some (1, .ofNat 3, .ofNat 3, 1, []), none], [], [], []), .ofNat 1, [])]), (18, [(([some (1, .ofNat 4, .ofNat 2147483647, 1, []), none, some (1, .ofNat 0, .ofNat 0, 1, []), none, some (1, .ofNat 3, .ofNat 3, 1, []), none], [(0, .ofNat 0, .ofNat 0, 0, [])], [], []), .ofNat 0, [])])]
def zi_2013_Ks : List (Nat × List zt_K) := []
def zi_2013_H : zt_H := ((zo_w22, 22, zo_Sg), (zo_g22, zi_2013_K.2.2.1, [0, 2, 4], zo_U), [], ((some .boolean), zi_2013_K.2.2.2, zi_2013_K.2.1.1), zi_2013_Ks)
theorem zi_2013_c : zt_chk zi_2013_H (zB_X10_in, [], [17, 18]) 3 zi_2013_A 6 (zo_hd, zi_2013_K) = true := by decide +kernel
theorem zi_2013 (v : Nat) (hd : Nat × Option Nat × Bool × List (Nat × Nat)) : zt_Con zo_Om (zo_Rel v) (hd, zi_2013_K) zF_X10_in := zt_con (K := (zo_hd, zi_2013_K)) (T := zT_X10_in) (w0 := zo_w22) (G := zo_g22) (zo_UR v) rfl zo_sg rfl rfl rfl (zt_ksok_of (Ks := zi_2013_Ks) zt_k0) zi_2013_c
-- X10_isSlot M
def zi_2014_K : Nat × (List zt_A × List zt_C × List Nat) × zt_W × List zt_O := (22, ([zj (.ofNat 4) (.ofNat 2147483647)], [], []), [], [(some ((0, .ofNat 0, .ofNat 0, 0, [])), [], [], [])])
def zi_2014_A : zt_An := [(0, [(([some (zj (.ofNat 4) (.ofNat 2147483647))], [], [], []), .ofNat 0, [])])]
def zi_2014_Ks : List (Nat × List zt_K) := [(112, [((3, none, true, []), zi_2013_K)])]
def zi_2014_H : zt_H := ((zo_w22, 22, zo_Sg), (zo_g22, zi_2014_K.2.2.1, [0], zo_U), [(110, .long (3))], ((some .boolean), zi_2014_K.2.2.2, zi_2014_K.2.1.1), zi_2014_Ks)
theorem zi_2014_c : zt_chk zi_2014_H (zB_X10_isSlot, [], []) 3 zi_2014_A 1 (zo_hd, zi_2014_K) = true := by decide +kernel
theorem zi_2014 (v : Nat) (hd : Nat × Option Nat × Bool × List (Nat × Nat)) : zt_Con zo_Om (zo_Rel v) (hd, zi_2014_K) zF_X10_isSlot := zt_con (K := (zo_hd, zi_2014_K)) (T := zT_X10_isSlot) (w0 := zo_w22) (G := zo_g22) (zo_UR v) rfl zo_sg rfl rfl rfl (zt_ksok_of (Ks := zi_2014_Ks) (zt_k1 rfl (zt_k2 rfl (zi_2013 v _) zt_k3) zt_k0)) zi_2014_c
-- X10_row M
def zi_2015_K : Nat × (List zt_A × List zt_C × List Nat) × zt_W × List zt_O := (22, ([zjr 0, zj (.ofNat 4) (.ofNat 2147483647), zt_top, zt_top], [], []), [(0, 0, 0)], [(some ((0, .negSucc 1, .negSucc 1, 0, [])), [], [], [])])
def zi_2015_A : zt_An := [(0, [(([some (zjr 0), some (zj (.ofNat 4) (.ofNat 2147483647)), some zt_top, some zt_top, none], [], [], []), .ofNat 1, [])]), (30, [(([some (zjr 0), some (zj (.ofNat 4) (.ofNat 2147483647)), some zt_top, some zt_top, none], [], [((1, 0, 0), .ofNat 0, .ofNat 0)], []), .ofNat 0, [])])]
def zi_2015_Ks : List (Nat × List zt_K) := [(116, [((1, none, true, []), zi_2014_K)])]
def zi_2015_H : zt_H := ((zo_w22, 22, zo_Sg), (zo_g22, zi_2015_K.2.2.1, [0, 1, 2, 3], zo_U), [(110, .long (3))], ((some .int), zi_2015_K.2.2.2, zi_2015_K.2.1.1), zi_2015_Ks)
theorem zi_2015_c : zt_chk zi_2015_H (zB_X10_row, [], [30, 57]) 3 zi_2015_A 5 (zo_hd, zi_2015_K) = true := by decide +kernel
theorem zi_2015 (v : Nat) (hd : Nat × Option Nat × Bool × List (Nat × Nat)) : zt_Con zo_Om (zo_Rel v) (hd, zi_2015_K) zF_X10_row := zt_con (K := (zo_hd, zi_2015_K)) (T := zT_X10_row) (w0 := zo_w22) (G := zo_g22) (zo_UR v) rfl zo_sg rfl rfl rfl (zt_ksok_of (Ks := zi_2015_Ks) (zt_k1 rfl (zt_k2 rfl (zi_2014 v _) zt_k3) zt_k0)) zi_2015_c
-- X10_in M
def zi_2016_K : Nat × (List zt_A × List zt_C × List Nat) × zt_W × List zt_O := (22, ([(1, .ofNat 0, .ofNat 3, 1, []), (1, .ofNat 0, .ofNat 0, 1, []), (1, .ofNat 3, .ofNat 3, 1, [])], [], []), [], [(some ((0, .ofNat 1, .ofNat 1, 0, [])), [], [], [])])
def zi_2016_A : zt_An := [(0, [(([some (1, .ofNat 0, .ofNat 3, 1, []), none, some (1, .ofNat 0, .ofNat 0, 1, []), none, some (1, .ofNat 3, .ofNat 3, 1, []), none], [], [], []), .ofNat 1, [])]), (18, [(([some (1, .ofNat 0, .ofNat 3, 1, []), none, some (1, .ofNat 0, .ofNat 0, 1, []), none, some (1, .ofNat 3, .ofNat 3, 1, []), none], [(0, .ofNat 1, .ofNat 1, 0, [])], [], []), .ofNat 0, [])])]
def zi_2016_Ks : List (Nat × List zt_K) := []
def zi_2016_H : zt_H := ((zo_w22, 22, zo_Sg), (zo_g22, zi_2016_K.2.2.1, [0, 2, 4], zo_U), [], ((some .boolean), zi_2016_K.2.2.2, zi_2016_K.2.1.1), zi_2016_Ks)
theorem zi_2016_c : zt_chk zi_2016_H (zB_X10_in, [], [17, 18]) 4 zi_2016_A 6 (zo_hd, zi_2016_K) = true := by decide +kernel
theorem zi_2016 (v : Nat) (hd : Nat × Option Nat × Bool × List (Nat × Nat)) : zt_Con zo_Om (zo_Rel v) (hd, zi_2016_K) zF_X10_in := zt_con (K := (zo_hd, zi_2016_K)) (T := zT_X10_in) (w0 := zo_w22) (G := zo_g22) (zo_UR v) rfl zo_sg rfl rfl rfl (zt_ksok_of (Ks := zi_2016_Ks) zt_k0) zi_2016_c
-- X10_isSlot M
def zi_2017_K : Nat × (List zt_A × List zt_C × List Nat) × zt_W × List zt_O := (22, ([zj (.ofNat 0) (.ofNat 3)], [], []), [], [(some ((0, .ofNat 1, .ofNat 1, 0, [])), [], [], [])])
def zi_2017_A : zt_An := [(0, [(([some (zj (.ofNat 0) (.ofNat 3))], [], [], []), .ofNat 0, [])])]
def zi_2017_Ks : List (Nat × List zt_K) := [(112, [((3, none, true, []), zi_2016_K)])]
def zi_2017_H : zt_H := ((zo_w22, 22, zo_Sg), (zo_g22, zi_2017_K.2.2.1, [0], zo_U), [(110, .long (3))], ((some .boolean), zi_2017_K.2.2.2, zi_2017_K.2.1.1), zi_2017_Ks)
theorem zi_2017_c : zt_chk zi_2017_H (zB_X10_isSlot, [], []) 3 zi_2017_A 1 (zo_hd, zi_2017_K) = true := by decide +kernel
theorem zi_2017 (v : Nat) (hd : Nat × Option Nat × Bool × List (Nat × Nat)) : zt_Con zo_Om (zo_Rel v) (hd, zi_2017_K) zF_X10_isSlot := zt_con (K := (zo_hd, zi_2017_K)) (T := zT_X10_isSlot) (w0 := zo_w22) (G := zo_g22) (zo_UR v) rfl zo_sg rfl rfl rfl (zt_ksok_of (Ks := zi_2017_Ks) (zt_k1 rfl (zt_k2 rfl (zi_2016 v _) zt_k3) zt_k0)) zi_2017_c
-- X10_row M
def zi_2018_K : Nat × (List zt_A × List zt_C × List Nat) × zt_W × List zt_O := (22, ([zjr 0, zj (.ofNat 0) (.ofNat 3), zj (.negSucc 2147483647) (.negSucc 0), zt_top], [], []), [(0, 0, 0)], [(some ((0, .negSucc 1, .negSucc 1, 0, [])), [], [], [])])
def zi_2018_A : zt_An := [(0, [(([some (zjr 0), some (zj (.ofNat 0) (.ofNat 3)), some (zj (.negSucc 2147483647) (.negSucc 0)), some zt_top, none], [], [], []), .ofNat 1, [])]), (30, [(([some (zjr 0), some (zj (.ofNat 0) (.ofNat 3)), some (zj (.negSucc 2147483647) (.negSucc 0)), some zt_top, none], [], [((1, 0, 0), .ofNat 0, .ofNat 0)], []), .ofNat 0, [])])]
def zi_2018_Ks : List (Nat × List zt_K) := [(112, [((3, none, true, []), zi_2010_K)]), (116, [((1, none, true, []), zi_2017_K)])]
def zi_2018_H : zt_H := ((zo_w22, 22, zo_Sg), (zo_g22, zi_2018_K.2.2.1, [0, 1, 2, 3], zo_U), [(110, .long (3))], ((some .int), zi_2018_K.2.2.2, zi_2018_K.2.1.1), zi_2018_Ks)
theorem zi_2018_c : zt_chk zi_2018_H (zB_X10_row, [], [30, 57]) 5 zi_2018_A 5 (zo_hd, zi_2018_K) = true := by decide +kernel
theorem zi_2018 (v : Nat) (hd : Nat × Option Nat × Bool × List (Nat × Nat)) : zt_Con zo_Om (zo_Rel v) (hd, zi_2018_K) zF_X10_row := zt_con (K := (zo_hd, zi_2018_K)) (T := zT_X10_row) (w0 := zo_w22) (G := zo_g22) (zo_UR v) rfl zo_sg rfl rfl rfl (zt_ksok_of (Ks := zi_2018_Ks) (zt_k1 rfl (zt_k2 rfl (zi_2010 v _) zt_k3) (zt_k1 rfl (zt_k2 rfl (zi_2017 v _) zt_k3) zt_k0))) zi_2018_c
-- X10_row M
def zi_2019_K : Nat × (List zt_A × List zt_C × List Nat) × zt_W × List zt_O := (22, ([zjr 0, zj (.ofNat 0) (.ofNat 3), zj (.ofNat 4) (.ofNat 2147483647), zt_top], [], []), [(0, 0, 0)], [(some ((0, .negSucc 1, .negSucc 1, 0, [])), [], [], [])])
def zi_2019_A : zt_An := [(0, [(([some (zjr 0), some (zj (.ofNat 0) (.ofNat 3)), some (zj (.ofNat 4) (.ofNat 2147483647)), some zt_top, none], [], [], []), .ofNat 1, [])]), (30, [(([some (zjr 0), some (zj (.ofNat 0) (.ofNat 3)), some (zj (.ofNat 4) (.ofNat 2147483647)), some zt_top, none], [], [((1, 0, 0), .ofNat 0, .ofNat 0)], []), .ofNat 0, [])])]
def zi_2019_Ks : List (Nat × List zt_K) := [(112, [((3, none, true, []), zi_2013_K)]), (116, [((1, none, true, []), zi_2017_K)])]
def zi_2019_H : zt_H := ((zo_w22, 22, zo_Sg), (zo_g22, zi_2019_K.2.2.1, [0, 1, 2, 3], zo_U), [(110, .long (3))], ((some .int), zi_2019_K.2.2.2, zi_2019_K.2.1.1), zi_2019_Ks)
theorem zi_2019_c : zt_chk zi_2019_H (zB_X10_row, [], [30, 57]) 5 zi_2019_A 5 (zo_hd, zi_2019_K) = true := by decide +kernel
theorem zi_2019 (v : Nat) (hd : Nat × Option Nat × Bool × List (Nat × Nat)) : zt_Con zo_Om (zo_Rel v) (hd, zi_2019_K) zF_X10_row := zt_con (K := (zo_hd, zi_2019_K)) (T := zT_X10_row) (w0 := zo_w22) (G := zo_g22) (zo_UR v) rfl zo_sg rfl rfl rfl (zt_ksok_of (Ks := zi_2019_Ks) (zt_k1 rfl (zt_k2 rfl (zi_2013 v _) zt_k3) (zt_k1 rfl (zt_k2 rfl (zi_2017 v _) zt_k3) zt_k0))) zi_2019_c
-- X10_row M
def zi_2020_K : Nat × (List zt_A × List zt_C × List Nat) × zt_W × List zt_O := (22, ([zjr 0, zj (.ofNat 0) (.ofNat 3), zj (.ofNat 0) (.ofNat 3), zj (.ofNat 61) (.ofNat 2147483647)], [], []), [(0, 0, 0)], [(some ((0, .negSucc 1, .negSucc 1, 0, [])), [], [], [])])
def zi_2020_A : zt_An := [(0, [(([some (zjr 0), some (zj (.ofNat 0) (.ofNat 3)), some (zj (.ofNat 0) (.ofNat 3)), some (zj (.ofNat 61) (.ofNat 2147483647)), none], [], [], []), .ofNat 1, [])]), (30, [(([some (zjr 0), some (zj (.ofNat 0) (.ofNat 3)), some (zj (.ofNat 0) (.ofNat 3)), some (zj (.ofNat 61) (.ofNat 2147483647)), none], [], [((1, 0, 0), .ofNat 0, .ofNat 0)], []), .ofNat 0, [])])]
def zi_2020_Ks : List (Nat × List zt_K) := [(112, [((3, none, true, []), zi_2016_K)]), (116, [((1, none, true, []), zi_2017_K)])]
def zi_2020_H : zt_H := ((zo_w22, 22, zo_Sg), (zo_g22, zi_2020_K.2.2.1, [0, 1, 2, 3], zo_U), [(110, .long (3))], ((some .int), zi_2020_K.2.2.2, zi_2020_K.2.1.1), zi_2020_Ks)
theorem zi_2020_c : zt_chk zi_2020_H (zB_X10_row, [], [30, 57]) 6 zi_2020_A 5 (zo_hd, zi_2020_K) = true := by decide +kernel
theorem zi_2020 (v : Nat) (hd : Nat × Option Nat × Bool × List (Nat × Nat)) : zt_Con zo_Om (zo_Rel v) (hd, zi_2020_K) zF_X10_row := zt_con (K := (zo_hd, zi_2020_K)) (T := zT_X10_row) (w0 := zo_w22) (G := zo_g22) (zo_UR v) rfl zo_sg rfl rfl rfl (zt_ksok_of (Ks := zi_2020_Ks) (zt_k1 rfl (zt_k2 rfl (zi_2016 v _) zt_k3) (zt_k1 rfl (zt_k2 rfl (zi_2017 v _) zt_k3) zt_k0))) zi_2020_c
-- X10_row M
def zi_2021_K : Nat × (List zt_A × List zt_C × List Nat) × zt_W × List zt_O := (22, ([zjr 0, zj (.ofNat 0) (.ofNat 3), zj (.ofNat 0) (.ofNat 3), zj (.negSucc 2147483647) (.negSucc 0)], [], []), [(0, 0, 0)], [(some ((0, .negSucc 2, .negSucc 2, 0, [])), [], [], [])])
def zi_2021_A : zt_An := [(0, [(([some (zjr 0), some (zj (.ofNat 0) (.ofNat 3)), some (zj (.ofNat 0) (.ofNat 3)), some (zj (.negSucc 2147483647) (.negSucc 0)), none], [], [], []), .ofNat 0, [])])]
def zi_2021_Ks : List (Nat × List zt_K) := [(112, [((3, none, true, []), zi_2016_K)]), (116, [((1, none, true, []), zi_2017_K)])]
def zi_2021_H : zt_H := ((zo_w22, 22, zo_Sg), (zo_g22, zi_2021_K.2.2.1, [0, 1, 2, 3], zo_U), [(110, .long (3))], ((some .int), zi_2021_K.2.2.2, zi_2021_K.2.1.1), zi_2021_Ks)
theorem zi_2021_c : zt_chk zi_2021_H (zB_X10_row, [], [30, 57]) 8 zi_2021_A 5 (zo_hd, zi_2021_K) = true := by decide +kernel
theorem zi_2021 (v : Nat) (hd : Nat × Option Nat × Bool × List (Nat × Nat)) : zt_Con zo_Om (zo_Rel v) (hd, zi_2021_K) zF_X10_row := zt_con (K := (zo_hd, zi_2021_K)) (T := zT_X10_row) (w0 := zo_w22) (G := zo_g22) (zo_UR v) rfl zo_sg rfl rfl rfl (zt_ksok_of (Ks := zi_2021_Ks) (zt_k1 rfl (zt_k2 rfl (zi_2016 v _) zt_k3) (zt_k1 rfl (zt_k2 rfl (zi_2017 v _) zt_k3) zt_k0))) zi_2021_c
-- X10_row M
def zi_2022_K : Nat × (List zt_A × List zt_C × List Nat) × zt_W × List zt_O := (22, ([zjr 0, zj (.ofNat 0) (.ofNat 3), zj (.ofNat 0) (.ofNat 3), zj (.ofNat 0) (.ofNat 60)], [], []), [(0, 0, 0), (1, 0, 3), (2, 0, 3), (3, 0, 239)], [(some ((0, .ofNat 0, .ofNat 0, 0, [])), [], [], [])])
def zi_2022_A : zt_An := [(0, [(([some (zjr 0), some (zj (.ofNat 0) (.ofNat 3)), some (zj (.ofNat 0) (.ofNat 3)), some (zj (.ofNat 0) (.ofNat 60)), none], [], [], []), .ofNat 61, [])]), (57, [(([some (zjr 0), some (zj (.ofNat 0) (.ofNat 3)), some (zj (.ofNat 0) (.ofNat 3)), some (zj (.ofNat 0) (.ofNat 60)), some (zj (.ofNat 0) (.ofNat 60))], [], [((1, 0, 0), .ofNat 0, .ofNat 0), ((2, 1, 1), .ofNat 0, .ofNat 3), ((2, 2, 1), .ofNat 0, .ofNat 60)], []), .ofNat 60, [(.negSucc 0, 4)])])]
def zi_2022_Ks : List (Nat × List zt_K) := [(112, [((3, none, true, []), zi_2016_K)]), (116, [((1, none, true, []), zi_2017_K)])]
def zi_2022_H : zt_H := ((zo_w22, 22, zo_Sg), (zo_g22, zi_2022_K.2.2.1, [0, 1, 2, 3], zo_U), [(110, .long (3))], ((some .int), zi_2022_K.2.2.2, zi_2022_K.2.1.1), zi_2022_Ks)
theorem zi_2022_c : zt_chk zi_2022_H (zB_X10_row, [], [30, 57]) 8 zi_2022_A 5 (zo_hd, zi_2022_K) = true := by decide +kernel
theorem zi_2022 (v : Nat) (hd : Nat × Option Nat × Bool × List (Nat × Nat)) : zt_Con zo_Om (zo_Rel v) (hd, zi_2022_K) zF_X10_row := zt_con (K := (zo_hd, zi_2022_K)) (T := zT_X10_row) (w0 := zo_w22) (G := zo_g22) (zo_UR v) rfl zo_sg rfl rfl rfl (zt_ksok_of (Ks := zi_2022_Ks) (zt_k1 rfl (zt_k2 rfl (zi_2016 v _) zt_k3) (zt_k1 rfl (zt_k2 rfl (zi_2017 v _) zt_k3) zt_k0))) zi_2022_c
