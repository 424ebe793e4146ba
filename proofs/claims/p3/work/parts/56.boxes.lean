/-! WHAT CALLS ANSWER OVER BOXES OF THEIR ARGUMENTS (printed by program, wip/abs/reg.py) -/
-- X9_forgetAnswers X
def zi_2200_K : Nat × (List zt_A × List zt_C × List Nat) × zt_W × List zt_O := (1, ([zjr 0], [((1, 51, 1), .ofNat 0, .ofNat 0)], []), [(21, 1, 1), (68, 0, 0), (72, 0, 0)], [(none, [], [((1, 51, 1), .ofNat 0, .ofNat 0)], [])])
def zi_2200_A : zt_An := [(0, [(([some (zjr 0)], [], [((1, 51, 1), .ofNat 0, .ofNat 0)], []), .ofNat 0, [])])]
def zi_2200_Ks : List (Nat × List zt_K) := []
def zi_2200_H : zt_H := ((zo_w1, 1, zo_Sg), (zo_g1, zi_2200_K.2.2.1, [0], zo_U), [], (none, zi_2200_K.2.2.2, zi_2200_K.2.1.1), zi_2200_Ks)
theorem zi_2200_c : zt_chk zi_2200_H (zB_X9_forgetAnswers, [], []) 2 zi_2200_A 1 (zo_hd, zi_2200_K) = true := by decide +kernel
theorem zi_2200 (v : Nat) (hd : Nat × Option Nat × Bool × List (Nat × Nat)) : zt_Con zo_Om (zo_Rel v) (hd, zi_2200_K) zF_X9_forgetAnswers := zt_con (K := (zo_hd, zi_2200_K)) (T := zT_X9_forgetAnswers) (w0 := zo_w1) (G := zo_g1) (zo_UR v) rfl zo_sg rfl rfl rfl (zt_ksok_of (Ks := zi_2200_Ks) zt_k0) zi_2200_c
-- X9_bench X
def zi_2201_K : Nat × (List zt_A × List zt_C × List Nat) × zt_W × List zt_O := (1, ([zjr 0], [], []), [(1, 0, 7), (2, 0, 5), (3, 0, 4), (4, 0, 4), (5, 0, 4), (6, 0, 4), (7, 0, 4), (8, 0, 40), (9, 0, 40), (10, 0, 40), (11, 0, 7), (12, 0, 5), (13, 0, 4), (14, 0, 4), (15, 0, 4), (16, 0, 4), (17, 0, 4), (21, 1, 1), (51, 1, 6), (68, 0, 0), (72, 0, 0)], [(some (zt_top), [], [((1, 51, 1), .ofNat 0, .ofNat 0)], [])])
def zi_2201_A : zt_An := [(0, [(([some (zjr 0), none], [], [], []), .ofNat 0, [])])]
def zi_2201_Ks : List (Nat × List zt_K) := [(98, [((2, some 8, false, [(0, 2), (1, 10)]), zi_52_K)]), (102, [((2, some 0, false, [(0, 10), (1, 10)]), zi_53_K)]), (106, [((1, some 9, true, []), zi_2200_K)])]
def zi_2201_H : zt_H := ((zo_w1, 1, zo_Sg), (zo_g1, zi_2201_K.2.2.1, [0], zo_U), [], ((some .int), zi_2201_K.2.2.2, zi_2201_K.2.1.1), zi_2201_Ks)
theorem zi_2201_c : zt_chk zi_2201_H (zB_X9_bench, [], []) 6 zi_2201_A 2 (zo_hd, zi_2201_K) = true := by decide +kernel
theorem zi_2201 (v : Nat) (hd : Nat × Option Nat × Bool × List (Nat × Nat)) : zt_Con zo_Om (zo_Rel v) (hd, zi_2201_K) zF_X9_bench := zt_con (K := (zo_hd, zi_2201_K)) (T := zT_X9_bench) (w0 := zo_w1) (G := zo_g1) (zo_UR v) rfl zo_sg rfl rfl rfl (zt_ksok_of (Ks := zi_2201_Ks) (zt_k1 rfl (zt_k2 rfl (zi_52 v _) zt_k3) (zt_k1 rfl (zt_k2 rfl (zi_53 v _) zt_k3) (zt_k1 rfl (zt_k2 rfl (zi_2200 v _) zt_k3) zt_k0)))) zi_2201_c
