/-! 59.zZf.eqZ, 59.zZg.Z3, 59.zZh.Z4, 59.zZi.Z5, 59.zZj.Z6 -/
section
/-! EQUATIONS OF STRETCHES, printed by program (wip/law/eqs/gen.py) -/
noncomputable def zv_X10_isTime_M_0 (I : Nat → Nat → Int32) (J : Nat → Nat → Int64) (l1 : Int32) : zm_R := zm_V zT_X10_isTime zW_M (0, [some (.ref 0), some (.int l1)], [], (I, J))
noncomputable def zv_X10_isTime_M_4 (I : Nat → Nat → Int32) (J : Nat → Nat → Int64) (l1 : Int32) (s0 : Int32) : zm_R := zm_V zT_X10_isTime zW_M (4, [some (.ref 0), some (.int l1)], [.int s0], (I, J))
noncomputable def zv_X10_isTime_M_7 (I : Nat → Nat → Int32) (J : Nat → Nat → Int64) (l1 : Int32) : zm_R := zm_V zT_X10_isTime zW_M (7, [some (.ref 0), some (.int l1)], [], (I, J))
noncomputable def zv_X10_isTime_M_11 (I : Nat → Nat → Int32) (J : Nat → Nat → Int64) (l1 : Int32) (s0 : Int32) : zm_R := zm_V zT_X10_isTime zW_M (11, [some (.ref 0), some (.int l1)], [.int s0], (I, J))
noncomputable def zv_X10_isTime_M_14 (I : Nat → Nat → Int32) (J : Nat → Nat → Int64) (l1 : Int32) : zm_R := zm_V zT_X10_isTime zW_M (14, [some (.ref 0), some (.int l1)], [], (I, J))
noncomputable def zv_X10_isTime_M_18 (I : Nat → Nat → Int32) (J : Nat → Nat → Int64) (l1 : Int32) : zm_R := zm_V zT_X10_isTime zW_M (18, [some (.ref 0), some (.int l1)], [], (I, J))
noncomputable def zv_X10_isTime_M_19 (I : Nat → Nat → Int32) (J : Nat → Nat → Int64) (l1 : Int32) (s0 : Int32) : zm_R := zm_V zT_X10_isTime zW_M (19, [some (.ref 0), some (.int l1)], [.int s0], (I, J))
set_option maxRecDepth 20000 in
theorem zc_X10_isTime_M_0 (I : Nat → Nat → Int32) (J : Nat → Nat → Int64) (l1 : Int32) {I2 : Nat → Nat → Int32} {J2 : Nat → Nat → Int64} {r : Int32} (hF : zF_X10_isBench zW_M [.ref 0] (I, J) = some (some (.int r), (I2, J2))) : zv_X10_isTime_M_0 I J l1 = zv_X10_isTime_M_4 I2 J2 l1 r := by
  have e : ∀ k : zm_S → zm_R, zm_step zT_X10_isTime zW_M k (0, [some (.ref 0), some (.int l1)], [], (I, J)) = zm_app (1, some 10, true, [], zF_X10_isBench) zW_M [.ref 0] (I, J) (fun v N => k (4, [some (.ref 0), some (.int l1)], v.toList ++ [], N)) := fun k => rfl
  have g := zm_app_s (C := (1, some 10, true, [], zF_X10_isBench)) (wl := zW_M) (as := [.ref 0]) (M := (I, J)) (k := fun v N => zm_V zT_X10_isTime zW_M (4, [some (.ref 0), some (.int l1)], v.toList ++ [], N)) rfl rfl hF
  exact (zm_V_eq _ _ _).trans ((e _).trans g)
set_option maxRecDepth 20000 in
theorem zq_X10_isTime_M_4 (I : Nat → Nat → Int32) (J : Nat → Nat → Int64) (l1 : Int32) (s0 : Int32) : zv_X10_isTime_M_4 I J l1 s0 = if s0 = 0 then zv_X10_isTime_M_18 I J l1 else zv_X10_isTime_M_7 I J l1 := (zm_V_eq _ _ _).trans ((fun (k : zm_S → zm_R) => (rfl : zm_step zT_X10_isTime zW_M k (4, [some (.ref 0), some (.int l1)], [.int s0], (I, J)) = if s0 = 0 then k (18, [some (.ref 0), some (.int l1)], [], (I, J)) else k (7, [some (.ref 0), some (.int l1)], [], (I, J)))) (zm_V zT_X10_isTime zW_M))
set_option maxRecDepth 20000 in
theorem zc_X10_isTime_M_7 (I : Nat → Nat → Int32) (J : Nat → Nat → Int64) (l1 : Int32) {I2 : Nat → Nat → Int32} {J2 : Nat → Nat → Int64} {r : Int32} (hF : zF_X10_isMinute zW_M [.int l1] (I, J) = some (some (.int r), (I2, J2))) : zv_X10_isTime_M_7 I J l1 = zv_X10_isTime_M_11 I2 J2 l1 r := by
  have e : ∀ k : zm_S → zm_R, zm_step zT_X10_isTime zW_M k (7, [some (.ref 0), some (.int l1)], [], (I, J)) = zm_app (1, none, true, [], zF_X10_isMinute) zW_M [.int l1] (I, J) (fun v N => k (11, [some (.ref 0), some (.int l1)], v.toList ++ [], N)) := fun k => rfl
  have g := zm_app_s (C := (1, none, true, [], zF_X10_isMinute)) (wl := zW_M) (as := [.int l1]) (M := (I, J)) (k := fun v N => zm_V zT_X10_isTime zW_M (11, [some (.ref 0), some (.int l1)], v.toList ++ [], N)) rfl rfl hF
  exact (zm_V_eq _ _ _).trans ((e _).trans g)
set_option maxRecDepth 20000 in
theorem zq_X10_isTime_M_11 (I : Nat → Nat → Int32) (J : Nat → Nat → Int64) (l1 : Int32) (s0 : Int32) : zv_X10_isTime_M_11 I J l1 s0 = if s0 = 0 then zv_X10_isTime_M_18 I J l1 else zv_X10_isTime_M_14 I J l1 := (zm_V_eq _ _ _).trans ((fun (k : zm_S → zm_R) => (rfl : zm_step zT_X10_isTime zW_M k (11, [some (.ref 0), some (.int l1)], [.int s0], (I, J)) = if s0 = 0 then k (18, [some (.ref 0), some (.int l1)], [], (I, J)) else k (14, [some (.ref 0), some (.int l1)], [], (I, J)))) (zm_V zT_X10_isTime zW_M))
set_option maxRecDepth 20000 in
theorem zq_X10_isTime_M_14 (I : Nat → Nat → Int32) (J : Nat → Nat → Int64) (l1 : Int32) : zv_X10_isTime_M_14 I J l1 = zv_X10_isTime_M_19 I J l1 1 := (zm_V_eq _ _ _).trans ((fun (k : zm_S → zm_R) => (rfl : zm_step zT_X10_isTime zW_M k (14, [some (.ref 0), some (.int l1)], [], (I, J)) = k (19, [some (.ref 0), some (.int l1)], [.int 1], (I, J)))) (zm_V zT_X10_isTime zW_M))
set_option maxRecDepth 20000 in
theorem zq_X10_isTime_M_18 (I : Nat → Nat → Int32) (J : Nat → Nat → Int64) (l1 : Int32) : zv_X10_isTime_M_18 I J l1 = zv_X10_isTime_M_19 I J l1 0 := (zm_V_eq _ _ _).trans ((fun (k : zm_S → zm_R) => (rfl : zm_step zT_X10_isTime zW_M k (18, [some (.ref 0), some (.int l1)], [], (I, J)) = k (19, [some (.ref 0), some (.int l1)], [.int 0], (I, J)))) (zm_V zT_X10_isTime zW_M))
set_option maxRecDepth 20000 in
theorem zq_X10_isTime_M_19 (I : Nat → Nat → Int32) (J : Nat → Nat → Int64) (l1 : Int32) (s0 : Int32) : zv_X10_isTime_M_19 I J l1 s0 = if s0 = 0 ∨ s0 = 1 then some (some (.int s0), (I, J)) else none := (zm_V_eq _ _ _).trans ((fun (k : zm_S → zm_R) => (rfl : zm_step zT_X10_isTime zW_M k (19, [some (.ref 0), some (.int l1)], [.int s0], (I, J)) = if s0 = 0 ∨ s0 = 1 then some (some (.int s0), (I, J)) else none)) (zm_V zT_X10_isTime zW_M))
theorem zf_X10_isTime_M (I : Nat → Nat → Int32) (J : Nat → Nat → Int64) (l1 : Int32) : zF_X10_isTime zW_M [.ref 0, .int l1] (I, J) = zv_X10_isTime_M_0 I J l1 := rfl
noncomputable def zv_X9_stands_X_0 (I : Nat → Nat → Int32) (J : Nat → Nat → Int64) (l1 : Int32) : zm_R := zm_V zT_X9_stands zW_X (0, [some (.ref 0), some (.int l1), none, none, none], [], (I, J))
noncomputable def zv_X9_stands_X_4 (I : Nat → Nat → Int32) (J : Nat → Nat → Int64) (l1 : Int32) (s0 : Int32) : zm_R := zm_V zT_X9_stands zW_X (4, [some (.ref 0), some (.int l1), none, none, none], [.int s0], (I, J))
noncomputable def zv_X9_stands_X_7 (I : Nat → Nat → Int32) (J : Nat → Nat → Int64) (l1 : Int32) : zm_R := zm_V zT_X9_stands zW_X (7, [some (.ref 0), some (.int l1), none, none, none], [], (I, J))
noncomputable def zv_X9_stands_X_11 (I : Nat → Nat → Int32) (J : Nat → Nat → Int64) (l1 : Int32) (s0 : Int32) : zm_R := zm_V zT_X9_stands zW_X (11, [some (.ref 0), some (.int l1), none, none, none], [.int s0], (I, J))
noncomputable def zv_X9_stands_X_14 (I : Nat → Nat → Int32) (J : Nat → Nat → Int64) (l1 : Int32) : zm_R := zm_V zT_X9_stands zW_X (14, [some (.ref 0), some (.int l1), none, none, none], [], (I, J))
noncomputable def zv_X9_stands_X_17 (I : Nat → Nat → Int32) (J : Nat → Nat → Int64) (l1 : Int32) : zm_R := zm_V zT_X9_stands zW_X (17, [some (.ref 0), some (.int l1), none, none, none], [], (I, J))
noncomputable def zv_X9_stands_X_21 (I : Nat → Nat → Int32) (J : Nat → Nat → Int64) (l1 : Int32) : zm_R := zm_V zT_X9_stands zW_X (21, [some (.ref 0), some (.int l1), none, none, none], [.ref 21], (I, J))
noncomputable def zv_X9_stands_X_27 (I : Nat → Nat → Int32) (J : Nat → Nat → Int64) (l1 : Int32) (l3 : Int32) (l4 : Int32) : zm_R := zm_V zT_X9_stands zW_X (27, [some (.ref 0), some (.int l1), some (.ref 21), some (.int l3), some (.int l4)], [], (I, J))
noncomputable def zv_X9_stands_X_39 (I : Nat → Nat → Int32) (J : Nat → Nat → Int64) (l1 : Int32) (l3 : Int32) (l4 : Int32) : zm_R := zm_V zT_X9_stands zW_X (39, [some (.ref 0), some (.int l1), some (.ref 21), some (.int l3), some (.int l4)], [], (I, J))
noncomputable def zv_X9_stands_X_46 (I : Nat → Nat → Int32) (J : Nat → Nat → Int64) (l1 : Int32) (l3 : Int32) (l4 : Int32) (s0 : Int32) : zm_R := zm_V zT_X9_stands zW_X (46, [some (.ref 0), some (.int l1), some (.ref 21), some (.int l3), some (.int l4)], [.int s0], (I, J))
noncomputable def zv_X9_stands_X_49 (I : Nat → Nat → Int32) (J : Nat → Nat → Int64) (l1 : Int32) (l3 : Int32) (l4 : Int32) : zm_R := zm_V zT_X9_stands zW_X (49, [some (.ref 0), some (.int l1), some (.ref 21), some (.int l3), some (.int l4)], [], (I, J))
noncomputable def zv_X9_stands_X_56 (I : Nat → Nat → Int32) (J : Nat → Nat → Int64) (l1 : Int32) (l3 : Int32) (l4 : Int32) (s0 : Int32) : zm_R := zm_V zT_X9_stands zW_X (56, [some (.ref 0), some (.int l1), some (.ref 21), some (.int l3), some (.int l4)], [.int s0], (I, J))
noncomputable def zv_X9_stands_X_60 (I : Nat → Nat → Int32) (J : Nat → Nat → Int64) (l1 : Int32) (l3 : Int32) (l4 : Int32) : zm_R := zm_V zT_X9_stands zW_X (60, [some (.ref 0), some (.int l1), some (.ref 21), some (.int l3), some (.int l4)], [], (I, J))
noncomputable def zv_X9_stands_X_67 (I : Nat → Nat → Int32) (J : Nat → Nat → Int64) (l1 : Int32) (l3 : Int32) (l4 : Int32) : zm_R := zm_V zT_X9_stands zW_X (67, [some (.ref 0), some (.int l1), some (.ref 21), some (.int l3), some (.int l4)], [], (I, J))
noncomputable def zv_X9_stands_X_73 (I : Nat → Nat → Int32) (J : Nat → Nat → Int64) (l1 : Int32) (l3 : Int32) (l4 : Int32) : zm_R := zm_V zT_X9_stands zW_X (73, [some (.ref 0), some (.int l1), some (.ref 21), some (.int l3), some (.int l4)], [], (I, J))
set_option maxRecDepth 20000 in
theorem zc_X9_stands_X_0 (I : Nat → Nat → Int32) (J : Nat → Nat → Int64) (l1 : Int32) {I2 : Nat → Nat → Int32} {J2 : Nat → Nat → Int64} {r : Int32} (hF : zF_X9_hasBench zW_X [.ref 0] (I, J) = some (some (.int r), (I2, J2))) : zv_X9_stands_X_0 I J l1 = zv_X9_stands_X_4 I2 J2 l1 r := by
  have e : ∀ k : zm_S → zm_R, zm_step zT_X9_stands zW_X k (0, [some (.ref 0), some (.int l1), none, none, none], [], (I, J)) = zm_app (1, some 9, true, [], zF_X9_hasBench) zW_X [.ref 0] (I, J) (fun v N => k (4, [some (.ref 0), some (.int l1), none, none, none], v.toList ++ [], N)) := fun k => rfl
  have g := zm_app_s (C := (1, some 9, true, [], zF_X9_hasBench)) (wl := zW_X) (as := [.ref 0]) (M := (I, J)) (k := fun v N => zm_V zT_X9_stands zW_X (4, [some (.ref 0), some (.int l1), none, none, none], v.toList ++ [], N)) rfl rfl hF
  exact (zm_V_eq _ _ _).trans ((e _).trans g)
set_option maxRecDepth 20000 in
theorem zq_X9_stands_X_4 (I : Nat → Nat → Int32) (J : Nat → Nat → Int64) (l1 : Int32) (s0 : Int32) : zv_X9_stands_X_4 I J l1 s0 = if s0 = 0 then zv_X9_stands_X_14 I J l1 else zv_X9_stands_X_7 I J l1 := (zm_V_eq _ _ _).trans ((fun (k : zm_S → zm_R) => (rfl : zm_step zT_X9_stands zW_X k (4, [some (.ref 0), some (.int l1), none, none, none], [.int s0], (I, J)) = if s0 = 0 then k (14, [some (.ref 0), some (.int l1), none, none, none], [], (I, J)) else k (7, [some (.ref 0), some (.int l1), none, none, none], [], (I, J)))) (zm_V zT_X9_stands zW_X))
set_option maxRecDepth 20000 in
theorem zc_X9_stands_X_7 (I : Nat → Nat → Int32) (J : Nat → Nat → Int64) (l1 : Int32) {I2 : Nat → Nat → Int32} {J2 : Nat → Nat → Int64} {r : Int32} (hF : zF_X9_isMinute zW_X [.int l1] (I, J) = some (some (.int r), (I2, J2))) : zv_X9_stands_X_7 I J l1 = zv_X9_stands_X_11 I2 J2 l1 r := by
  have e : ∀ k : zm_S → zm_R, zm_step zT_X9_stands zW_X k (7, [some (.ref 0), some (.int l1), none, none, none], [], (I, J)) = zm_app (1, none, true, [], zF_X9_isMinute) zW_X [.int l1] (I, J) (fun v N => k (11, [some (.ref 0), some (.int l1), none, none, none], v.toList ++ [], N)) := fun k => rfl
  have g := zm_app_s (C := (1, none, true, [], zF_X9_isMinute)) (wl := zW_X) (as := [.int l1]) (M := (I, J)) (k := fun v N => zm_V zT_X9_stands zW_X (11, [some (.ref 0), some (.int l1), none, none, none], v.toList ++ [], N)) rfl rfl hF
  exact (zm_V_eq _ _ _).trans ((e _).trans g)
set_option maxRecDepth 20000 in
theorem zq_X9_stands_X_11 (I : Nat → Nat → Int32) (J : Nat → Nat → Int64) (l1 : Int32) (s0 : Int32) : zv_X9_stands_X_11 I J l1 s0 = if s0 = 0 then zv_X9_stands_X_14 I J l1 else zv_X9_stands_X_17 I J l1 := (zm_V_eq _ _ _).trans ((fun (k : zm_S → zm_R) => (rfl : zm_step zT_X9_stands zW_X k (11, [some (.ref 0), some (.int l1), none, none, none], [.int s0], (I, J)) = if s0 = 0 then k (14, [some (.ref 0), some (.int l1), none, none, none], [], (I, J)) else k (17, [some (.ref 0), some (.int l1), none, none, none], [], (I, J)))) (zm_V zT_X9_stands zW_X))
set_option maxRecDepth 20000 in
theorem zq_X9_stands_X_14 (I : Nat → Nat → Int32) (J : Nat → Nat → Int64) (l1 : Int32) : zv_X9_stands_X_14 I J l1 = some (some (.int (-2)), (I, J)) := (zm_V_eq _ _ _).trans ((fun (k : zm_S → zm_R) => (rfl : zm_step zT_X9_stands zW_X k (14, [some (.ref 0), some (.int l1), none, none, none], [], (I, J)) = some (some (.int (-2)), (I, J)))) (zm_V zT_X9_stands zW_X))
set_option maxRecDepth 20000 in
theorem zc_X9_stands_X_17 (I : Nat → Nat → Int32) (J : Nat → Nat → Int64) (l1 : Int32) {I2 : Nat → Nat → Int32} {J2 : Nat → Nat → Int64} (hF : zF_X9_livedToday zW_X [.ref 0] (I, J) = some (some (.ref 21), (I2, J2))) : zv_X9_stands_X_17 I J l1 = zv_X9_stands_X_21 I2 J2 l1 := by
  have e : ∀ k : zm_S → zm_R, zm_step zT_X9_stands zW_X k (17, [some (.ref 0), some (.int l1), none, none, none], [], (I, J)) = zm_app (1, some 9, true, [], zF_X9_livedToday) zW_X [.ref 0] (I, J) (fun v N => k (21, [some (.ref 0), some (.int l1), none, none, none], v.toList ++ [], N)) := fun k => rfl
  have g := zm_app_s (C := (1, some 9, true, [], zF_X9_livedToday)) (wl := zW_X) (as := [.ref 0]) (M := (I, J)) (k := fun v N => zm_V zT_X9_stands zW_X (21, [some (.ref 0), some (.int l1), none, none, none], v.toList ++ [], N)) rfl rfl hF
  exact (zm_V_eq _ _ _).trans ((e _).trans g)
set_option maxRecDepth 20000 in
theorem zq_X9_stands_X_21 (I : Nat → Nat → Int32) (J : Nat → Nat → Int64) (l1 : Int32) : zv_X9_stands_X_21 I J l1 = zv_X9_stands_X_27 I J l1 0 0 := (zm_V_eq _ _ _).trans ((fun (k : zm_S → zm_R) => (rfl : zm_step zT_X9_stands zW_X k (21, [some (.ref 0), some (.int l1), none, none, none], [.ref 21], (I, J)) = k (27, [some (.ref 0), some (.int l1), some (.ref 21), some (.int 0), some (.int 0)], [], (I, J)))) (zm_V zT_X9_stands zW_X))
set_option maxRecDepth 20000 in
theorem zq_X9_stands_X_27 (I : Nat → Nat → Int32) (J : Nat → Nat → Int64) (l1 : Int32) (l3 : Int32) (l4 : Int32) : zv_X9_stands_X_27 I J l1 l3 l4 = if (I 1 6) ≤ l4 then zv_X9_stands_X_73 I J l1 l3 l4 else zv_X9_stands_X_39 I J l1 l3 l4 := (zm_V_eq _ _ _).trans ((fun (k : zm_S → zm_R) => (rfl : zm_step zT_X9_stands zW_X k (27, [some (.ref 0), some (.int l1), some (.ref 21), some (.int l3), some (.int l4)], [], (I, J)) = if (I 1 6) ≤ l4 then k (73, [some (.ref 0), some (.int l1), some (.ref 21), some (.int l3), some (.int l4)], [], (I, J)) else k (39, [some (.ref 0), some (.int l1), some (.ref 21), some (.int l3), some (.int l4)], [], (I, J)))) (zm_V zT_X9_stands zW_X))
set_option maxRecDepth 20000 in
theorem zc_X9_stands_X_39 (I : Nat → Nat → Int32) (J : Nat → Nat → Int64) (l1 : Int32) (l3 : Int32) (l4 : Int32) {N : zm_I} {r : Int32} (hF : zF_X3_isThere zW_Y [.ref 0, .int l4, .int l1] (zm_sub2 [(21, 11)] (I, J)) = some (some (.int r), N)) : zv_X9_stands_X_39 I J l1 l3 l4 = zv_X9_stands_X_46 (zm_mrg [(21, 11)] (I, J) N).1 (zm_mrg [(21, 11)] (I, J) N).2 l1 l3 l4 r := by
  have e : ∀ k : zm_S → zm_R, zm_step zT_X9_stands zW_X k (39, [some (.ref 0), some (.int l1), some (.ref 21), some (.int l3), some (.int l4)], [], (I, J)) = zm_app (3, some 3, false, [(0, 11)], zF_X3_isThere) zW_X [.ref 21, .int l4, .int l1] (I, J) (fun v N => k (46, [some (.ref 0), some (.int l1), some (.ref 21), some (.int l3), some (.int l4)], v.toList ++ [], N)) := fun k => rfl
  have g := zm_app_l (C := (3, some 3, false, [(0, 11)], zF_X3_isThere)) (wl := zW_X) (as := [.ref 21, .int l4, .int l1]) (wc := zW_Y) (ac := [.ref 0, .int l4, .int l1]) (bs := [(21, 11)]) (M := (I, J)) (k := fun v N => zm_V zT_X9_stands zW_X (46, [some (.ref 0), some (.int l1), some (.ref 21), some (.int l3), some (.int l4)], v.toList ++ [], N)) rfl rfl rfl rfl rfl rfl hF
  exact (zm_V_eq _ _ _).trans ((e _).trans g)
set_option maxRecDepth 20000 in
theorem zq_X9_stands_X_46 (I : Nat → Nat → Int32) (J : Nat → Nat → Int64) (l1 : Int32) (l3 : Int32) (l4 : Int32) (s0 : Int32) : zv_X9_stands_X_46 I J l1 l3 l4 s0 = if s0 = 0 then zv_X9_stands_X_67 I J l1 l3 l4 else zv_X9_stands_X_49 I J l1 l3 l4 := (zm_V_eq _ _ _).trans ((fun (k : zm_S → zm_R) => (rfl : zm_step zT_X9_stands zW_X k (46, [some (.ref 0), some (.int l1), some (.ref 21), some (.int l3), some (.int l4)], [.int s0], (I, J)) = if s0 = 0 then k (67, [some (.ref 0), some (.int l1), some (.ref 21), some (.int l3), some (.int l4)], [], (I, J)) else k (49, [some (.ref 0), some (.int l1), some (.ref 21), some (.int l3), some (.int l4)], [], (I, J)))) (zm_V zT_X9_stands zW_X))
set_option maxRecDepth 20000 in
theorem zc_X9_stands_X_49 (I : Nat → Nat → Int32) (J : Nat → Nat → Int64) (l1 : Int32) (l3 : Int32) (l4 : Int32) {N : zm_I} {r : Int32} (hF : zF_X3_seatAt zW_Y [.ref 0, .int l4, .int l1] (zm_sub2 [(21, 11)] (I, J)) = some (some (.int r), N)) : zv_X9_stands_X_49 I J l1 l3 l4 = zv_X9_stands_X_56 (zm_mrg [(21, 11)] (I, J) N).1 (zm_mrg [(21, 11)] (I, J) N).2 l1 l3 l4 r := by
  have e : ∀ k : zm_S → zm_R, zm_step zT_X9_stands zW_X k (49, [some (.ref 0), some (.int l1), some (.ref 21), some (.int l3), some (.int l4)], [], (I, J)) = zm_app (3, some 3, false, [(0, 11)], zF_X3_seatAt) zW_X [.ref 21, .int l4, .int l1] (I, J) (fun v N => k (56, [some (.ref 0), some (.int l1), some (.ref 21), some (.int l3), some (.int l4)], v.toList ++ [], N)) := fun k => rfl
  have g := zm_app_l (C := (3, some 3, false, [(0, 11)], zF_X3_seatAt)) (wl := zW_X) (as := [.ref 21, .int l4, .int l1]) (wc := zW_Y) (ac := [.ref 0, .int l4, .int l1]) (bs := [(21, 11)]) (M := (I, J)) (k := fun v N => zm_V zT_X9_stands zW_X (56, [some (.ref 0), some (.int l1), some (.ref 21), some (.int l3), some (.int l4)], v.toList ++ [], N)) rfl rfl rfl rfl rfl rfl hF
  exact (zm_V_eq _ _ _).trans ((e _).trans g)
set_option maxRecDepth 20000 in
theorem zq_X9_stands_X_56 (I : Nat → Nat → Int32) (J : Nat → Nat → Int64) (l1 : Int32) (l3 : Int32) (l4 : Int32) (s0 : Int32) : zv_X9_stands_X_56 I J l1 l3 l4 s0 = if s0 = (-1) then zv_X9_stands_X_60 I J l1 l3 l4 else zv_X9_stands_X_67 I J l1 l3 l4 := (zm_V_eq _ _ _).trans ((fun (k : zm_S → zm_R) => (rfl : zm_step zT_X9_stands zW_X k (56, [some (.ref 0), some (.int l1), some (.ref 21), some (.int l3), some (.int l4)], [.int s0], (I, J)) = if s0 = (-1) then k (60, [some (.ref 0), some (.int l1), some (.ref 21), some (.int l3), some (.int l4)], [], (I, J)) else k (67, [some (.ref 0), some (.int l1), some (.ref 21), some (.int l3), some (.int l4)], [], (I, J)))) (zm_V zT_X9_stands zW_X))
set_option maxRecDepth 20000 in
theorem zq_X9_stands_X_60 (I : Nat → Nat → Int32) (J : Nat → Nat → Int64) (l1 : Int32) (l3 : Int32) (l4 : Int32) : zv_X9_stands_X_60 I J l1 l3 l4 = zv_X9_stands_X_67 I J l1 (l3 ||| (1 <<< (l4 &&& 31))) l4 := (zm_V_eq _ _ _).trans ((fun (k : zm_S → zm_R) => (rfl : zm_step zT_X9_stands zW_X k (60, [some (.ref 0), some (.int l1), some (.ref 21), some (.int l3), some (.int l4)], [], (I, J)) = k (67, [some (.ref 0), some (.int l1), some (.ref 21), some (.int (l3 ||| (1 <<< (l4 &&& 31)))), some (.int l4)], [], (I, J)))) (zm_V zT_X9_stands zW_X))
set_option maxRecDepth 20000 in
theorem zq_X9_stands_X_67 (I : Nat → Nat → Int32) (J : Nat → Nat → Int64) (l1 : Int32) (l3 : Int32) (l4 : Int32) : zv_X9_stands_X_67 I J l1 l3 l4 = zv_X9_stands_X_27 I J l1 l3 (l4 + 1) := (zm_V_eq _ _ _).trans ((fun (k : zm_S → zm_R) => (rfl : zm_step zT_X9_stands zW_X k (67, [some (.ref 0), some (.int l1), some (.ref 21), some (.int l3), some (.int l4)], [], (I, J)) = k (27, [some (.ref 0), some (.int l1), some (.ref 21), some (.int l3), some (.int (l4 + 1))], [], (I, J)))) (zm_V zT_X9_stands zW_X))
set_option maxRecDepth 20000 in
theorem zq_X9_stands_X_73 (I : Nat → Nat → Int32) (J : Nat → Nat → Int64) (l1 : Int32) (l3 : Int32) (l4 : Int32) : zv_X9_stands_X_73 I J l1 l3 l4 = some (some (.int l3), (I, J)) := (zm_V_eq _ _ _).trans ((fun (k : zm_S → zm_R) => (rfl : zm_step zT_X9_stands zW_X k (73, [some (.ref 0), some (.int l1), some (.ref 21), some (.int l3), some (.int l4)], [], (I, J)) = some (some (.int l3), (I, J)))) (zm_V zT_X9_stands zW_X))
theorem zf_X9_stands_X (I : Nat → Nat → Int32) (J : Nat → Nat → Int64) (l1 : Int32) : zF_X9_stands zW_X [.ref 0, .int l1] (I, J) = zv_X9_stands_X_0 I J l1 := rfl
noncomputable def zv_X9_free_X_0 (I : Nat → Nat → Int32) (J : Nat → Nat → Int64) (l1 : Int32) : zm_R := zm_V zT_X9_free zW_X (0, [some (.ref 0), some (.int l1), none, none, none, none], [], (I, J))
noncomputable def zv_X9_free_X_4 (I : Nat → Nat → Int32) (J : Nat → Nat → Int64) (l1 : Int32) (s0 : Int32) : zm_R := zm_V zT_X9_free zW_X (4, [some (.ref 0), some (.int l1), none, none, none, none], [.int s0], (I, J))
noncomputable def zv_X9_free_X_7 (I : Nat → Nat → Int32) (J : Nat → Nat → Int64) (l1 : Int32) : zm_R := zm_V zT_X9_free zW_X (7, [some (.ref 0), some (.int l1), none, none, none, none], [], (I, J))
noncomputable def zv_X9_free_X_11 (I : Nat → Nat → Int32) (J : Nat → Nat → Int64) (l1 : Int32) (s0 : Int32) : zm_R := zm_V zT_X9_free zW_X (11, [some (.ref 0), some (.int l1), none, none, none, none], [.int s0], (I, J))
noncomputable def zv_X9_free_X_14 (I : Nat → Nat → Int32) (J : Nat → Nat → Int64) (l1 : Int32) : zm_R := zm_V zT_X9_free zW_X (14, [some (.ref 0), some (.int l1), none, none, none, none], [], (I, J))
noncomputable def zv_X9_free_X_17 (I : Nat → Nat → Int32) (J : Nat → Nat → Int64) (l1 : Int32) : zm_R := zm_V zT_X9_free zW_X (17, [some (.ref 0), some (.int l1), none, none, none, none], [], (I, J))
noncomputable def zv_X9_free_X_21 (I : Nat → Nat → Int32) (J : Nat → Nat → Int64) (l1 : Int32) : zm_R := zm_V zT_X9_free zW_X (21, [some (.ref 0), some (.int l1), none, none, none, none], [.ref 21], (I, J))
noncomputable def zv_X9_free_X_37 (I : Nat → Nat → Int32) (J : Nat → Nat → Int64) (l1 : Int32) (l3 : Int32) (l4 : Int32) (l5 : Option Value) : zm_R := zm_V zT_X9_free zW_X (37, [some (.ref 0), some (.int l1), some (.ref 21), some (.int l3), some (.int l4), l5], [], (I, J))
noncomputable def zv_X9_free_X_49 (I : Nat → Nat → Int32) (J : Nat → Nat → Int64) (l1 : Int32) (l3 : Int32) (l4 : Int32) (l5 : Option Value) : zm_R := zm_V zT_X9_free zW_X (49, [some (.ref 0), some (.int l1), some (.ref 21), some (.int l3), some (.int l4), l5], [], (I, J))
noncomputable def zv_X9_free_X_56 (I : Nat → Nat → Int32) (J : Nat → Nat → Int64) (l1 : Int32) (l3 : Int32) (l4 : Int32) (l5 : Option Value) (s0 : Int32) : zm_R := zm_V zT_X9_free zW_X (56, [some (.ref 0), some (.int l1), some (.ref 21), some (.int l3), some (.int l4), l5], [.int s0], (I, J))
noncomputable def zv_X9_free_X_64 (I : Nat → Nat → Int32) (J : Nat → Nat → Int64) (l1 : Int32) (l3 : Int32) (l4 : Int32) (l5 : Int32) : zm_R := zm_V zT_X9_free zW_X (64, [some (.ref 0), some (.int l1), some (.ref 21), some (.int l3), some (.int l4), some (.int l5)], [], (I, J))
noncomputable def zv_X9_free_X_73 (I : Nat → Nat → Int32) (J : Nat → Nat → Int64) (l1 : Int32) (l3 : Int32) (l4 : Int32) (l5 : Int32) : zm_R := zm_V zT_X9_free zW_X (73, [some (.ref 0), some (.int l1), some (.ref 21), some (.int l3), some (.int l4), some (.int l5)], [], (I, J))
noncomputable def zv_X9_free_X_79 (I : Nat → Nat → Int32) (J : Nat → Nat → Int64) (l1 : Int32) (l3 : Int32) (l4 : Int32) (l5 : Option Value) : zm_R := zm_V zT_X9_free zW_X (79, [some (.ref 0), some (.int l1), some (.ref 21), some (.int l3), some (.int l4), l5], [], (I, J))
set_option maxRecDepth 20000 in
theorem zc_X9_free_X_0 (I : Nat → Nat → Int32) (J : Nat → Nat → Int64) (l1 : Int32) {I2 : Nat → Nat → Int32} {J2 : Nat → Nat → Int64} {r : Int32} (hF : zF_X9_hasBench zW_X [.ref 0] (I, J) = some (some (.int r), (I2, J2))) : zv_X9_free_X_0 I J l1 = zv_X9_free_X_4 I2 J2 l1 r := by
  have e : ∀ k : zm_S → zm_R, zm_step zT_X9_free zW_X k (0, [some (.ref 0), some (.int l1), none, none, none, none], [], (I, J)) = zm_app (1, some 9, true, [], zF_X9_hasBench) zW_X [.ref 0] (I, J) (fun v N => k (4, [some (.ref 0), some (.int l1), none, none, none, none], v.toList ++ [], N)) := fun k => rfl
  have g := zm_app_s (C := (1, some 9, true, [], zF_X9_hasBench)) (wl := zW_X) (as := [.ref 0]) (M := (I, J)) (k := fun v N => zm_V zT_X9_free zW_X (4, [some (.ref 0), some (.int l1), none, none, none, none], v.toList ++ [], N)) rfl rfl hF
  exact (zm_V_eq _ _ _).trans ((e _).trans g)
set_option maxRecDepth 20000 in
theorem zq_X9_free_X_4 (I : Nat → Nat → Int32) (J : Nat → Nat → Int64) (l1 : Int32) (s0 : Int32) : zv_X9_free_X_4 I J l1 s0 = if s0 = 0 then zv_X9_free_X_14 I J l1 else zv_X9_free_X_7 I J l1 := (zm_V_eq _ _ _).trans ((fun (k : zm_S → zm_R) => (rfl : zm_step zT_X9_free zW_X k (4, [some (.ref 0), some (.int l1), none, none, none, none], [.int s0], (I, J)) = if s0 = 0 then k (14, [some (.ref 0), some (.int l1), none, none, none, none], [], (I, J)) else k (7, [some (.ref 0), some (.int l1), none, none, none, none], [], (I, J)))) (zm_V zT_X9_free zW_X))
set_option maxRecDepth 20000 in
theorem zc_X9_free_X_7 (I : Nat → Nat → Int32) (J : Nat → Nat → Int64) (l1 : Int32) {I2 : Nat → Nat → Int32} {J2 : Nat → Nat → Int64} {r : Int32} (hF : zF_X9_isMinute zW_X [.int l1] (I, J) = some (some (.int r), (I2, J2))) : zv_X9_free_X_7 I J l1 = zv_X9_free_X_11 I2 J2 l1 r := by
  have e : ∀ k : zm_S → zm_R, zm_step zT_X9_free zW_X k (7, [some (.ref 0), some (.int l1), none, none, none, none], [], (I, J)) = zm_app (1, none, true, [], zF_X9_isMinute) zW_X [.int l1] (I, J) (fun v N => k (11, [some (.ref 0), some (.int l1), none, none, none, none], v.toList ++ [], N)) := fun k => rfl
  have g := zm_app_s (C := (1, none, true, [], zF_X9_isMinute)) (wl := zW_X) (as := [.int l1]) (M := (I, J)) (k := fun v N => zm_V zT_X9_free zW_X (11, [some (.ref 0), some (.int l1), none, none, none, none], v.toList ++ [], N)) rfl rfl hF
  exact (zm_V_eq _ _ _).trans ((e _).trans g)
set_option maxRecDepth 20000 in
theorem zq_X9_free_X_11 (I : Nat → Nat → Int32) (J : Nat → Nat → Int64) (l1 : Int32) (s0 : Int32) : zv_X9_free_X_11 I J l1 s0 = if s0 = 0 then zv_X9_free_X_14 I J l1 else zv_X9_free_X_17 I J l1 := (zm_V_eq _ _ _).trans ((fun (k : zm_S → zm_R) => (rfl : zm_step zT_X9_free zW_X k (11, [some (.ref 0), some (.int l1), none, none, none, none], [.int s0], (I, J)) = if s0 = 0 then k (14, [some (.ref 0), some (.int l1), none, none, none, none], [], (I, J)) else k (17, [some (.ref 0), some (.int l1), none, none, none, none], [], (I, J)))) (zm_V zT_X9_free zW_X))
set_option maxRecDepth 20000 in
theorem zq_X9_free_X_14 (I : Nat → Nat → Int32) (J : Nat → Nat → Int64) (l1 : Int32) : zv_X9_free_X_14 I J l1 = some (some (.int (-2)), (I, J)) := (zm_V_eq _ _ _).trans ((fun (k : zm_S → zm_R) => (rfl : zm_step zT_X9_free zW_X k (14, [some (.ref 0), some (.int l1), none, none, none, none], [], (I, J)) = some (some (.int (-2)), (I, J)))) (zm_V zT_X9_free zW_X))
set_option maxRecDepth 20000 in
theorem zc_X9_free_X_17 (I : Nat → Nat → Int32) (J : Nat → Nat → Int64) (l1 : Int32) {I2 : Nat → Nat → Int32} {J2 : Nat → Nat → Int64} (hF : zF_X9_livedToday zW_X [.ref 0] (I, J) = some (some (.ref 21), (I2, J2))) : zv_X9_free_X_17 I J l1 = zv_X9_free_X_21 I2 J2 l1 := by
  have e : ∀ k : zm_S → zm_R, zm_step zT_X9_free zW_X k (17, [some (.ref 0), some (.int l1), none, none, none, none], [], (I, J)) = zm_app (1, some 9, true, [], zF_X9_livedToday) zW_X [.ref 0] (I, J) (fun v N => k (21, [some (.ref 0), some (.int l1), none, none, none, none], v.toList ++ [], N)) := fun k => rfl
  have g := zm_app_s (C := (1, some 9, true, [], zF_X9_livedToday)) (wl := zW_X) (as := [.ref 0]) (M := (I, J)) (k := fun v N => zm_V zT_X9_free zW_X (21, [some (.ref 0), some (.int l1), none, none, none, none], v.toList ++ [], N)) rfl rfl hF
  exact (zm_V_eq _ _ _).trans ((e _).trans g)
set_option maxRecDepth 20000 in
theorem zq_X9_free_X_21 (I : Nat → Nat → Int32) (J : Nat → Nat → Int64) (l1 : Int32) : zv_X9_free_X_21 I J l1 = zv_X9_free_X_37 I J l1 ((1 <<< ((I 1 5) &&& 31)) - 1) 0 none := (zm_V_eq _ _ _).trans ((fun (k : zm_S → zm_R) => (rfl : zm_step zT_X9_free zW_X k (21, [some (.ref 0), some (.int l1), none, none, none, none], [.ref 21], (I, J)) = k (37, [some (.ref 0), some (.int l1), some (.ref 21), some (.int ((1 <<< ((I 1 5) &&& 31)) - 1)), some (.int 0), none], [], (I, J)))) (zm_V zT_X9_free zW_X))
set_option maxRecDepth 20000 in
theorem zq_X9_free_X_37 (I : Nat → Nat → Int32) (J : Nat → Nat → Int64) (l1 : Int32) (l3 : Int32) (l4 : Int32) (l5 : Option Value) : zv_X9_free_X_37 I J l1 l3 l4 l5 = if (I 1 6) ≤ l4 then zv_X9_free_X_79 I J l1 l3 l4 l5 else zv_X9_free_X_49 I J l1 l3 l4 l5 := (zm_V_eq _ _ _).trans ((fun (k : zm_S → zm_R) => (rfl : zm_step zT_X9_free zW_X k (37, [some (.ref 0), some (.int l1), some (.ref 21), some (.int l3), some (.int l4), l5], [], (I, J)) = if (I 1 6) ≤ l4 then k (79, [some (.ref 0), some (.int l1), some (.ref 21), some (.int l3), some (.int l4), l5], [], (I, J)) else k (49, [some (.ref 0), some (.int l1), some (.ref 21), some (.int l3), some (.int l4), l5], [], (I, J)))) (zm_V zT_X9_free zW_X))
set_option maxRecDepth 20000 in
theorem zc_X9_free_X_49 (I : Nat → Nat → Int32) (J : Nat → Nat → Int64) (l1 : Int32) (l3 : Int32) (l4 : Int32) (l5 : Option Value) {N : zm_I} {r : Int32} (hF : zF_X3_seatAt zW_Y [.ref 0, .int l4, .int l1] (zm_sub2 [(21, 11)] (I, J)) = some (some (.int r), N)) : zv_X9_free_X_49 I J l1 l3 l4 l5 = zv_X9_free_X_56 (zm_mrg [(21, 11)] (I, J) N).1 (zm_mrg [(21, 11)] (I, J) N).2 l1 l3 l4 (l5) r := by
  have e : ∀ k : zm_S → zm_R, zm_step zT_X9_free zW_X k (49, [some (.ref 0), some (.int l1), some (.ref 21), some (.int l3), some (.int l4), l5], [], (I, J)) = zm_app (3, some 3, false, [(0, 11)], zF_X3_seatAt) zW_X [.ref 21, .int l4, .int l1] (I, J) (fun v N => k (56, [some (.ref 0), some (.int l1), some (.ref 21), some (.int l3), some (.int l4), l5], v.toList ++ [], N)) := fun k => rfl
  have g := zm_app_l (C := (3, some 3, false, [(0, 11)], zF_X3_seatAt)) (wl := zW_X) (as := [.ref 21, .int l4, .int l1]) (wc := zW_Y) (ac := [.ref 0, .int l4, .int l1]) (bs := [(21, 11)]) (M := (I, J)) (k := fun v N => zm_V zT_X9_free zW_X (56, [some (.ref 0), some (.int l1), some (.ref 21), some (.int l3), some (.int l4), l5], v.toList ++ [], N)) rfl rfl rfl rfl rfl rfl hF
  exact (zm_V_eq _ _ _).trans ((e _).trans g)
set_option maxRecDepth 20000 in
theorem zq_X9_free_X_56 (I : Nat → Nat → Int32) (J : Nat → Nat → Int64) (l1 : Int32) (l3 : Int32) (l4 : Int32) (l5 : Option Value) (s0 : Int32) : zv_X9_free_X_56 I J l1 l3 l4 l5 s0 = if s0 = (-1) then zv_X9_free_X_73 I J l1 l3 l4 s0 else zv_X9_free_X_64 I J l1 l3 l4 s0 := (zm_V_eq _ _ _).trans ((fun (k : zm_S → zm_R) => (rfl : zm_step zT_X9_free zW_X k (56, [some (.ref 0), some (.int l1), some (.ref 21), some (.int l3), some (.int l4), l5], [.int s0], (I, J)) = if s0 = (-1) then k (73, [some (.ref 0), some (.int l1), some (.ref 21), some (.int l3), some (.int l4), some (.int s0)], [], (I, J)) else k (64, [some (.ref 0), some (.int l1), some (.ref 21), some (.int l3), some (.int l4), some (.int s0)], [], (I, J)))) (zm_V zT_X9_free zW_X))
set_option maxRecDepth 20000 in
theorem zq_X9_free_X_64 (I : Nat → Nat → Int32) (J : Nat → Nat → Int64) (l1 : Int32) (l3 : Int32) (l4 : Int32) (l5 : Int32) : zv_X9_free_X_64 I J l1 l3 l4 l5 = zv_X9_free_X_73 I J l1 (l3 &&& ((1 <<< (l5 &&& 31)) ^^^ (-1))) l4 l5 := (zm_V_eq _ _ _).trans ((fun (k : zm_S → zm_R) => (rfl : zm_step zT_X9_free zW_X k (64, [some (.ref 0), some (.int l1), some (.ref 21), some (.int l3), some (.int l4), some (.int l5)], [], (I, J)) = k (73, [some (.ref 0), some (.int l1), some (.ref 21), some (.int (l3 &&& ((1 <<< (l5 &&& 31)) ^^^ (-1)))), some (.int l4), some (.int l5)], [], (I, J)))) (zm_V zT_X9_free zW_X))
set_option maxRecDepth 20000 in
theorem zq_X9_free_X_73 (I : Nat → Nat → Int32) (J : Nat → Nat → Int64) (l1 : Int32) (l3 : Int32) (l4 : Int32) (l5 : Int32) : zv_X9_free_X_73 I J l1 l3 l4 l5 = zv_X9_free_X_37 I J l1 l3 (l4 + 1) (some (.int l5)) := (zm_V_eq _ _ _).trans ((fun (k : zm_S → zm_R) => (rfl : zm_step zT_X9_free zW_X k (73, [some (.ref 0), some (.int l1), some (.ref 21), some (.int l3), some (.int l4), some (.int l5)], [], (I, J)) = k (37, [some (.ref 0), some (.int l1), some (.ref 21), some (.int l3), some (.int (l4 + 1)), some (.int l5)], [], (I, J)))) (zm_V zT_X9_free zW_X))
set_option maxRecDepth 20000 in
theorem zq_X9_free_X_79 (I : Nat → Nat → Int32) (J : Nat → Nat → Int64) (l1 : Int32) (l3 : Int32) (l4 : Int32) (l5 : Option Value) : zv_X9_free_X_79 I J l1 l3 l4 l5 = some (some (.int l3), (I, J)) := (zm_V_eq _ _ _).trans ((fun (k : zm_S → zm_R) => (rfl : zm_step zT_X9_free zW_X k (79, [some (.ref 0), some (.int l1), some (.ref 21), some (.int l3), some (.int l4), l5], [], (I, J)) = some (some (.int l3), (I, J)))) (zm_V zT_X9_free zW_X))
theorem zf_X9_free_X (I : Nat → Nat → Int32) (J : Nat → Nat → Int64) (l1 : Int32) : zF_X9_free zW_X [.ref 0, .int l1] (I, J) = zv_X9_free_X_0 I J l1 := rfl
noncomputable def zv_X9_opens_X_0 (I : Nat → Nat → Int32) (J : Nat → Nat → Int64) (l1 : Int32) : zm_R := zm_V zT_X9_opens zW_X (0, [some (.ref 0), some (.int l1), none, none, none], [], (I, J))
noncomputable def zv_X9_opens_X_8 (I : Nat → Nat → Int32) (J : Nat → Nat → Int64) (l1 : Int32) (s0 : Int32) : zm_R := zm_V zT_X9_opens zW_X (8, [some (.ref 0), some (.int l1), none, none, none], [.int s0], (I, J))
noncomputable def zv_X9_opens_X_11 (I : Nat → Nat → Int32) (J : Nat → Nat → Int64) (l1 : Int32) : zm_R := zm_V zT_X9_opens zW_X (11, [some (.ref 0), some (.int l1), none, none, none], [], (I, J))
noncomputable def zv_X9_opens_X_14 (I : Nat → Nat → Int32) (J : Nat → Nat → Int64) (l1 : Int32) : zm_R := zm_V zT_X9_opens zW_X (14, [some (.ref 0), some (.int l1), none, none, none], [], (I, J))
noncomputable def zv_X9_opens_X_18 (I : Nat → Nat → Int32) (J : Nat → Nat → Int64) (l1 : Int32) : zm_R := zm_V zT_X9_opens zW_X (18, [some (.ref 0), some (.int l1), none, none, none], [.ref 21], (I, J))
noncomputable def zv_X9_opens_X_21 (I : Nat → Nat → Int32) (J : Nat → Nat → Int64) (l1 : Int32) (l3 : Int32) (l4 : Option Value) : zm_R := zm_V zT_X9_opens zW_X (21, [some (.ref 0), some (.int l1), some (.ref 21), some (.int l3), l4], [], (I, J))
noncomputable def zv_X9_opens_X_27 (I : Nat → Nat → Int32) (J : Nat → Nat → Int64) (l1 : Int32) (l3 : Int32) (l4 : Option Value) : zm_R := zm_V zT_X9_opens zW_X (27, [some (.ref 0), some (.int l1), some (.ref 21), some (.int l3), l4], [], (I, J))
noncomputable def zv_X9_opens_X_30 (I : Nat → Nat → Int32) (J : Nat → Nat → Int64) (l1 : Int32) (l3 : Int32) (l4 : Int32) : zm_R := zm_V zT_X9_opens zW_X (30, [some (.ref 0), some (.int l1), some (.ref 21), some (.int l3), some (.int l4)], [], (I, J))
noncomputable def zv_X9_opens_X_42 (I : Nat → Nat → Int32) (J : Nat → Nat → Int64) (l1 : Int32) (l3 : Int32) (l4 : Int32) : zm_R := zm_V zT_X9_opens zW_X (42, [some (.ref 0), some (.int l1), some (.ref 21), some (.int l3), some (.int l4)], [], (I, J))
noncomputable def zv_X9_opens_X_49 (I : Nat → Nat → Int32) (J : Nat → Nat → Int64) (l1 : Int32) (l3 : Int32) (l4 : Int32) (s0 : Int32) : zm_R := zm_V zT_X9_opens zW_X (49, [some (.ref 0), some (.int l1), some (.ref 21), some (.int l3), some (.int l4)], [.int s0], (I, J))
noncomputable def zv_X9_opens_X_53 (I : Nat → Nat → Int32) (J : Nat → Nat → Int64) (l1 : Int32) (l3 : Int32) (l4 : Int32) : zm_R := zm_V zT_X9_opens zW_X (53, [some (.ref 0), some (.int l1), some (.ref 21), some (.int l3), some (.int l4)], [], (I, J))
noncomputable def zv_X9_opens_X_56 (I : Nat → Nat → Int32) (J : Nat → Nat → Int64) (l1 : Int32) (l3 : Int32) (l4 : Int32) : zm_R := zm_V zT_X9_opens zW_X (56, [some (.ref 0), some (.int l1), some (.ref 21), some (.int l3), some (.int l4)], [], (I, J))
noncomputable def zv_X9_opens_X_62 (I : Nat → Nat → Int32) (J : Nat → Nat → Int64) (l1 : Int32) (l3 : Int32) (l4 : Int32) : zm_R := zm_V zT_X9_opens zW_X (62, [some (.ref 0), some (.int l1), some (.ref 21), some (.int l3), some (.int l4)], [], (I, J))
noncomputable def zv_X9_opens_X_68 (I : Nat → Nat → Int32) (J : Nat → Nat → Int64) (l1 : Int32) (l3 : Int32) (l4 : Option Value) : zm_R := zm_V zT_X9_opens zW_X (68, [some (.ref 0), some (.int l1), some (.ref 21), some (.int l3), l4], [], (I, J))
set_option maxRecDepth 20000 in
theorem zc_X9_opens_X_0 (I : Nat → Nat → Int32) (J : Nat → Nat → Int64) (l1 : Int32) {N : zm_I} {r : Int32} (hF : zF_X0_hasSeat zW_B [.ref 0, .int l1] (zm_sub2 [(1, 10)] (I, J)) = some (some (.int r), N)) : zv_X9_opens_X_0 I J l1 = zv_X9_opens_X_8 (zm_mrg [(1, 10)] (I, J) N).1 (zm_mrg [(1, 10)] (I, J) N).2 l1 r := by
  have e : ∀ k : zm_S → zm_R, zm_step zT_X9_opens zW_X k (0, [some (.ref 0), some (.int l1), none, none, none], [], (I, J)) = zm_app (2, some 0, false, [(0, 10)], zF_X0_hasSeat) zW_X [.ref 1, .int l1] (I, J) (fun v N => k (8, [some (.ref 0), some (.int l1), none, none, none], v.toList ++ [], N)) := fun k => rfl
  have g := zm_app_l (C := (2, some 0, false, [(0, 10)], zF_X0_hasSeat)) (wl := zW_X) (as := [.ref 1, .int l1]) (wc := zW_B) (ac := [.ref 0, .int l1]) (bs := [(1, 10)]) (M := (I, J)) (k := fun v N => zm_V zT_X9_opens zW_X (8, [some (.ref 0), some (.int l1), none, none, none], v.toList ++ [], N)) rfl rfl rfl rfl rfl rfl hF
  exact (zm_V_eq _ _ _).trans ((e _).trans g)
set_option maxRecDepth 20000 in
theorem zq_X9_opens_X_8 (I : Nat → Nat → Int32) (J : Nat → Nat → Int64) (l1 : Int32) (s0 : Int32) : zv_X9_opens_X_8 I J l1 s0 = if s0 = 0 then zv_X9_opens_X_11 I J l1 else zv_X9_opens_X_14 I J l1 := (zm_V_eq _ _ _).trans ((fun (k : zm_S → zm_R) => (rfl : zm_step zT_X9_opens zW_X k (8, [some (.ref 0), some (.int l1), none, none, none], [.int s0], (I, J)) = if s0 = 0 then k (11, [some (.ref 0), some (.int l1), none, none, none], [], (I, J)) else k (14, [some (.ref 0), some (.int l1), none, none, none], [], (I, J)))) (zm_V zT_X9_opens zW_X))
set_option maxRecDepth 20000 in
theorem zq_X9_opens_X_11 (I : Nat → Nat → Int32) (J : Nat → Nat → Int64) (l1 : Int32) : zv_X9_opens_X_11 I J l1 = some (some (.int (-2)), (I, J)) := (zm_V_eq _ _ _).trans ((fun (k : zm_S → zm_R) => (rfl : zm_step zT_X9_opens zW_X k (11, [some (.ref 0), some (.int l1), none, none, none], [], (I, J)) = some (some (.int (-2)), (I, J)))) (zm_V zT_X9_opens zW_X))
set_option maxRecDepth 20000 in
theorem zc_X9_opens_X_14 (I : Nat → Nat → Int32) (J : Nat → Nat → Int64) (l1 : Int32) {I2 : Nat → Nat → Int32} {J2 : Nat → Nat → Int64} (hF : zF_X9_livedToday zW_X [.ref 0] (I, J) = some (some (.ref 21), (I2, J2))) : zv_X9_opens_X_14 I J l1 = zv_X9_opens_X_18 I2 J2 l1 := by
  have e : ∀ k : zm_S → zm_R, zm_step zT_X9_opens zW_X k (14, [some (.ref 0), some (.int l1), none, none, none], [], (I, J)) = zm_app (1, some 9, true, [], zF_X9_livedToday) zW_X [.ref 0] (I, J) (fun v N => k (18, [some (.ref 0), some (.int l1), none, none, none], v.toList ++ [], N)) := fun k => rfl
  have g := zm_app_s (C := (1, some 9, true, [], zF_X9_livedToday)) (wl := zW_X) (as := [.ref 0]) (M := (I, J)) (k := fun v N => zm_V zT_X9_opens zW_X (18, [some (.ref 0), some (.int l1), none, none, none], v.toList ++ [], N)) rfl rfl hF
  exact (zm_V_eq _ _ _).trans ((e _).trans g)
set_option maxRecDepth 20000 in
theorem zq_X9_opens_X_18 (I : Nat → Nat → Int32) (J : Nat → Nat → Int64) (l1 : Int32) : zv_X9_opens_X_18 I J l1 = zv_X9_opens_X_21 I J l1 0 none := (zm_V_eq _ _ _).trans ((fun (k : zm_S → zm_R) => (rfl : zm_step zT_X9_opens zW_X k (18, [some (.ref 0), some (.int l1), none, none, none], [.ref 21], (I, J)) = k (21, [some (.ref 0), some (.int l1), some (.ref 21), some (.int 0), none], [], (I, J)))) (zm_V zT_X9_opens zW_X))
set_option maxRecDepth 20000 in
theorem zq_X9_opens_X_21 (I : Nat → Nat → Int32) (J : Nat → Nat → Int64) (l1 : Int32) (l3 : Int32) (l4 : Option Value) : zv_X9_opens_X_21 I J l1 l3 l4 = if 61 ≤ l3 then zv_X9_opens_X_68 I J l1 l3 l4 else zv_X9_opens_X_27 I J l1 l3 l4 := (zm_V_eq _ _ _).trans ((fun (k : zm_S → zm_R) => (rfl : zm_step zT_X9_opens zW_X k (21, [some (.ref 0), some (.int l1), some (.ref 21), some (.int l3), l4], [], (I, J)) = if 61 ≤ l3 then k (68, [some (.ref 0), some (.int l1), some (.ref 21), some (.int l3), l4], [], (I, J)) else k (27, [some (.ref 0), some (.int l1), some (.ref 21), some (.int l3), l4], [], (I, J)))) (zm_V zT_X9_opens zW_X))
set_option maxRecDepth 20000 in
theorem zq_X9_opens_X_27 (I : Nat → Nat → Int32) (J : Nat → Nat → Int64) (l1 : Int32) (l3 : Int32) (l4 : Option Value) : zv_X9_opens_X_27 I J l1 l3 l4 = zv_X9_opens_X_30 I J l1 l3 0 := (zm_V_eq _ _ _).trans ((fun (k : zm_S → zm_R) => (rfl : zm_step zT_X9_opens zW_X k (27, [some (.ref 0), some (.int l1), some (.ref 21), some (.int l3), l4], [], (I, J)) = k (30, [some (.ref 0), some (.int l1), some (.ref 21), some (.int l3), some (.int 0)], [], (I, J)))) (zm_V zT_X9_opens zW_X))
set_option maxRecDepth 20000 in
theorem zq_X9_opens_X_30 (I : Nat → Nat → Int32) (J : Nat → Nat → Int64) (l1 : Int32) (l3 : Int32) (l4 : Int32) : zv_X9_opens_X_30 I J l1 l3 l4 = if (I 1 6) ≤ l4 then zv_X9_opens_X_62 I J l1 l3 l4 else zv_X9_opens_X_42 I J l1 l3 l4 := (zm_V_eq _ _ _).trans ((fun (k : zm_S → zm_R) => (rfl : zm_step zT_X9_opens zW_X k (30, [some (.ref 0), some (.int l1), some (.ref 21), some (.int l3), some (.int l4)], [], (I, J)) = if (I 1 6) ≤ l4 then k (62, [some (.ref 0), some (.int l1), some (.ref 21), some (.int l3), some (.int l4)], [], (I, J)) else k (42, [some (.ref 0), some (.int l1), some (.ref 21), some (.int l3), some (.int l4)], [], (I, J)))) (zm_V zT_X9_opens zW_X))
set_option maxRecDepth 20000 in
theorem zc_X9_opens_X_42 (I : Nat → Nat → Int32) (J : Nat → Nat → Int64) (l1 : Int32) (l3 : Int32) (l4 : Int32) {N : zm_I} {r : Int32} (hF : zF_X3_seatAt zW_Y [.ref 0, .int l4, .int l3] (zm_sub2 [(21, 11)] (I, J)) = some (some (.int r), N)) : zv_X9_opens_X_42 I J l1 l3 l4 = zv_X9_opens_X_49 (zm_mrg [(21, 11)] (I, J) N).1 (zm_mrg [(21, 11)] (I, J) N).2 l1 l3 l4 r := by
  have e : ∀ k : zm_S → zm_R, zm_step zT_X9_opens zW_X k (42, [some (.ref 0), some (.int l1), some (.ref 21), some (.int l3), some (.int l4)], [], (I, J)) = zm_app (3, some 3, false, [(0, 11)], zF_X3_seatAt) zW_X [.ref 21, .int l4, .int l3] (I, J) (fun v N => k (49, [some (.ref 0), some (.int l1), some (.ref 21), some (.int l3), some (.int l4)], v.toList ++ [], N)) := fun k => rfl
  have g := zm_app_l (C := (3, some 3, false, [(0, 11)], zF_X3_seatAt)) (wl := zW_X) (as := [.ref 21, .int l4, .int l3]) (wc := zW_Y) (ac := [.ref 0, .int l4, .int l3]) (bs := [(21, 11)]) (M := (I, J)) (k := fun v N => zm_V zT_X9_opens zW_X (49, [some (.ref 0), some (.int l1), some (.ref 21), some (.int l3), some (.int l4)], v.toList ++ [], N)) rfl rfl rfl rfl rfl rfl hF
  exact (zm_V_eq _ _ _).trans ((e _).trans g)
set_option maxRecDepth 20000 in
theorem zq_X9_opens_X_49 (I : Nat → Nat → Int32) (J : Nat → Nat → Int64) (l1 : Int32) (l3 : Int32) (l4 : Int32) (s0 : Int32) : zv_X9_opens_X_49 I J l1 l3 l4 s0 = if s0 = l1 then zv_X9_opens_X_53 I J l1 l3 l4 else zv_X9_opens_X_56 I J l1 l3 l4 := (zm_V_eq _ _ _).trans ((fun (k : zm_S → zm_R) => (rfl : zm_step zT_X9_opens zW_X k (49, [some (.ref 0), some (.int l1), some (.ref 21), some (.int l3), some (.int l4)], [.int s0], (I, J)) = if s0 = l1 then k (53, [some (.ref 0), some (.int l1), some (.ref 21), some (.int l3), some (.int l4)], [], (I, J)) else k (56, [some (.ref 0), some (.int l1), some (.ref 21), some (.int l3), some (.int l4)], [], (I, J)))) (zm_V zT_X9_opens zW_X))
set_option maxRecDepth 20000 in
theorem zq_X9_opens_X_53 (I : Nat → Nat → Int32) (J : Nat → Nat → Int64) (l1 : Int32) (l3 : Int32) (l4 : Int32) : zv_X9_opens_X_53 I J l1 l3 l4 = some (some (.int l4), (I, J)) := (zm_V_eq _ _ _).trans ((fun (k : zm_S → zm_R) => (rfl : zm_step zT_X9_opens zW_X k (53, [some (.ref 0), some (.int l1), some (.ref 21), some (.int l3), some (.int l4)], [], (I, J)) = some (some (.int l4), (I, J)))) (zm_V zT_X9_opens zW_X))
set_option maxRecDepth 20000 in
theorem zq_X9_opens_X_56 (I : Nat → Nat → Int32) (J : Nat → Nat → Int64) (l1 : Int32) (l3 : Int32) (l4 : Int32) : zv_X9_opens_X_56 I J l1 l3 l4 = zv_X9_opens_X_30 I J l1 l3 (l4 + 1) := (zm_V_eq _ _ _).trans ((fun (k : zm_S → zm_R) => (rfl : zm_step zT_X9_opens zW_X k (56, [some (.ref 0), some (.int l1), some (.ref 21), some (.int l3), some (.int l4)], [], (I, J)) = k (30, [some (.ref 0), some (.int l1), some (.ref 21), some (.int l3), some (.int (l4 + 1))], [], (I, J)))) (zm_V zT_X9_opens zW_X))
set_option maxRecDepth 20000 in
theorem zq_X9_opens_X_62 (I : Nat → Nat → Int32) (J : Nat → Nat → Int64) (l1 : Int32) (l3 : Int32) (l4 : Int32) : zv_X9_opens_X_62 I J l1 l3 l4 = zv_X9_opens_X_21 I J l1 (l3 + 1) (some (.int l4)) := (zm_V_eq _ _ _).trans ((fun (k : zm_S → zm_R) => (rfl : zm_step zT_X9_opens zW_X k (62, [some (.ref 0), some (.int l1), some (.ref 21), some (.int l3), some (.int l4)], [], (I, J)) = k (21, [some (.ref 0), some (.int l1), some (.ref 21), some (.int (l3 + 1)), some (.int l4)], [], (I, J)))) (zm_V zT_X9_opens zW_X))
set_option maxRecDepth 20000 in
theorem zq_X9_opens_X_68 (I : Nat → Nat → Int32) (J : Nat → Nat → Int64) (l1 : Int32) (l3 : Int32) (l4 : Option Value) : zv_X9_opens_X_68 I J l1 l3 l4 = some (some (.int (-1)), (I, J)) := (zm_V_eq _ _ _).trans ((fun (k : zm_S → zm_R) => (rfl : zm_step zT_X9_opens zW_X k (68, [some (.ref 0), some (.int l1), some (.ref 21), some (.int l3), l4], [], (I, J)) = some (some (.int (-1)), (I, J)))) (zm_V zT_X9_opens zW_X))
theorem zf_X9_opens_X (I : Nat → Nat → Int32) (J : Nat → Nat → Int64) (l1 : Int32) : zF_X9_opens zW_X [.ref 0, .int l1] (I, J) = zv_X9_opens_X_0 I J l1 := rfl
noncomputable def zv_X9_last_X_0 (I : Nat → Nat → Int32) (J : Nat → Nat → Int64) : zm_R := zm_V zT_X9_last zW_X (0, [some (.ref 0), none, none, none], [], (I, J))
noncomputable def zv_X9_last_X_4 (I : Nat → Nat → Int32) (J : Nat → Nat → Int64) (s0 : Int32) : zm_R := zm_V zT_X9_last zW_X (4, [some (.ref 0), none, none, none], [.int s0], (I, J))
noncomputable def zv_X9_last_X_7 (I : Nat → Nat → Int32) (J : Nat → Nat → Int64) : zm_R := zm_V zT_X9_last zW_X (7, [some (.ref 0), none, none, none], [], (I, J))
noncomputable def zv_X9_last_X_10 (I : Nat → Nat → Int32) (J : Nat → Nat → Int64) : zm_R := zm_V zT_X9_last zW_X (10, [some (.ref 0), none, none, none], [], (I, J))
noncomputable def zv_X9_last_X_14 (I : Nat → Nat → Int32) (J : Nat → Nat → Int64) : zm_R := zm_V zT_X9_last zW_X (14, [some (.ref 0), none, none, none], [.ref 21], (I, J))
noncomputable def zv_X9_last_X_22 (I : Nat → Nat → Int32) (J : Nat → Nat → Int64) (l2 : Int32) (l3 : Int32) : zm_R := zm_V zT_X9_last zW_X (22, [some (.ref 0), some (.ref 22), some (.int l2), some (.int l3)], [], (I, J))
noncomputable def zv_X9_last_X_33 (I : Nat → Nat → Int32) (J : Nat → Nat → Int64) (l2 : Int32) (l3 : Int32) : zm_R := zm_V zT_X9_last zW_X (33, [some (.ref 0), some (.ref 22), some (.int l2), some (.int l3)], [], (I, J))
noncomputable def zv_X9_last_X_50 (I : Nat → Nat → Int32) (J : Nat → Nat → Int64) (l2 : Int32) (l3 : Int32) : zm_R := zm_V zT_X9_last zW_X (50, [some (.ref 0), some (.ref 22), some (.int l2), some (.int l3)], [], (I, J))
set_option maxRecDepth 20000 in
theorem zc_X9_last_X_0 (I : Nat → Nat → Int32) (J : Nat → Nat → Int64) {I2 : Nat → Nat → Int32} {J2 : Nat → Nat → Int64} {r : Int32} (hF : zF_X9_hasBench zW_X [.ref 0] (I, J) = some (some (.int r), (I2, J2))) : zv_X9_last_X_0 I J = zv_X9_last_X_4 I2 J2 r := by
  have e : ∀ k : zm_S → zm_R, zm_step zT_X9_last zW_X k (0, [some (.ref 0), none, none, none], [], (I, J)) = zm_app (1, some 9, true, [], zF_X9_hasBench) zW_X [.ref 0] (I, J) (fun v N => k (4, [some (.ref 0), none, none, none], v.toList ++ [], N)) := fun k => rfl
  have g := zm_app_s (C := (1, some 9, true, [], zF_X9_hasBench)) (wl := zW_X) (as := [.ref 0]) (M := (I, J)) (k := fun v N => zm_V zT_X9_last zW_X (4, [some (.ref 0), none, none, none], v.toList ++ [], N)) rfl rfl hF
  exact (zm_V_eq _ _ _).trans ((e _).trans g)
set_option maxRecDepth 20000 in
theorem zq_X9_last_X_4 (I : Nat → Nat → Int32) (J : Nat → Nat → Int64) (s0 : Int32) : zv_X9_last_X_4 I J s0 = if s0 = 0 then zv_X9_last_X_7 I J else zv_X9_last_X_10 I J := (zm_V_eq _ _ _).trans ((fun (k : zm_S → zm_R) => (rfl : zm_step zT_X9_last zW_X k (4, [some (.ref 0), none, none, none], [.int s0], (I, J)) = if s0 = 0 then k (7, [some (.ref 0), none, none, none], [], (I, J)) else k (10, [some (.ref 0), none, none, none], [], (I, J)))) (zm_V zT_X9_last zW_X))
set_option maxRecDepth 20000 in
theorem zq_X9_last_X_7 (I : Nat → Nat → Int32) (J : Nat → Nat → Int64) : zv_X9_last_X_7 I J = some (some (.int (-2)), (I, J)) := (zm_V_eq _ _ _).trans ((fun (k : zm_S → zm_R) => (rfl : zm_step zT_X9_last zW_X k (7, [some (.ref 0), none, none, none], [], (I, J)) = some (some (.int (-2)), (I, J)))) (zm_V zT_X9_last zW_X))
set_option maxRecDepth 20000 in
theorem zc_X9_last_X_10 (I : Nat → Nat → Int32) (J : Nat → Nat → Int64) {I2 : Nat → Nat → Int32} {J2 : Nat → Nat → Int64} (hF : zF_X9_livedToday zW_X [.ref 0] (I, J) = some (some (.ref 21), (I2, J2))) : zv_X9_last_X_10 I J = zv_X9_last_X_14 I2 J2  := by
  have e : ∀ k : zm_S → zm_R, zm_step zT_X9_last zW_X k (10, [some (.ref 0), none, none, none], [], (I, J)) = zm_app (1, some 9, true, [], zF_X9_livedToday) zW_X [.ref 0] (I, J) (fun v N => k (14, [some (.ref 0), none, none, none], v.toList ++ [], N)) := fun k => rfl
  have g := zm_app_s (C := (1, some 9, true, [], zF_X9_livedToday)) (wl := zW_X) (as := [.ref 0]) (M := (I, J)) (k := fun v N => zm_V zT_X9_last zW_X (14, [some (.ref 0), none, none, none], v.toList ++ [], N)) rfl rfl hF
  exact (zm_V_eq _ _ _).trans ((e _).trans g)
set_option maxRecDepth 20000 in
theorem zq_X9_last_X_14 (I : Nat → Nat → Int32) (J : Nat → Nat → Int64) : zv_X9_last_X_14 I J = zv_X9_last_X_22 I J (-1) 0 := (zm_V_eq _ _ _).trans ((fun (k : zm_S → zm_R) => (rfl : zm_step zT_X9_last zW_X k (14, [some (.ref 0), none, none, none], [.ref 21], (I, J)) = k (22, [some (.ref 0), some (.ref 22), some (.int (-1)), some (.int 0)], [], (I, J)))) (zm_V zT_X9_last zW_X))
set_option maxRecDepth 20000 in
theorem zq_X9_last_X_22 (I : Nat → Nat → Int32) (J : Nat → Nat → Int64) (l2 : Int32) (l3 : Int32) : zv_X9_last_X_22 I J l2 l3 = if (I 1 6) ≤ l3 then zv_X9_last_X_50 I J l2 l3 else zv_X9_last_X_33 I J l2 l3 := (zm_V_eq _ _ _).trans ((fun (k : zm_S → zm_R) => (rfl : zm_step zT_X9_last zW_X k (22, [some (.ref 0), some (.ref 22), some (.int l2), some (.int l3)], [], (I, J)) = if (I 1 6) ≤ l3 then k (50, [some (.ref 0), some (.ref 22), some (.int l2), some (.int l3)], [], (I, J)) else k (33, [some (.ref 0), some (.ref 22), some (.int l2), some (.int l3)], [], (I, J)))) (zm_V zT_X9_last zW_X))
set_option maxRecDepth 20000 in
theorem zq_X9_last_X_33 (I : Nat → Nat → Int32) (J : Nat → Nat → Int64) (l2 : Int32) (l3 : Int32) : zv_X9_last_X_33 I J l2 l3 = if (l3 : Int32) < 0 ∨ 5 ≤ Int32.toNatClampNeg l3 then none else zv_X9_last_X_22 I J (if l2 < (I 27 (Int32.toNatClampNeg l3)) then (I 27 (Int32.toNatClampNeg l3)) else l2) (l3 + 1) := (zm_V_eq _ _ _).trans ((fun (k : zm_S → zm_R) => (rfl : zm_step zT_X9_last zW_X k (33, [some (.ref 0), some (.ref 22), some (.int l2), some (.int l3)], [], (I, J)) = if (l3 : Int32) < 0 ∨ 5 ≤ Int32.toNatClampNeg l3 then none else k (22, [some (.ref 0), some (.ref 22), some (.int (if l2 < (I 27 (Int32.toNatClampNeg l3)) then (I 27 (Int32.toNatClampNeg l3)) else l2)), some (.int (l3 + 1))], [], (I, J)))) (zm_V zT_X9_last zW_X))
set_option maxRecDepth 20000 in
theorem zq_X9_last_X_50 (I : Nat → Nat → Int32) (J : Nat → Nat → Int64) (l2 : Int32) (l3 : Int32) : zv_X9_last_X_50 I J l2 l3 = some (some (.int l2), (I, J)) := (zm_V_eq _ _ _).trans ((fun (k : zm_S → zm_R) => (rfl : zm_step zT_X9_last zW_X k (50, [some (.ref 0), some (.ref 22), some (.int l2), some (.int l3)], [], (I, J)) = some (some (.int l2), (I, J)))) (zm_V zT_X9_last zW_X))
theorem zf_X9_last_X (I : Nat → Nat → Int32) (J : Nat → Nat → Int64) : zF_X9_last zW_X [.ref 0] (I, J) = zv_X9_last_X_0 I J := rfl
noncomputable def zv_X9_worn_X_0 (I : Nat → Nat → Int32) (J : Nat → Nat → Int64) (l1 : Int32) (l2 : Int32) : zm_R := zm_V zT_X9_worn zW_X (0, [some (.ref 0), some (.int l1), some (.int l2)], [], (I, J))
noncomputable def zv_X9_worn_X_8 (I : Nat → Nat → Int32) (J : Nat → Nat → Int64) (l1 : Int32) (l2 : Int32) (s0 : Int32) : zm_R := zm_V zT_X9_worn zW_X (8, [some (.ref 0), some (.int l1), some (.int l2)], [.int s0], (I, J))
noncomputable def zv_X9_worn_X_11 (I : Nat → Nat → Int32) (J : Nat → Nat → Int64) (l1 : Int32) (l2 : Int32) : zm_R := zm_V zT_X9_worn zW_X (11, [some (.ref 0), some (.int l1), some (.int l2)], [], (I, J))
noncomputable def zv_X9_worn_X_19 (I : Nat → Nat → Int32) (J : Nat → Nat → Int64) (l1 : Int32) (l2 : Int32) (s0 : Int32) : zm_R := zm_V zT_X9_worn zW_X (19, [some (.ref 0), some (.int l1), some (.int l2)], [.int s0], (I, J))
noncomputable def zv_X9_worn_X_22 (I : Nat → Nat → Int32) (J : Nat → Nat → Int64) (l1 : Int32) (l2 : Int32) : zm_R := zm_V zT_X9_worn zW_X (22, [some (.ref 0), some (.int l1), some (.int l2)], [], (I, J))
noncomputable def zv_X9_worn_X_25 (I : Nat → Nat → Int32) (J : Nat → Nat → Int64) (l1 : Int32) (l2 : Int32) : zm_R := zm_V zT_X9_worn zW_X (25, [some (.ref 0), some (.int l1), some (.int l2)], [], (I, J))
noncomputable def zv_X9_worn_X_29 (I : Nat → Nat → Int32) (J : Nat → Nat → Int64) (l1 : Int32) (l2 : Int32) : zm_R := zm_V zT_X9_worn zW_X (29, [some (.ref 0), some (.int l1), some (.int l2)], [.ref 21], (I, J))
noncomputable def zv_X9_worn_X_34 (I : Nat → Nat → Int32) (J : Nat → Nat → Int64) (l1 : Int32) (l2 : Int32) (s0 : Int32) : zm_R := zm_V zT_X9_worn zW_X (34, [some (.ref 0), some (.int l1), some (.int l2)], [.int s0], (I, J))
set_option maxRecDepth 20000 in
theorem zc_X9_worn_X_0 (I : Nat → Nat → Int32) (J : Nat → Nat → Int64) (l1 : Int32) (l2 : Int32) {N : zm_I} {r : Int32} (hF : zF_X0_hasCaller zW_B [.ref 0, .int l1] (zm_sub2 [(1, 10)] (I, J)) = some (some (.int r), N)) : zv_X9_worn_X_0 I J l1 l2 = zv_X9_worn_X_8 (zm_mrg [(1, 10)] (I, J) N).1 (zm_mrg [(1, 10)] (I, J) N).2 l1 l2 r := by
  have e : ∀ k : zm_S → zm_R, zm_step zT_X9_worn zW_X k (0, [some (.ref 0), some (.int l1), some (.int l2)], [], (I, J)) = zm_app (2, some 0, false, [(0, 10)], zF_X0_hasCaller) zW_X [.ref 1, .int l1] (I, J) (fun v N => k (8, [some (.ref 0), some (.int l1), some (.int l2)], v.toList ++ [], N)) := fun k => rfl
  have g := zm_app_l (C := (2, some 0, false, [(0, 10)], zF_X0_hasCaller)) (wl := zW_X) (as := [.ref 1, .int l1]) (wc := zW_B) (ac := [.ref 0, .int l1]) (bs := [(1, 10)]) (M := (I, J)) (k := fun v N => zm_V zT_X9_worn zW_X (8, [some (.ref 0), some (.int l1), some (.int l2)], v.toList ++ [], N)) rfl rfl rfl rfl rfl rfl hF
  exact (zm_V_eq _ _ _).trans ((e _).trans g)
set_option maxRecDepth 20000 in
theorem zq_X9_worn_X_8 (I : Nat → Nat → Int32) (J : Nat → Nat → Int64) (l1 : Int32) (l2 : Int32) (s0 : Int32) : zv_X9_worn_X_8 I J l1 l2 s0 = if s0 = 0 then zv_X9_worn_X_22 I J l1 l2 else zv_X9_worn_X_11 I J l1 l2 := (zm_V_eq _ _ _).trans ((fun (k : zm_S → zm_R) => (rfl : zm_step zT_X9_worn zW_X k (8, [some (.ref 0), some (.int l1), some (.int l2)], [.int s0], (I, J)) = if s0 = 0 then k (22, [some (.ref 0), some (.int l1), some (.int l2)], [], (I, J)) else k (11, [some (.ref 0), some (.int l1), some (.int l2)], [], (I, J)))) (zm_V zT_X9_worn zW_X))
set_option maxRecDepth 20000 in
theorem zc_X9_worn_X_11 (I : Nat → Nat → Int32) (J : Nat → Nat → Int64) (l1 : Int32) (l2 : Int32) {N : zm_I} {r : Int32} (hF : zF_X0_hasSeat zW_B [.ref 0, .int l2] (zm_sub2 [(1, 10)] (I, J)) = some (some (.int r), N)) : zv_X9_worn_X_11 I J l1 l2 = zv_X9_worn_X_19 (zm_mrg [(1, 10)] (I, J) N).1 (zm_mrg [(1, 10)] (I, J) N).2 l1 l2 r := by
  have e : ∀ k : zm_S → zm_R, zm_step zT_X9_worn zW_X k (11, [some (.ref 0), some (.int l1), some (.int l2)], [], (I, J)) = zm_app (2, some 0, false, [(0, 10)], zF_X0_hasSeat) zW_X [.ref 1, .int l2] (I, J) (fun v N => k (19, [some (.ref 0), some (.int l1), some (.int l2)], v.toList ++ [], N)) := fun k => rfl
  have g := zm_app_l (C := (2, some 0, false, [(0, 10)], zF_X0_hasSeat)) (wl := zW_X) (as := [.ref 1, .int l2]) (wc := zW_B) (ac := [.ref 0, .int l2]) (bs := [(1, 10)]) (M := (I, J)) (k := fun v N => zm_V zT_X9_worn zW_X (19, [some (.ref 0), some (.int l1), some (.int l2)], v.toList ++ [], N)) rfl rfl rfl rfl rfl rfl hF
  exact (zm_V_eq _ _ _).trans ((e _).trans g)
set_option maxRecDepth 20000 in
theorem zq_X9_worn_X_19 (I : Nat → Nat → Int32) (J : Nat → Nat → Int64) (l1 : Int32) (l2 : Int32) (s0 : Int32) : zv_X9_worn_X_19 I J l1 l2 s0 = if s0 = 0 then zv_X9_worn_X_22 I J l1 l2 else zv_X9_worn_X_25 I J l1 l2 := (zm_V_eq _ _ _).trans ((fun (k : zm_S → zm_R) => (rfl : zm_step zT_X9_worn zW_X k (19, [some (.ref 0), some (.int l1), some (.int l2)], [.int s0], (I, J)) = if s0 = 0 then k (22, [some (.ref 0), some (.int l1), some (.int l2)], [], (I, J)) else k (25, [some (.ref 0), some (.int l1), some (.int l2)], [], (I, J)))) (zm_V zT_X9_worn zW_X))
set_option maxRecDepth 20000 in
theorem zq_X9_worn_X_22 (I : Nat → Nat → Int32) (J : Nat → Nat → Int64) (l1 : Int32) (l2 : Int32) : zv_X9_worn_X_22 I J l1 l2 = some (some (.int (-2)), (I, J)) := (zm_V_eq _ _ _).trans ((fun (k : zm_S → zm_R) => (rfl : zm_step zT_X9_worn zW_X k (22, [some (.ref 0), some (.int l1), some (.int l2)], [], (I, J)) = some (some (.int (-2)), (I, J)))) (zm_V zT_X9_worn zW_X))
set_option maxRecDepth 20000 in
theorem zc_X9_worn_X_25 (I : Nat → Nat → Int32) (J : Nat → Nat → Int64) (l1 : Int32) (l2 : Int32) {I2 : Nat → Nat → Int32} {J2 : Nat → Nat → Int64} (hF : zF_X9_livedToday zW_X [.ref 0] (I, J) = some (some (.ref 21), (I2, J2))) : zv_X9_worn_X_25 I J l1 l2 = zv_X9_worn_X_29 I2 J2 l1 l2 := by
  have e : ∀ k : zm_S → zm_R, zm_step zT_X9_worn zW_X k (25, [some (.ref 0), some (.int l1), some (.int l2)], [], (I, J)) = zm_app (1, some 9, true, [], zF_X9_livedToday) zW_X [.ref 0] (I, J) (fun v N => k (29, [some (.ref 0), some (.int l1), some (.int l2)], v.toList ++ [], N)) := fun k => rfl
  have g := zm_app_s (C := (1, some 9, true, [], zF_X9_livedToday)) (wl := zW_X) (as := [.ref 0]) (M := (I, J)) (k := fun v N => zm_V zT_X9_worn zW_X (29, [some (.ref 0), some (.int l1), some (.int l2)], v.toList ++ [], N)) rfl rfl hF
  exact (zm_V_eq _ _ _).trans ((e _).trans g)
set_option maxRecDepth 20000 in
theorem zc_X9_worn_X_29 (I : Nat → Nat → Int32) (J : Nat → Nat → Int64) (l1 : Int32) (l2 : Int32) {N : zm_I} {r : Int32} (hF : zF_X3_minutesOn zW_Y [.ref 0, .int l1, .int l2] (zm_sub2 [(21, 11)] (I, J)) = some (some (.int r), N)) : zv_X9_worn_X_29 I J l1 l2 = zv_X9_worn_X_34 (zm_mrg [(21, 11)] (I, J) N).1 (zm_mrg [(21, 11)] (I, J) N).2 l1 l2 r := by
  have e : ∀ k : zm_S → zm_R, zm_step zT_X9_worn zW_X k (29, [some (.ref 0), some (.int l1), some (.int l2)], [.ref 21], (I, J)) = zm_app (3, some 3, false, [(0, 11)], zF_X3_minutesOn) zW_X [.ref 21, .int l1, .int l2] (I, J) (fun v N => k (34, [some (.ref 0), some (.int l1), some (.int l2)], v.toList ++ [], N)) := fun k => rfl
  have g := zm_app_l (C := (3, some 3, false, [(0, 11)], zF_X3_minutesOn)) (wl := zW_X) (as := [.ref 21, .int l1, .int l2]) (wc := zW_Y) (ac := [.ref 0, .int l1, .int l2]) (bs := [(21, 11)]) (M := (I, J)) (k := fun v N => zm_V zT_X9_worn zW_X (34, [some (.ref 0), some (.int l1), some (.int l2)], v.toList ++ [], N)) rfl rfl rfl rfl rfl rfl hF
  exact (zm_V_eq _ _ _).trans ((e _).trans g)
set_option maxRecDepth 20000 in
theorem zq_X9_worn_X_34 (I : Nat → Nat → Int32) (J : Nat → Nat → Int64) (l1 : Int32) (l2 : Int32) (s0 : Int32) : zv_X9_worn_X_34 I J l1 l2 s0 = some (some (.int s0), (I, J)) := (zm_V_eq _ _ _).trans ((fun (k : zm_S → zm_R) => (rfl : zm_step zT_X9_worn zW_X k (34, [some (.ref 0), some (.int l1), some (.int l2)], [.int s0], (I, J)) = some (some (.int s0), (I, J)))) (zm_V zT_X9_worn zW_X))
theorem zf_X9_worn_X (I : Nat → Nat → Int32) (J : Nat → Nat → Int64) (l1 : Int32) (l2 : Int32) : zF_X9_worn zW_X [.ref 0, .int l1, .int l2] (I, J) = zv_X9_worn_X_0 I J l1 l2 := rfl
noncomputable def zv_X3_isThere_Y_0 (I : Nat → Nat → Int32) (J : Nat → Nat → Int64) (l1 : Int32) (l2 : Int32) : zm_R := zm_V zT_X3_isThere zW_Y (0, [some (.ref 0), some (.int l1), some (.int l2)], [], (I, J))
noncomputable def zv_X3_isThere_Y_6 (I : Nat → Nat → Int32) (J : Nat → Nat → Int64) (l1 : Int32) (l2 : Int32) (s0 : Int32) : zm_R := zm_V zT_X3_isThere zW_Y (6, [some (.ref 0), some (.int l1), some (.int l2)], [.int s0], (I, J))
noncomputable def zv_X3_isThere_Y_10 (I : Nat → Nat → Int32) (J : Nat → Nat → Int64) (l1 : Int32) (l2 : Int32) : zm_R := zm_V zT_X3_isThere zW_Y (10, [some (.ref 0), some (.int l1), some (.int l2)], [], (I, J))
noncomputable def zv_X3_isThere_Y_14 (I : Nat → Nat → Int32) (J : Nat → Nat → Int64) (l1 : Int32) (l2 : Int32) : zm_R := zm_V zT_X3_isThere zW_Y (14, [some (.ref 0), some (.int l1), some (.int l2)], [], (I, J))
noncomputable def zv_X3_isThere_Y_15 (I : Nat → Nat → Int32) (J : Nat → Nat → Int64) (l1 : Int32) (l2 : Int32) (s0 : Int32) : zm_R := zm_V zT_X3_isThere zW_Y (15, [some (.ref 0), some (.int l1), some (.int l2)], [.int s0], (I, J))
theorem zc_X3_isThere_Y_0 (I : Nat → Nat → Int32) (J : Nat → Nat → Int64) (l1 : Int32) (l2 : Int32) {I2 : Nat → Nat → Int32} {J2 : Nat → Nat → Int64} {r : Int32} (hF : zF_X3_ageAt zW_Y [.ref 0, .int l1, .int l2] (I, J) = some (some (.int r), (I2, J2))) : zv_X3_isThere_Y_0 I J l1 l2 = zv_X3_isThere_Y_6 I2 J2 l1 l2 r := by
  have e : ∀ k : zm_S → zm_R, zm_step zT_X3_isThere zW_Y k (0, [some (.ref 0), some (.int l1), some (.int l2)], [], (I, J)) = zm_app (3, some 3, true, [], zF_X3_ageAt) zW_Y [.ref 0, .int l1, .int l2] (I, J) (fun v N => k (6, [some (.ref 0), some (.int l1), some (.int l2)], v.toList ++ [], N)) := fun k => rfl
  have g := zm_app_s (C := (3, some 3, true, [], zF_X3_ageAt)) (wl := zW_Y) (as := [.ref 0, .int l1, .int l2]) (M := (I, J)) (k := fun v N => zm_V zT_X3_isThere zW_Y (6, [some (.ref 0), some (.int l1), some (.int l2)], v.toList ++ [], N)) rfl rfl hF
  exact (zm_V_eq _ _ _).trans ((e _).trans g)
theorem zq_X3_isThere_Y_6 (I : Nat → Nat → Int32) (J : Nat → Nat → Int64) (l1 : Int32) (l2 : Int32) (s0 : Int32) : zv_X3_isThere_Y_6 I J l1 l2 s0 = if s0 = (-1) then zv_X3_isThere_Y_14 I J l1 l2 else zv_X3_isThere_Y_10 I J l1 l2 := (zm_V_eq _ _ _).trans ((fun (k : zm_S → zm_R) => (rfl : zm_step zT_X3_isThere zW_Y k (6, [some (.ref 0), some (.int l1), some (.int l2)], [.int s0], (I, J)) = if s0 = (-1) then k (14, [some (.ref 0), some (.int l1), some (.int l2)], [], (I, J)) else k (10, [some (.ref 0), some (.int l1), some (.int l2)], [], (I, J)))) (zm_V zT_X3_isThere zW_Y))
theorem zq_X3_isThere_Y_10 (I : Nat → Nat → Int32) (J : Nat → Nat → Int64) (l1 : Int32) (l2 : Int32) : zv_X3_isThere_Y_10 I J l1 l2 = zv_X3_isThere_Y_15 I J l1 l2 1 := (zm_V_eq _ _ _).trans ((fun (k : zm_S → zm_R) => (rfl : zm_step zT_X3_isThere zW_Y k (10, [some (.ref 0), some (.int l1), some (.int l2)], [], (I, J)) = k (15, [some (.ref 0), some (.int l1), some (.int l2)], [.int 1], (I, J)))) (zm_V zT_X3_isThere zW_Y))
theorem zq_X3_isThere_Y_14 (I : Nat → Nat → Int32) (J : Nat → Nat → Int64) (l1 : Int32) (l2 : Int32) : zv_X3_isThere_Y_14 I J l1 l2 = zv_X3_isThere_Y_15 I J l1 l2 0 := (zm_V_eq _ _ _).trans ((fun (k : zm_S → zm_R) => (rfl : zm_step zT_X3_isThere zW_Y k (14, [some (.ref 0), some (.int l1), some (.int l2)], [], (I, J)) = k (15, [some (.ref 0), some (.int l1), some (.int l2)], [.int 0], (I, J)))) (zm_V zT_X3_isThere zW_Y))
theorem zq_X3_isThere_Y_15 (I : Nat → Nat → Int32) (J : Nat → Nat → Int64) (l1 : Int32) (l2 : Int32) (s0 : Int32) : zv_X3_isThere_Y_15 I J l1 l2 s0 = if s0 = 0 ∨ s0 = 1 then some (some (.int s0), (I, J)) else none := (zm_V_eq _ _ _).trans ((fun (k : zm_S → zm_R) => (rfl : zm_step zT_X3_isThere zW_Y k (15, [some (.ref 0), some (.int l1), some (.int l2)], [.int s0], (I, J)) = if s0 = 0 ∨ s0 = 1 then some (some (.int s0), (I, J)) else none)) (zm_V zT_X3_isThere zW_Y))
theorem zf_X3_isThere_Y (I : Nat → Nat → Int32) (J : Nat → Nat → Int64) (l1 : Int32) (l2 : Int32) : zF_X3_isThere zW_Y [.ref 0, .int l1, .int l2] (I, J) = zv_X3_isThere_Y_0 I J l1 l2 := rfl
noncomputable def zv_X3_minutesOn_Y_0 (I : Nat → Nat → Int32) (J : Nat → Nat → Int64) (l1 : Int32) (l2 : Int32) : zm_R := zm_V zT_X3_minutesOn zW_Y (0, [some (.ref 0), some (.int l1), some (.int l2), none, none], [], (I, J))
noncomputable def zv_X3_minutesOn_Y_5 (I : Nat → Nat → Int32) (J : Nat → Nat → Int64) (l1 : Int32) (l2 : Int32) (l3 : Int32) (l4 : Int32) : zm_R := zm_V zT_X3_minutesOn zW_Y (5, [some (.ref 0), some (.int l1), some (.int l2), some (.int l3), some (.int l4)], [], (I, J))
noncomputable def zv_X3_minutesOn_Y_12 (I : Nat → Nat → Int32) (J : Nat → Nat → Int64) (l1 : Int32) (l2 : Int32) (l3 : Int32) (l4 : Int32) : zm_R := zm_V zT_X3_minutesOn zW_Y (12, [some (.ref 0), some (.int l1), some (.int l2), some (.int l3), some (.int l4)], [], (I, J))
noncomputable def zv_X3_minutesOn_Y_19 (I : Nat → Nat → Int32) (J : Nat → Nat → Int64) (l1 : Int32) (l2 : Int32) (l3 : Int32) (l4 : Int32) (s0 : Int32) : zm_R := zm_V zT_X3_minutesOn zW_Y (19, [some (.ref 0), some (.int l1), some (.int l2), some (.int l3), some (.int l4)], [.int s0], (I, J))
noncomputable def zv_X3_minutesOn_Y_23 (I : Nat → Nat → Int32) (J : Nat → Nat → Int64) (l1 : Int32) (l2 : Int32) (l3 : Int32) (l4 : Int32) : zm_R := zm_V zT_X3_minutesOn zW_Y (23, [some (.ref 0), some (.int l1), some (.int l2), some (.int l3), some (.int l4)], [], (I, J))
noncomputable def zv_X3_minutesOn_Y_26 (I : Nat → Nat → Int32) (J : Nat → Nat → Int64) (l1 : Int32) (l2 : Int32) (l3 : Int32) (l4 : Int32) : zm_R := zm_V zT_X3_minutesOn zW_Y (26, [some (.ref 0), some (.int l1), some (.int l2), some (.int l3), some (.int l4)], [], (I, J))
noncomputable def zv_X3_minutesOn_Y_32 (I : Nat → Nat → Int32) (J : Nat → Nat → Int64) (l1 : Int32) (l2 : Int32) (l3 : Int32) (l4 : Int32) : zm_R := zm_V zT_X3_minutesOn zW_Y (32, [some (.ref 0), some (.int l1), some (.int l2), some (.int l3), some (.int l4)], [], (I, J))
theorem zq_X3_minutesOn_Y_0 (I : Nat → Nat → Int32) (J : Nat → Nat → Int64) (l1 : Int32) (l2 : Int32) : zv_X3_minutesOn_Y_0 I J l1 l2 = zv_X3_minutesOn_Y_5 I J l1 l2 0 0 := (zm_V_eq _ _ _).trans ((fun (k : zm_S → zm_R) => (rfl : zm_step zT_X3_minutesOn zW_Y k (0, [some (.ref 0), some (.int l1), some (.int l2), none, none], [], (I, J)) = k (5, [some (.ref 0), some (.int l1), some (.int l2), some (.int 0), some (.int 0)], [], (I, J)))) (zm_V zT_X3_minutesOn zW_Y))
theorem zq_X3_minutesOn_Y_5 (I : Nat → Nat → Int32) (J : Nat → Nat → Int64) (l1 : Int32) (l2 : Int32) (l3 : Int32) (l4 : Int32) : zv_X3_minutesOn_Y_5 I J l1 l2 l3 l4 = if 61 ≤ l4 then zv_X3_minutesOn_Y_32 I J l1 l2 l3 l4 else zv_X3_minutesOn_Y_12 I J l1 l2 l3 l4 := (zm_V_eq _ _ _).trans ((fun (k : zm_S → zm_R) => (rfl : zm_step zT_X3_minutesOn zW_Y k (5, [some (.ref 0), some (.int l1), some (.int l2), some (.int l3), some (.int l4)], [], (I, J)) = if 61 ≤ l4 then k (32, [some (.ref 0), some (.int l1), some (.int l2), some (.int l3), some (.int l4)], [], (I, J)) else k (12, [some (.ref 0), some (.int l1), some (.int l2), some (.int l3), some (.int l4)], [], (I, J)))) (zm_V zT_X3_minutesOn zW_Y))
theorem zc_X3_minutesOn_Y_12 (I : Nat → Nat → Int32) (J : Nat → Nat → Int64) (l1 : Int32) (l2 : Int32) (l3 : Int32) (l4 : Int32) {I2 : Nat → Nat → Int32} {J2 : Nat → Nat → Int64} {r : Int32} (hF : zF_X3_seatAt zW_Y [.ref 0, .int l1, .int l4] (I, J) = some (some (.int r), (I2, J2))) : zv_X3_minutesOn_Y_12 I J l1 l2 l3 l4 = zv_X3_minutesOn_Y_19 I2 J2 l1 l2 l3 l4 r := by
  have e : ∀ k : zm_S → zm_R, zm_step zT_X3_minutesOn zW_Y k (12, [some (.ref 0), some (.int l1), some (.int l2), some (.int l3), some (.int l4)], [], (I, J)) = zm_app (3, some 3, true, [], zF_X3_seatAt) zW_Y [.ref 0, .int l1, .int l4] (I, J) (fun v N => k (19, [some (.ref 0), some (.int l1), some (.int l2), some (.int l3), some (.int l4)], v.toList ++ [], N)) := fun k => rfl
  have g := zm_app_s (C := (3, some 3, true, [], zF_X3_seatAt)) (wl := zW_Y) (as := [.ref 0, .int l1, .int l4]) (M := (I, J)) (k := fun v N => zm_V zT_X3_minutesOn zW_Y (19, [some (.ref 0), some (.int l1), some (.int l2), some (.int l3), some (.int l4)], v.toList ++ [], N)) rfl rfl hF
  exact (zm_V_eq _ _ _).trans ((e _).trans g)
theorem zq_X3_minutesOn_Y_19 (I : Nat → Nat → Int32) (J : Nat → Nat → Int64) (l1 : Int32) (l2 : Int32) (l3 : Int32) (l4 : Int32) (s0 : Int32) : zv_X3_minutesOn_Y_19 I J l1 l2 l3 l4 s0 = if s0 = l2 then zv_X3_minutesOn_Y_23 I J l1 l2 l3 l4 else zv_X3_minutesOn_Y_26 I J l1 l2 l3 l4 := (zm_V_eq _ _ _).trans ((fun (k : zm_S → zm_R) => (rfl : zm_step zT_X3_minutesOn zW_Y k (19, [some (.ref 0), some (.int l1), some (.int l2), some (.int l3), some (.int l4)], [.int s0], (I, J)) = if s0 = l2 then k (23, [some (.ref 0), some (.int l1), some (.int l2), some (.int l3), some (.int l4)], [], (I, J)) else k (26, [some (.ref 0), some (.int l1), some (.int l2), some (.int l3), some (.int l4)], [], (I, J)))) (zm_V zT_X3_minutesOn zW_Y))
theorem zq_X3_minutesOn_Y_23 (I : Nat → Nat → Int32) (J : Nat → Nat → Int64) (l1 : Int32) (l2 : Int32) (l3 : Int32) (l4 : Int32) : zv_X3_minutesOn_Y_23 I J l1 l2 l3 l4 = zv_X3_minutesOn_Y_26 I J l1 l2 (l3 + 1) l4 := (zm_V_eq _ _ _).trans ((fun (k : zm_S → zm_R) => (rfl : zm_step zT_X3_minutesOn zW_Y k (23, [some (.ref 0), some (.int l1), some (.int l2), some (.int l3), some (.int l4)], [], (I, J)) = k (26, [some (.ref 0), some (.int l1), some (.int l2), some (.int (l3 + 1)), some (.int l4)], [], (I, J)))) (zm_V zT_X3_minutesOn zW_Y))
theorem zq_X3_minutesOn_Y_26 (I : Nat → Nat → Int32) (J : Nat → Nat → Int64) (l1 : Int32) (l2 : Int32) (l3 : Int32) (l4 : Int32) : zv_X3_minutesOn_Y_26 I J l1 l2 l3 l4 = zv_X3_minutesOn_Y_5 I J l1 l2 l3 (l4 + 1) := (zm_V_eq _ _ _).trans ((fun (k : zm_S → zm_R) => (rfl : zm_step zT_X3_minutesOn zW_Y k (26, [some (.ref 0), some (.int l1), some (.int l2), some (.int l3), some (.int l4)], [], (I, J)) = k (5, [some (.ref 0), some (.int l1), some (.int l2), some (.int l3), some (.int (l4 + 1))], [], (I, J)))) (zm_V zT_X3_minutesOn zW_Y))
theorem zq_X3_minutesOn_Y_32 (I : Nat → Nat → Int32) (J : Nat → Nat → Int64) (l1 : Int32) (l2 : Int32) (l3 : Int32) (l4 : Int32) : zv_X3_minutesOn_Y_32 I J l1 l2 l3 l4 = some (some (.int l3), (I, J)) := (zm_V_eq _ _ _).trans ((fun (k : zm_S → zm_R) => (rfl : zm_step zT_X3_minutesOn zW_Y k (32, [some (.ref 0), some (.int l1), some (.int l2), some (.int l3), some (.int l4)], [], (I, J)) = some (some (.int l3), (I, J)))) (zm_V zT_X3_minutesOn zW_Y))
theorem zf_X3_minutesOn_Y (I : Nat → Nat → Int32) (J : Nat → Nat → Int64) (l1 : Int32) (l2 : Int32) : zF_X3_minutesOn zW_Y [.ref 0, .int l1, .int l2] (I, J) = zv_X3_minutesOn_Y_0 I J l1 l2 := rfl
noncomputable def zv_X10_stands_M_0 (I : Nat → Nat → Int32) (J : Nat → Nat → Int64) (l1 : Int32) : zm_R := zm_V zT_X10_stands zW_M (0, [some (.ref 0), some (.int l1), none, none], [], (I, J))
noncomputable def zv_X10_stands_M_10 (I : Nat → Nat → Int32) (J : Nat → Nat → Int64) (l1 : Int32) (s0 : Int32) : zm_R := zm_V zT_X10_stands zW_M (10, [some (.ref 0), some (.int l1), none, none], [.int s0], (I, J))
noncomputable def zv_X10_stands_M_13 (I : Nat → Nat → Int32) (J : Nat → Nat → Int64) (l1 : Int32) : zm_R := zm_V zT_X10_stands zW_M (13, [some (.ref 0), some (.int l1), none, none], [], (I, J))
noncomputable def zv_X10_stands_M_16 (I : Nat → Nat → Int32) (J : Nat → Nat → Int64) (l1 : Int32) : zm_R := zm_V zT_X10_stands zW_M (16, [some (.ref 0), some (.int l1), none, none], [], (I, J))
noncomputable def zv_X10_stands_M_20 (I : Nat → Nat → Int32) (J : Nat → Nat → Int64) (l1 : Int32) : zm_R := zm_V zT_X10_stands zW_M (20, [some (.ref 0), some (.int l1), none, none], [], (I, J))
noncomputable def zv_X10_stands_M_24 (I : Nat → Nat → Int32) (J : Nat → Nat → Int64) (l1 : Int32) (l2 : Int32) (l3 : Int32) : zm_R := zm_V zT_X10_stands zW_M (24, [some (.ref 0), some (.int l1), some (.int l2), some (.int l3)], [], (I, J))
noncomputable def zv_X10_stands_M_29 (I : Nat → Nat → Int32) (J : Nat → Nat → Int64) (l1 : Int32) (l2 : Int32) (l3 : Int32) (s0 : Int32) (s1 : Int32) : zm_R := zm_V zT_X10_stands zW_M (29, [some (.ref 0), some (.int l1), some (.int l2), some (.int l3)], [.int s0, .int s1], (I, J))
noncomputable def zv_X10_stands_M_32 (I : Nat → Nat → Int32) (J : Nat → Nat → Int64) (l1 : Int32) (l2 : Int32) (l3 : Int32) : zm_R := zm_V zT_X10_stands zW_M (32, [some (.ref 0), some (.int l1), some (.int l2), some (.int l3)], [], (I, J))
noncomputable def zv_X10_stands_M_48 (I : Nat → Nat → Int32) (J : Nat → Nat → Int64) (l1 : Int32) (l2 : Int32) (l3 : Int32) (s0 : Int32) : zm_R := zm_V zT_X10_stands zW_M (48, [some (.ref 0), some (.int l1), some (.int l2), some (.int l3)], [.int s0], (I, J))
noncomputable def zv_X10_stands_M_63 (I : Nat → Nat → Int32) (J : Nat → Nat → Int64) (l1 : Int32) (l2 : Int32) (l3 : Int32) (s0 : Int32) : zm_R := zm_V zT_X10_stands zW_M (63, [some (.ref 0), some (.int l1), some (.int l2), some (.int l3)], [.int s0], (I, J))
noncomputable def zv_X10_stands_M_69 (I : Nat → Nat → Int32) (J : Nat → Nat → Int64) (l1 : Int32) (l2 : Int32) (l3 : Int32) (s0 : Int32) : zm_R := zm_V zT_X10_stands zW_M (69, [some (.ref 0), some (.int l1), some (.int l2), some (.int l3)], [.int s0], (I, J))
noncomputable def zv_X10_stands_M_70 (I : Nat → Nat → Int32) (J : Nat → Nat → Int64) (l1 : Int32) (l2 : Int32) (l3 : Int32) (s0 : Int32) (s1 : Int32) : zm_R := zm_V zT_X10_stands zW_M (70, [some (.ref 0), some (.int l1), some (.int l2), some (.int l3)], [.int s0, .int s1], (I, J))
noncomputable def zv_X10_stands_M_78 (I : Nat → Nat → Int32) (J : Nat → Nat → Int64) (l1 : Int32) (l2 : Int32) (l3 : Int32) : zm_R := zm_V zT_X10_stands zW_M (78, [some (.ref 0), some (.int l1), some (.int l2), some (.int l3)], [], (I, J))
set_option maxRecDepth 20000 in
theorem zc_X10_stands_M_0 (I : Nat → Nat → Int32) (J : Nat → Nat → Int64) (l1 : Int32) {I2 : Nat → Nat → Int32} {J2 : Nat → Nat → Int64} {r : Int32} (hF : zF_X10_isTime zW_M [.ref 0, .int l1] ((zm_w I 0 0 0), J) = some (some (.int r), (I2, J2))) : zv_X10_stands_M_0 I J l1 = zv_X10_stands_M_10 I2 J2 l1 r := by
  have e : ∀ k : zm_S → zm_R, zm_step zT_X10_stands zW_M k (0, [some (.ref 0), some (.int l1), none, none], [], (I, J)) = zm_app (2, some 10, true, [], zF_X10_isTime) zW_M [.ref 0, .int l1] ((zm_w I 0 0 0), J) (fun v N => k (10, [some (.ref 0), some (.int l1), none, none], v.toList ++ [], N)) := fun k => rfl
  have g := zm_app_s (C := (2, some 10, true, [], zF_X10_isTime)) (wl := zW_M) (as := [.ref 0, .int l1]) (M := ((zm_w I 0 0 0), J)) (k := fun v N => zm_V zT_X10_stands zW_M (10, [some (.ref 0), some (.int l1), none, none], v.toList ++ [], N)) rfl rfl hF
  exact (zm_V_eq _ _ _).trans ((e _).trans g)
set_option maxRecDepth 20000 in
theorem zq_X10_stands_M_10 (I : Nat → Nat → Int32) (J : Nat → Nat → Int64) (l1 : Int32) (s0 : Int32) : zv_X10_stands_M_10 I J l1 s0 = if s0 = 0 then zv_X10_stands_M_13 I J l1 else zv_X10_stands_M_16 I J l1 := (zm_V_eq _ _ _).trans ((fun (k : zm_S → zm_R) => (rfl : zm_step zT_X10_stands zW_M k (10, [some (.ref 0), some (.int l1), none, none], [.int s0], (I, J)) = if s0 = 0 then k (13, [some (.ref 0), some (.int l1), none, none], [], (I, J)) else k (16, [some (.ref 0), some (.int l1), none, none], [], (I, J)))) (zm_V zT_X10_stands zW_M))
set_option maxRecDepth 20000 in
theorem zq_X10_stands_M_13 (I : Nat → Nat → Int32) (J : Nat → Nat → Int64) (l1 : Int32) : zv_X10_stands_M_13 I J l1 = some (some (.int (-2)), (I, J)) := (zm_V_eq _ _ _).trans ((fun (k : zm_S → zm_R) => (rfl : zm_step zT_X10_stands zW_M k (13, [some (.ref 0), some (.int l1), none, none], [], (I, J)) = some (some (.int (-2)), (I, J)))) (zm_V zT_X10_stands zW_M))
set_option maxRecDepth 20000 in
theorem zc_X10_stands_M_16 (I : Nat → Nat → Int32) (J : Nat → Nat → Int64) (l1 : Int32) {I2 : Nat → Nat → Int32} {J2 : Nat → Nat → Int64} (hF : zF_X10_laysNow zW_M [.ref 0] (I, J) = some (none, (I2, J2))) : zv_X10_stands_M_16 I J l1 = zv_X10_stands_M_20 I2 J2 l1 := by
  have e : ∀ k : zm_S → zm_R, zm_step zT_X10_stands zW_M k (16, [some (.ref 0), some (.int l1), none, none], [], (I, J)) = zm_app (1, some 10, true, [], zF_X10_laysNow) zW_M [.ref 0] (I, J) (fun v N => k (20, [some (.ref 0), some (.int l1), none, none], v.toList ++ [], N)) := fun k => rfl
  have g := zm_app_s (C := (1, some 10, true, [], zF_X10_laysNow)) (wl := zW_M) (as := [.ref 0]) (M := (I, J)) (k := fun v N => zm_V zT_X10_stands zW_M (20, [some (.ref 0), some (.int l1), none, none], v.toList ++ [], N)) rfl rfl hF
  exact (zm_V_eq _ _ _).trans ((e _).trans g)
set_option maxRecDepth 20000 in
theorem zq_X10_stands_M_20 (I : Nat → Nat → Int32) (J : Nat → Nat → Int64) (l1 : Int32) : zv_X10_stands_M_20 I J l1 = zv_X10_stands_M_24 I J l1 0 0 := (zm_V_eq _ _ _).trans ((fun (k : zm_S → zm_R) => (rfl : zm_step zT_X10_stands zW_M k (20, [some (.ref 0), some (.int l1), none, none], [], (I, J)) = k (24, [some (.ref 0), some (.int l1), some (.int 0), some (.int 0)], [], (I, J)))) (zm_V zT_X10_stands zW_M))
set_option maxRecDepth 20000 in
theorem zc_X10_stands_M_24 (I : Nat → Nat → Int32) (J : Nat → Nat → Int64) (l1 : Int32) (l2 : Int32) (l3 : Int32) {I2 : Nat → Nat → Int32} {J2 : Nat → Nat → Int64} {r : Int32} (hF : zF_X10_callers zW_M [.ref 0] (I, J) = some (some (.int r), (I2, J2))) : zv_X10_stands_M_24 I J l1 l2 l3 = zv_X10_stands_M_29 I2 J2 l1 l2 l3 r l3 := by
  have e : ∀ k : zm_S → zm_R, zm_step zT_X10_stands zW_M k (24, [some (.ref 0), some (.int l1), some (.int l2), some (.int l3)], [], (I, J)) = zm_app (1, some 10, true, [], zF_X10_callers) zW_M [.ref 0] (I, J) (fun v N => k (29, [some (.ref 0), some (.int l1), some (.int l2), some (.int l3)], v.toList ++ [.int l3], N)) := fun k => rfl
  have g := zm_app_s (C := (1, some 10, true, [], zF_X10_callers)) (wl := zW_M) (as := [.ref 0]) (M := (I, J)) (k := fun v N => zm_V zT_X10_stands zW_M (29, [some (.ref 0), some (.int l1), some (.int l2), some (.int l3)], v.toList ++ [.int l3], N)) rfl rfl hF
  exact (zm_V_eq _ _ _).trans ((e _).trans g)
set_option maxRecDepth 20000 in
theorem zq_X10_stands_M_29 (I : Nat → Nat → Int32) (J : Nat → Nat → Int64) (l1 : Int32) (l2 : Int32) (l3 : Int32) (s0 : Int32) (s1 : Int32) : zv_X10_stands_M_29 I J l1 l2 l3 s0 s1 = if s0 ≤ s1 then zv_X10_stands_M_78 I J l1 l2 l3 else zv_X10_stands_M_32 I J l1 l2 l3 := (zm_V_eq _ _ _).trans ((fun (k : zm_S → zm_R) => (rfl : zm_step zT_X10_stands zW_M k (29, [some (.ref 0), some (.int l1), some (.int l2), some (.int l3)], [.int s0, .int s1], (I, J)) = if s0 ≤ s1 then k (78, [some (.ref 0), some (.int l1), some (.int l2), some (.int l3)], [], (I, J)) else k (32, [some (.ref 0), some (.int l1), some (.int l2), some (.int l3)], [], (I, J)))) (zm_V zT_X10_stands zW_M))
set_option maxRecDepth 20000 in
theorem zq_X10_stands_M_32 (I : Nat → Nat → Int32) (J : Nat → Nat → Int64) (l1 : Int32) (l2 : Int32) (l3 : Int32) : zv_X10_stands_M_32 I J l1 l2 l3 = if (((61 * l3) + l1) : Int32) < 0 ∨ 305 ≤ Int32.toNatClampNeg ((61 * l3) + l1) then none else if (I 16 (Int32.toNatClampNeg ((61 * l3) + l1))) = (-1) then zv_X10_stands_M_69 I J l1 l2 l3 l2 else zv_X10_stands_M_48 I J l1 l2 l3 l2 := (zm_V_eq _ _ _).trans ((fun (k : zm_S → zm_R) => (rfl : zm_step zT_X10_stands zW_M k (32, [some (.ref 0), some (.int l1), some (.int l2), some (.int l3)], [], (I, J)) = if (((61 * l3) + l1) : Int32) < 0 ∨ 305 ≤ Int32.toNatClampNeg ((61 * l3) + l1) then none else if (I 16 (Int32.toNatClampNeg ((61 * l3) + l1))) = (-1) then k (69, [some (.ref 0), some (.int l1), some (.int l2), some (.int l3)], [.int l2], (I, J)) else k (48, [some (.ref 0), some (.int l1), some (.int l2), some (.int l3)], [.int l2], (I, J)))) (zm_V zT_X10_stands zW_M))
set_option maxRecDepth 20000 in
theorem zq_X10_stands_M_48 (I : Nat → Nat → Int32) (J : Nat → Nat → Int64) (l1 : Int32) (l2 : Int32) (l3 : Int32) (s0 : Int32) : zv_X10_stands_M_48 I J l1 l2 l3 s0 = if (((61 * l3) + l1) : Int32) < 0 ∨ 305 ≤ Int32.toNatClampNeg ((61 * l3) + l1) then none else if (I 17 (Int32.toNatClampNeg ((61 * l3) + l1))) = (-1) then zv_X10_stands_M_63 I J l1 l2 l3 s0 else zv_X10_stands_M_69 I J l1 l2 l3 s0 := (zm_V_eq _ _ _).trans ((fun (k : zm_S → zm_R) => (rfl : zm_step zT_X10_stands zW_M k (48, [some (.ref 0), some (.int l1), some (.int l2), some (.int l3)], [.int s0], (I, J)) = if (((61 * l3) + l1) : Int32) < 0 ∨ 305 ≤ Int32.toNatClampNeg ((61 * l3) + l1) then none else if (I 17 (Int32.toNatClampNeg ((61 * l3) + l1))) = (-1) then k (63, [some (.ref 0), some (.int l1), some (.int l2), some (.int l3)], [.int s0], (I, J)) else k (69, [some (.ref 0), some (.int l1), some (.int l2), some (.int l3)], [.int s0], (I, J)))) (zm_V zT_X10_stands zW_M))
set_option maxRecDepth 20000 in
theorem zq_X10_stands_M_63 (I : Nat → Nat → Int32) (J : Nat → Nat → Int64) (l1 : Int32) (l2 : Int32) (l3 : Int32) (s0 : Int32) : zv_X10_stands_M_63 I J l1 l2 l3 s0 = zv_X10_stands_M_70 I J l1 l2 l3 (1 <<< (l3 &&& 31)) s0 := (zm_V_eq _ _ _).trans ((fun (k : zm_S → zm_R) => (rfl : zm_step zT_X10_stands zW_M k (63, [some (.ref 0), some (.int l1), some (.int l2), some (.int l3)], [.int s0], (I, J)) = k (70, [some (.ref 0), some (.int l1), some (.int l2), some (.int l3)], [.int (1 <<< (l3 &&& 31)), .int s0], (I, J)))) (zm_V zT_X10_stands zW_M))
set_option maxRecDepth 20000 in
theorem zq_X10_stands_M_69 (I : Nat → Nat → Int32) (J : Nat → Nat → Int64) (l1 : Int32) (l2 : Int32) (l3 : Int32) (s0 : Int32) : zv_X10_stands_M_69 I J l1 l2 l3 s0 = zv_X10_stands_M_70 I J l1 l2 l3 0 s0 := (zm_V_eq _ _ _).trans ((fun (k : zm_S → zm_R) => (rfl : zm_step zT_X10_stands zW_M k (69, [some (.ref 0), some (.int l1), some (.int l2), some (.int l3)], [.int s0], (I, J)) = k (70, [some (.ref 0), some (.int l1), some (.int l2), some (.int l3)], [.int 0, .int s0], (I, J)))) (zm_V zT_X10_stands zW_M))
set_option maxRecDepth 20000 in
theorem zq_X10_stands_M_70 (I : Nat → Nat → Int32) (J : Nat → Nat → Int64) (l1 : Int32) (l2 : Int32) (l3 : Int32) (s0 : Int32) (s1 : Int32) : zv_X10_stands_M_70 I J l1 l2 l3 s0 s1 = zv_X10_stands_M_24 I J l1 (s1 ||| s0) (l3 + 1) := (zm_V_eq _ _ _).trans ((fun (k : zm_S → zm_R) => (rfl : zm_step zT_X10_stands zW_M k (70, [some (.ref 0), some (.int l1), some (.int l2), some (.int l3)], [.int s0, .int s1], (I, J)) = k (24, [some (.ref 0), some (.int l1), some (.int (s1 ||| s0)), some (.int (l3 + 1))], [], (I, J)))) (zm_V zT_X10_stands zW_M))
set_option maxRecDepth 20000 in
theorem zq_X10_stands_M_78 (I : Nat → Nat → Int32) (J : Nat → Nat → Int64) (l1 : Int32) (l2 : Int32) (l3 : Int32) : zv_X10_stands_M_78 I J l1 l2 l3 = some (some (.int l2), (I, J)) := (zm_V_eq _ _ _).trans ((fun (k : zm_S → zm_R) => (rfl : zm_step zT_X10_stands zW_M k (78, [some (.ref 0), some (.int l1), some (.int l2), some (.int l3)], [], (I, J)) = some (some (.int l2), (I, J)))) (zm_V zT_X10_stands zW_M))
theorem zf_X10_stands_M (I : Nat → Nat → Int32) (J : Nat → Nat → Int64) (l1 : Int32) : zF_X10_stands zW_M [.ref 0, .int l1] (I, J) = zv_X10_stands_M_0 I J l1 := rfl
noncomputable def zv_X10_free_M_0 (I : Nat → Nat → Int32) (J : Nat → Nat → Int64) (l1 : Int32) : zm_R := zm_V zT_X10_free zW_M (0, [some (.ref 0), some (.int l1), none, none], [], (I, J))
noncomputable def zv_X10_free_M_10 (I : Nat → Nat → Int32) (J : Nat → Nat → Int64) (l1 : Int32) (s0 : Int32) : zm_R := zm_V zT_X10_free zW_M (10, [some (.ref 0), some (.int l1), none, none], [.int s0], (I, J))
noncomputable def zv_X10_free_M_13 (I : Nat → Nat → Int32) (J : Nat → Nat → Int64) (l1 : Int32) : zm_R := zm_V zT_X10_free zW_M (13, [some (.ref 0), some (.int l1), none, none], [], (I, J))
noncomputable def zv_X10_free_M_16 (I : Nat → Nat → Int32) (J : Nat → Nat → Int64) (l1 : Int32) : zm_R := zm_V zT_X10_free zW_M (16, [some (.ref 0), some (.int l1), none, none], [], (I, J))
noncomputable def zv_X10_free_M_20 (I : Nat → Nat → Int32) (J : Nat → Nat → Int64) (l1 : Int32) : zm_R := zm_V zT_X10_free zW_M (20, [some (.ref 0), some (.int l1), none, none], [], (I, J))
noncomputable def zv_X10_free_M_25 (I : Nat → Nat → Int32) (J : Nat → Nat → Int64) (l1 : Int32) (s0 : Int32) (s1 : Int32) : zm_R := zm_V zT_X10_free zW_M (25, [some (.ref 0), some (.int l1), none, none], [.int s0, .int s1], (I, J))
noncomputable def zv_X10_free_M_31 (I : Nat → Nat → Int32) (J : Nat → Nat → Int64) (l1 : Int32) (l2 : Int32) (l3 : Int32) : zm_R := zm_V zT_X10_free zW_M (31, [some (.ref 0), some (.int l1), some (.int l2), some (.int l3)], [], (I, J))
noncomputable def zv_X10_free_M_36 (I : Nat → Nat → Int32) (J : Nat → Nat → Int64) (l1 : Int32) (l2 : Int32) (l3 : Int32) (s0 : Int32) (s1 : Int32) : zm_R := zm_V zT_X10_free zW_M (36, [some (.ref 0), some (.int l1), some (.int l2), some (.int l3)], [.int s0, .int s1], (I, J))
noncomputable def zv_X10_free_M_39 (I : Nat → Nat → Int32) (J : Nat → Nat → Int64) (l1 : Int32) (l2 : Int32) (l3 : Int32) : zm_R := zm_V zT_X10_free zW_M (39, [some (.ref 0), some (.int l1), some (.int l2), some (.int l3)], [], (I, J))
noncomputable def zv_X10_free_M_55 (I : Nat → Nat → Int32) (J : Nat → Nat → Int64) (l1 : Int32) (l2 : Int32) (l3 : Int32) (s0 : Int32) : zm_R := zm_V zT_X10_free zW_M (55, [some (.ref 0), some (.int l1), some (.int l2), some (.int l3)], [.int s0], (I, J))
noncomputable def zv_X10_free_M_59 (I : Nat → Nat → Int32) (J : Nat → Nat → Int64) (l1 : Int32) (l2 : Int32) (l3 : Int32) (s0 : Int32) : zm_R := zm_V zT_X10_free zW_M (59, [some (.ref 0), some (.int l1), some (.int l2), some (.int l3)], [.int s0], (I, J))
noncomputable def zv_X10_free_M_74 (I : Nat → Nat → Int32) (J : Nat → Nat → Int64) (l1 : Int32) (l2 : Int32) (l3 : Int32) (s0 : Int32) (s1 : Int32) : zm_R := zm_V zT_X10_free zW_M (74, [some (.ref 0), some (.int l1), some (.int l2), some (.int l3)], [.int s0, .int s1], (I, J))
noncomputable def zv_X10_free_M_82 (I : Nat → Nat → Int32) (J : Nat → Nat → Int64) (l1 : Int32) (l2 : Int32) (l3 : Int32) : zm_R := zm_V zT_X10_free zW_M (82, [some (.ref 0), some (.int l1), some (.int l2), some (.int l3)], [], (I, J))
set_option maxRecDepth 20000 in
theorem zc_X10_free_M_0 (I : Nat → Nat → Int32) (J : Nat → Nat → Int64) (l1 : Int32) {I2 : Nat → Nat → Int32} {J2 : Nat → Nat → Int64} {r : Int32} (hF : zF_X10_isTime zW_M [.ref 0, .int l1] ((zm_w I 0 0 0), J) = some (some (.int r), (I2, J2))) : zv_X10_free_M_0 I J l1 = zv_X10_free_M_10 I2 J2 l1 r := by
  have e : ∀ k : zm_S → zm_R, zm_step zT_X10_free zW_M k (0, [some (.ref 0), some (.int l1), none, none], [], (I, J)) = zm_app (2, some 10, true, [], zF_X10_isTime) zW_M [.ref 0, .int l1] ((zm_w I 0 0 0), J) (fun v N => k (10, [some (.ref 0), some (.int l1), none, none], v.toList ++ [], N)) := fun k => rfl
  have g := zm_app_s (C := (2, some 10, true, [], zF_X10_isTime)) (wl := zW_M) (as := [.ref 0, .int l1]) (M := ((zm_w I 0 0 0), J)) (k := fun v N => zm_V zT_X10_free zW_M (10, [some (.ref 0), some (.int l1), none, none], v.toList ++ [], N)) rfl rfl hF
  exact (zm_V_eq _ _ _).trans ((e _).trans g)
set_option maxRecDepth 20000 in
theorem zq_X10_free_M_10 (I : Nat → Nat → Int32) (J : Nat → Nat → Int64) (l1 : Int32) (s0 : Int32) : zv_X10_free_M_10 I J l1 s0 = if s0 = 0 then zv_X10_free_M_13 I J l1 else zv_X10_free_M_16 I J l1 := (zm_V_eq _ _ _).trans ((fun (k : zm_S → zm_R) => (rfl : zm_step zT_X10_free zW_M k (10, [some (.ref 0), some (.int l1), none, none], [.int s0], (I, J)) = if s0 = 0 then k (13, [some (.ref 0), some (.int l1), none, none], [], (I, J)) else k (16, [some (.ref 0), some (.int l1), none, none], [], (I, J)))) (zm_V zT_X10_free zW_M))
set_option maxRecDepth 20000 in
theorem zq_X10_free_M_13 (I : Nat → Nat → Int32) (J : Nat → Nat → Int64) (l1 : Int32) : zv_X10_free_M_13 I J l1 = some (some (.int (-2)), (I, J)) := (zm_V_eq _ _ _).trans ((fun (k : zm_S → zm_R) => (rfl : zm_step zT_X10_free zW_M k (13, [some (.ref 0), some (.int l1), none, none], [], (I, J)) = some (some (.int (-2)), (I, J)))) (zm_V zT_X10_free zW_M))
set_option maxRecDepth 20000 in
theorem zc_X10_free_M_16 (I : Nat → Nat → Int32) (J : Nat → Nat → Int64) (l1 : Int32) {I2 : Nat → Nat → Int32} {J2 : Nat → Nat → Int64} (hF : zF_X10_laysNow zW_M [.ref 0] (I, J) = some (none, (I2, J2))) : zv_X10_free_M_16 I J l1 = zv_X10_free_M_20 I2 J2 l1 := by
  have e : ∀ k : zm_S → zm_R, zm_step zT_X10_free zW_M k (16, [some (.ref 0), some (.int l1), none, none], [], (I, J)) = zm_app (1, some 10, true, [], zF_X10_laysNow) zW_M [.ref 0] (I, J) (fun v N => k (20, [some (.ref 0), some (.int l1), none, none], v.toList ++ [], N)) := fun k => rfl
  have g := zm_app_s (C := (1, some 10, true, [], zF_X10_laysNow)) (wl := zW_M) (as := [.ref 0]) (M := (I, J)) (k := fun v N => zm_V zT_X10_free zW_M (20, [some (.ref 0), some (.int l1), none, none], v.toList ++ [], N)) rfl rfl hF
  exact (zm_V_eq _ _ _).trans ((e _).trans g)
set_option maxRecDepth 20000 in
theorem zc_X10_free_M_20 (I : Nat → Nat → Int32) (J : Nat → Nat → Int64) (l1 : Int32) {I2 : Nat → Nat → Int32} {J2 : Nat → Nat → Int64} {r : Int32} (hF : zF_X10_seats zW_M [.ref 0] (I, J) = some (some (.int r), (I2, J2))) : zv_X10_free_M_20 I J l1 = zv_X10_free_M_25 I2 J2 l1 r 1 := by
  have e : ∀ k : zm_S → zm_R, zm_step zT_X10_free zW_M k (20, [some (.ref 0), some (.int l1), none, none], [], (I, J)) = zm_app (1, some 10, true, [], zF_X10_seats) zW_M [.ref 0] (I, J) (fun v N => k (25, [some (.ref 0), some (.int l1), none, none], v.toList ++ [.int 1], N)) := fun k => rfl
  have g := zm_app_s (C := (1, some 10, true, [], zF_X10_seats)) (wl := zW_M) (as := [.ref 0]) (M := (I, J)) (k := fun v N => zm_V zT_X10_free zW_M (25, [some (.ref 0), some (.int l1), none, none], v.toList ++ [.int 1], N)) rfl rfl hF
  exact (zm_V_eq _ _ _).trans ((e _).trans g)
set_option maxRecDepth 20000 in
theorem zq_X10_free_M_25 (I : Nat → Nat → Int32) (J : Nat → Nat → Int64) (l1 : Int32) (s0 : Int32) (s1 : Int32) : zv_X10_free_M_25 I J l1 s0 s1 = zv_X10_free_M_31 I J l1 ((s1 <<< (s0 &&& 31)) - 1) 0 := (zm_V_eq _ _ _).trans ((fun (k : zm_S → zm_R) => (rfl : zm_step zT_X10_free zW_M k (25, [some (.ref 0), some (.int l1), none, none], [.int s0, .int s1], (I, J)) = k (31, [some (.ref 0), some (.int l1), some (.int ((s1 <<< (s0 &&& 31)) - 1)), some (.int 0)], [], (I, J)))) (zm_V zT_X10_free zW_M))
set_option maxRecDepth 20000 in
theorem zc_X10_free_M_31 (I : Nat → Nat → Int32) (J : Nat → Nat → Int64) (l1 : Int32) (l2 : Int32) (l3 : Int32) {I2 : Nat → Nat → Int32} {J2 : Nat → Nat → Int64} {r : Int32} (hF : zF_X10_callers zW_M [.ref 0] (I, J) = some (some (.int r), (I2, J2))) : zv_X10_free_M_31 I J l1 l2 l3 = zv_X10_free_M_36 I2 J2 l1 l2 l3 r l3 := by
  have e : ∀ k : zm_S → zm_R, zm_step zT_X10_free zW_M k (31, [some (.ref 0), some (.int l1), some (.int l2), some (.int l3)], [], (I, J)) = zm_app (1, some 10, true, [], zF_X10_callers) zW_M [.ref 0] (I, J) (fun v N => k (36, [some (.ref 0), some (.int l1), some (.int l2), some (.int l3)], v.toList ++ [.int l3], N)) := fun k => rfl
  have g := zm_app_s (C := (1, some 10, true, [], zF_X10_callers)) (wl := zW_M) (as := [.ref 0]) (M := (I, J)) (k := fun v N => zm_V zT_X10_free zW_M (36, [some (.ref 0), some (.int l1), some (.int l2), some (.int l3)], v.toList ++ [.int l3], N)) rfl rfl hF
  exact (zm_V_eq _ _ _).trans ((e _).trans g)
set_option maxRecDepth 20000 in
theorem zq_X10_free_M_36 (I : Nat → Nat → Int32) (J : Nat → Nat → Int64) (l1 : Int32) (l2 : Int32) (l3 : Int32) (s0 : Int32) (s1 : Int32) : zv_X10_free_M_36 I J l1 l2 l3 s0 s1 = if s0 ≤ s1 then zv_X10_free_M_82 I J l1 l2 l3 else zv_X10_free_M_39 I J l1 l2 l3 := (zm_V_eq _ _ _).trans ((fun (k : zm_S → zm_R) => (rfl : zm_step zT_X10_free zW_M k (36, [some (.ref 0), some (.int l1), some (.int l2), some (.int l3)], [.int s0, .int s1], (I, J)) = if s0 ≤ s1 then k (82, [some (.ref 0), some (.int l1), some (.int l2), some (.int l3)], [], (I, J)) else k (39, [some (.ref 0), some (.int l1), some (.int l2), some (.int l3)], [], (I, J)))) (zm_V zT_X10_free zW_M))
set_option maxRecDepth 20000 in
theorem zq_X10_free_M_39 (I : Nat → Nat → Int32) (J : Nat → Nat → Int64) (l1 : Int32) (l2 : Int32) (l3 : Int32) : zv_X10_free_M_39 I J l1 l2 l3 = if (((61 * l3) + l1) : Int32) < 0 ∨ 305 ≤ Int32.toNatClampNeg ((61 * l3) + l1) then none else if (I 17 (Int32.toNatClampNeg ((61 * l3) + l1))) = (-1) then zv_X10_free_M_55 I J l1 l2 l3 l2 else zv_X10_free_M_59 I J l1 l2 l3 l2 := (zm_V_eq _ _ _).trans ((fun (k : zm_S → zm_R) => (rfl : zm_step zT_X10_free zW_M k (39, [some (.ref 0), some (.int l1), some (.int l2), some (.int l3)], [], (I, J)) = if (((61 * l3) + l1) : Int32) < 0 ∨ 305 ≤ Int32.toNatClampNeg ((61 * l3) + l1) then none else if (I 17 (Int32.toNatClampNeg ((61 * l3) + l1))) = (-1) then k (55, [some (.ref 0), some (.int l1), some (.int l2), some (.int l3)], [.int l2], (I, J)) else k (59, [some (.ref 0), some (.int l1), some (.int l2), some (.int l3)], [.int l2], (I, J)))) (zm_V zT_X10_free zW_M))
set_option maxRecDepth 20000 in
theorem zq_X10_free_M_55 (I : Nat → Nat → Int32) (J : Nat → Nat → Int64) (l1 : Int32) (l2 : Int32) (l3 : Int32) (s0 : Int32) : zv_X10_free_M_55 I J l1 l2 l3 s0 = zv_X10_free_M_74 I J l1 l2 l3 l2 s0 := (zm_V_eq _ _ _).trans ((fun (k : zm_S → zm_R) => (rfl : zm_step zT_X10_free zW_M k (55, [some (.ref 0), some (.int l1), some (.int l2), some (.int l3)], [.int s0], (I, J)) = k (74, [some (.ref 0), some (.int l1), some (.int l2), some (.int l3)], [.int l2, .int s0], (I, J)))) (zm_V zT_X10_free zW_M))
set_option maxRecDepth 20000 in
theorem zq_X10_free_M_59 (I : Nat → Nat → Int32) (J : Nat → Nat → Int64) (l1 : Int32) (l2 : Int32) (l3 : Int32) (s0 : Int32) : zv_X10_free_M_59 I J l1 l2 l3 s0 = if (((61 * l3) + l1) : Int32) < 0 ∨ 305 ≤ Int32.toNatClampNeg ((61 * l3) + l1) then none else zv_X10_free_M_74 I J l1 l2 l3 ((1 <<< ((I 17 (Int32.toNatClampNeg ((61 * l3) + l1))) &&& 31)) ^^^ (-1)) s0 := (zm_V_eq _ _ _).trans ((fun (k : zm_S → zm_R) => (rfl : zm_step zT_X10_free zW_M k (59, [some (.ref 0), some (.int l1), some (.int l2), some (.int l3)], [.int s0], (I, J)) = if (((61 * l3) + l1) : Int32) < 0 ∨ 305 ≤ Int32.toNatClampNeg ((61 * l3) + l1) then none else k (74, [some (.ref 0), some (.int l1), some (.int l2), some (.int l3)], [.int ((1 <<< ((I 17 (Int32.toNatClampNeg ((61 * l3) + l1))) &&& 31)) ^^^ (-1)), .int s0], (I, J)))) (zm_V zT_X10_free zW_M))
set_option maxRecDepth 20000 in
theorem zq_X10_free_M_74 (I : Nat → Nat → Int32) (J : Nat → Nat → Int64) (l1 : Int32) (l2 : Int32) (l3 : Int32) (s0 : Int32) (s1 : Int32) : zv_X10_free_M_74 I J l1 l2 l3 s0 s1 = zv_X10_free_M_31 I J l1 (s1 &&& s0) (l3 + 1) := (zm_V_eq _ _ _).trans ((fun (k : zm_S → zm_R) => (rfl : zm_step zT_X10_free zW_M k (74, [some (.ref 0), some (.int l1), some (.int l2), some (.int l3)], [.int s0, .int s1], (I, J)) = k (31, [some (.ref 0), some (.int l1), some (.int (s1 &&& s0)), some (.int (l3 + 1))], [], (I, J)))) (zm_V zT_X10_free zW_M))
set_option maxRecDepth 20000 in
theorem zq_X10_free_M_82 (I : Nat → Nat → Int32) (J : Nat → Nat → Int64) (l1 : Int32) (l2 : Int32) (l3 : Int32) : zv_X10_free_M_82 I J l1 l2 l3 = some (some (.int l2), (I, J)) := (zm_V_eq _ _ _).trans ((fun (k : zm_S → zm_R) => (rfl : zm_step zT_X10_free zW_M k (82, [some (.ref 0), some (.int l1), some (.int l2), some (.int l3)], [], (I, J)) = some (some (.int l2), (I, J)))) (zm_V zT_X10_free zW_M))
theorem zf_X10_free_M (I : Nat → Nat → Int32) (J : Nat → Nat → Int64) (l1 : Int32) : zF_X10_free zW_M [.ref 0, .int l1] (I, J) = zv_X10_free_M_0 I J l1 := rfl
noncomputable def zv_X10_opens_M_0 (I : Nat → Nat → Int32) (J : Nat → Nat → Int64) (l1 : Int32) : zm_R := zm_V zT_X10_opens zW_M (0, [some (.ref 0), some (.int l1), none, none], [], (I, J))
noncomputable def zv_X10_opens_M_11 (I : Nat → Nat → Int32) (J : Nat → Nat → Int64) (l1 : Int32) (s0 : Int32) : zm_R := zm_V zT_X10_opens zW_M (11, [some (.ref 0), some (.int l1), none, none], [.int s0], (I, J))
noncomputable def zv_X10_opens_M_14 (I : Nat → Nat → Int32) (J : Nat → Nat → Int64) (l1 : Int32) : zm_R := zm_V zT_X10_opens zW_M (14, [some (.ref 0), some (.int l1), none, none], [], (I, J))
noncomputable def zv_X10_opens_M_17 (I : Nat → Nat → Int32) (J : Nat → Nat → Int64) (l1 : Int32) : zm_R := zm_V zT_X10_opens zW_M (17, [some (.ref 0), some (.int l1), none, none], [], (I, J))
noncomputable def zv_X10_opens_M_21 (I : Nat → Nat → Int32) (J : Nat → Nat → Int64) (l1 : Int32) : zm_R := zm_V zT_X10_opens zW_M (21, [some (.ref 0), some (.int l1), none, none], [], (I, J))
noncomputable def zv_X10_opens_M_23 (I : Nat → Nat → Int32) (J : Nat → Nat → Int64) (l1 : Int32) (l2 : Int32) (l3 : Option Value) : zm_R := zm_V zT_X10_opens zW_M (23, [some (.ref 0), some (.int l1), some (.int l2), l3], [], (I, J))
noncomputable def zv_X10_opens_M_29 (I : Nat → Nat → Int32) (J : Nat → Nat → Int64) (l1 : Int32) (l2 : Int32) (l3 : Option Value) : zm_R := zm_V zT_X10_opens zW_M (29, [some (.ref 0), some (.int l1), some (.int l2), l3], [], (I, J))
noncomputable def zv_X10_opens_M_31 (I : Nat → Nat → Int32) (J : Nat → Nat → Int64) (l1 : Int32) (l2 : Int32) (l3 : Int32) : zm_R := zm_V zT_X10_opens zW_M (31, [some (.ref 0), some (.int l1), some (.int l2), some (.int l3)], [], (I, J))
noncomputable def zv_X10_opens_M_36 (I : Nat → Nat → Int32) (J : Nat → Nat → Int64) (l1 : Int32) (l2 : Int32) (l3 : Int32) (s0 : Int32) (s1 : Int32) : zm_R := zm_V zT_X10_opens zW_M (36, [some (.ref 0), some (.int l1), some (.int l2), some (.int l3)], [.int s0, .int s1], (I, J))
noncomputable def zv_X10_opens_M_39 (I : Nat → Nat → Int32) (J : Nat → Nat → Int64) (l1 : Int32) (l2 : Int32) (l3 : Int32) : zm_R := zm_V zT_X10_opens zW_M (39, [some (.ref 0), some (.int l1), some (.int l2), some (.int l3)], [], (I, J))
noncomputable def zv_X10_opens_M_54 (I : Nat → Nat → Int32) (J : Nat → Nat → Int64) (l1 : Int32) (l2 : Int32) (l3 : Int32) : zm_R := zm_V zT_X10_opens zW_M (54, [some (.ref 0), some (.int l1), some (.int l2), some (.int l3)], [], (I, J))
noncomputable def zv_X10_opens_M_56 (I : Nat → Nat → Int32) (J : Nat → Nat → Int64) (l1 : Int32) (l2 : Int32) (l3 : Int32) : zm_R := zm_V zT_X10_opens zW_M (56, [some (.ref 0), some (.int l1), some (.int l2), some (.int l3)], [], (I, J))
noncomputable def zv_X10_opens_M_62 (I : Nat → Nat → Int32) (J : Nat → Nat → Int64) (l1 : Int32) (l2 : Int32) (l3 : Int32) : zm_R := zm_V zT_X10_opens zW_M (62, [some (.ref 0), some (.int l1), some (.int l2), some (.int l3)], [], (I, J))
noncomputable def zv_X10_opens_M_68 (I : Nat → Nat → Int32) (J : Nat → Nat → Int64) (l1 : Int32) (l2 : Int32) (l3 : Option Value) : zm_R := zm_V zT_X10_opens zW_M (68, [some (.ref 0), some (.int l1), some (.int l2), l3], [], (I, J))
set_option maxRecDepth 20000 in
theorem zc_X10_opens_M_0 (I : Nat → Nat → Int32) (J : Nat → Nat → Int64) (l1 : Int32) {I2 : Nat → Nat → Int32} {J2 : Nat → Nat → Int64} {r : Int32} (hF : zF_X10_isSeat zW_M [.ref 0, .long (Int32.toInt64 l1)] ((zm_w I 0 0 0), J) = some (some (.int r), (I2, J2))) : zv_X10_opens_M_0 I J l1 = zv_X10_opens_M_11 I2 J2 l1 r := by
  have e : ∀ k : zm_S → zm_R, zm_step zT_X10_opens zW_M k (0, [some (.ref 0), some (.int l1), none, none], [], (I, J)) = zm_app (2, some 10, true, [], zF_X10_isSeat) zW_M [.ref 0, .long (Int32.toInt64 l1)] ((zm_w I 0 0 0), J) (fun v N => k (11, [some (.ref 0), some (.int l1), none, none], v.toList ++ [], N)) := fun k => rfl
  have g := zm_app_s (C := (2, some 10, true, [], zF_X10_isSeat)) (wl := zW_M) (as := [.ref 0, .long (Int32.toInt64 l1)]) (M := ((zm_w I 0 0 0), J)) (k := fun v N => zm_V zT_X10_opens zW_M (11, [some (.ref 0), some (.int l1), none, none], v.toList ++ [], N)) rfl rfl hF
  exact (zm_V_eq _ _ _).trans ((e _).trans g)
set_option maxRecDepth 20000 in
theorem zq_X10_opens_M_11 (I : Nat → Nat → Int32) (J : Nat → Nat → Int64) (l1 : Int32) (s0 : Int32) : zv_X10_opens_M_11 I J l1 s0 = if s0 = 0 then zv_X10_opens_M_14 I J l1 else zv_X10_opens_M_17 I J l1 := (zm_V_eq _ _ _).trans ((fun (k : zm_S → zm_R) => (rfl : zm_step zT_X10_opens zW_M k (11, [some (.ref 0), some (.int l1), none, none], [.int s0], (I, J)) = if s0 = 0 then k (14, [some (.ref 0), some (.int l1), none, none], [], (I, J)) else k (17, [some (.ref 0), some (.int l1), none, none], [], (I, J)))) (zm_V zT_X10_opens zW_M))
set_option maxRecDepth 20000 in
theorem zq_X10_opens_M_14 (I : Nat → Nat → Int32) (J : Nat → Nat → Int64) (l1 : Int32) : zv_X10_opens_M_14 I J l1 = some (some (.int (-2)), (I, J)) := (zm_V_eq _ _ _).trans ((fun (k : zm_S → zm_R) => (rfl : zm_step zT_X10_opens zW_M k (14, [some (.ref 0), some (.int l1), none, none], [], (I, J)) = some (some (.int (-2)), (I, J)))) (zm_V zT_X10_opens zW_M))
set_option maxRecDepth 20000 in
theorem zc_X10_opens_M_17 (I : Nat → Nat → Int32) (J : Nat → Nat → Int64) (l1 : Int32) {I2 : Nat → Nat → Int32} {J2 : Nat → Nat → Int64} (hF : zF_X10_laysNow zW_M [.ref 0] (I, J) = some (none, (I2, J2))) : zv_X10_opens_M_17 I J l1 = zv_X10_opens_M_21 I2 J2 l1 := by
  have e : ∀ k : zm_S → zm_R, zm_step zT_X10_opens zW_M k (17, [some (.ref 0), some (.int l1), none, none], [], (I, J)) = zm_app (1, some 10, true, [], zF_X10_laysNow) zW_M [.ref 0] (I, J) (fun v N => k (21, [some (.ref 0), some (.int l1), none, none], v.toList ++ [], N)) := fun k => rfl
  have g := zm_app_s (C := (1, some 10, true, [], zF_X10_laysNow)) (wl := zW_M) (as := [.ref 0]) (M := (I, J)) (k := fun v N => zm_V zT_X10_opens zW_M (21, [some (.ref 0), some (.int l1), none, none], v.toList ++ [], N)) rfl rfl hF
  exact (zm_V_eq _ _ _).trans ((e _).trans g)
set_option maxRecDepth 20000 in
theorem zq_X10_opens_M_21 (I : Nat → Nat → Int32) (J : Nat → Nat → Int64) (l1 : Int32) : zv_X10_opens_M_21 I J l1 = zv_X10_opens_M_23 I J l1 0 none := (zm_V_eq _ _ _).trans ((fun (k : zm_S → zm_R) => (rfl : zm_step zT_X10_opens zW_M k (21, [some (.ref 0), some (.int l1), none, none], [], (I, J)) = k (23, [some (.ref 0), some (.int l1), some (.int 0), none], [], (I, J)))) (zm_V zT_X10_opens zW_M))
set_option maxRecDepth 20000 in
theorem zq_X10_opens_M_23 (I : Nat → Nat → Int32) (J : Nat → Nat → Int64) (l1 : Int32) (l2 : Int32) (l3 : Option Value) : zv_X10_opens_M_23 I J l1 l2 l3 = if 60 < l2 then zv_X10_opens_M_68 I J l1 l2 l3 else zv_X10_opens_M_29 I J l1 l2 l3 := (zm_V_eq _ _ _).trans ((fun (k : zm_S → zm_R) => (rfl : zm_step zT_X10_opens zW_M k (23, [some (.ref 0), some (.int l1), some (.int l2), l3], [], (I, J)) = if 60 < l2 then k (68, [some (.ref 0), some (.int l1), some (.int l2), l3], [], (I, J)) else k (29, [some (.ref 0), some (.int l1), some (.int l2), l3], [], (I, J)))) (zm_V zT_X10_opens zW_M))
set_option maxRecDepth 20000 in
theorem zq_X10_opens_M_29 (I : Nat → Nat → Int32) (J : Nat → Nat → Int64) (l1 : Int32) (l2 : Int32) (l3 : Option Value) : zv_X10_opens_M_29 I J l1 l2 l3 = zv_X10_opens_M_31 I J l1 l2 0 := (zm_V_eq _ _ _).trans ((fun (k : zm_S → zm_R) => (rfl : zm_step zT_X10_opens zW_M k (29, [some (.ref 0), some (.int l1), some (.int l2), l3], [], (I, J)) = k (31, [some (.ref 0), some (.int l1), some (.int l2), some (.int 0)], [], (I, J)))) (zm_V zT_X10_opens zW_M))
set_option maxRecDepth 20000 in
theorem zc_X10_opens_M_31 (I : Nat → Nat → Int32) (J : Nat → Nat → Int64) (l1 : Int32) (l2 : Int32) (l3 : Int32) {I2 : Nat → Nat → Int32} {J2 : Nat → Nat → Int64} {r : Int32} (hF : zF_X10_callers zW_M [.ref 0] (I, J) = some (some (.int r), (I2, J2))) : zv_X10_opens_M_31 I J l1 l2 l3 = zv_X10_opens_M_36 I2 J2 l1 l2 l3 r l3 := by
  have e : ∀ k : zm_S → zm_R, zm_step zT_X10_opens zW_M k (31, [some (.ref 0), some (.int l1), some (.int l2), some (.int l3)], [], (I, J)) = zm_app (1, some 10, true, [], zF_X10_callers) zW_M [.ref 0] (I, J) (fun v N => k (36, [some (.ref 0), some (.int l1), some (.int l2), some (.int l3)], v.toList ++ [.int l3], N)) := fun k => rfl
  have g := zm_app_s (C := (1, some 10, true, [], zF_X10_callers)) (wl := zW_M) (as := [.ref 0]) (M := (I, J)) (k := fun v N => zm_V zT_X10_opens zW_M (36, [some (.ref 0), some (.int l1), some (.int l2), some (.int l3)], v.toList ++ [.int l3], N)) rfl rfl hF
  exact (zm_V_eq _ _ _).trans ((e _).trans g)
set_option maxRecDepth 20000 in
theorem zq_X10_opens_M_36 (I : Nat → Nat → Int32) (J : Nat → Nat → Int64) (l1 : Int32) (l2 : Int32) (l3 : Int32) (s0 : Int32) (s1 : Int32) : zv_X10_opens_M_36 I J l1 l2 l3 s0 s1 = if s0 ≤ s1 then zv_X10_opens_M_62 I J l1 l2 l3 else zv_X10_opens_M_39 I J l1 l2 l3 := (zm_V_eq _ _ _).trans ((fun (k : zm_S → zm_R) => (rfl : zm_step zT_X10_opens zW_M k (36, [some (.ref 0), some (.int l1), some (.int l2), some (.int l3)], [.int s0, .int s1], (I, J)) = if s0 ≤ s1 then k (62, [some (.ref 0), some (.int l1), some (.int l2), some (.int l3)], [], (I, J)) else k (39, [some (.ref 0), some (.int l1), some (.int l2), some (.int l3)], [], (I, J)))) (zm_V zT_X10_opens zW_M))
set_option maxRecDepth 20000 in
theorem zq_X10_opens_M_39 (I : Nat → Nat → Int32) (J : Nat → Nat → Int64) (l1 : Int32) (l2 : Int32) (l3 : Int32) : zv_X10_opens_M_39 I J l1 l2 l3 = if (((61 * l3) + l2) : Int32) < 0 ∨ 305 ≤ Int32.toNatClampNeg ((61 * l3) + l2) then none else if (I 17 (Int32.toNatClampNeg ((61 * l3) + l2))) = l1 then zv_X10_opens_M_54 I J l1 l2 l3 else zv_X10_opens_M_56 I J l1 l2 l3 := (zm_V_eq _ _ _).trans ((fun (k : zm_S → zm_R) => (rfl : zm_step zT_X10_opens zW_M k (39, [some (.ref 0), some (.int l1), some (.int l2), some (.int l3)], [], (I, J)) = if (((61 * l3) + l2) : Int32) < 0 ∨ 305 ≤ Int32.toNatClampNeg ((61 * l3) + l2) then none else if (I 17 (Int32.toNatClampNeg ((61 * l3) + l2))) = l1 then k (54, [some (.ref 0), some (.int l1), some (.int l2), some (.int l3)], [], (I, J)) else k (56, [some (.ref 0), some (.int l1), some (.int l2), some (.int l3)], [], (I, J)))) (zm_V zT_X10_opens zW_M))
set_option maxRecDepth 20000 in
theorem zq_X10_opens_M_54 (I : Nat → Nat → Int32) (J : Nat → Nat → Int64) (l1 : Int32) (l2 : Int32) (l3 : Int32) : zv_X10_opens_M_54 I J l1 l2 l3 = some (some (.int l3), (I, J)) := (zm_V_eq _ _ _).trans ((fun (k : zm_S → zm_R) => (rfl : zm_step zT_X10_opens zW_M k (54, [some (.ref 0), some (.int l1), some (.int l2), some (.int l3)], [], (I, J)) = some (some (.int l3), (I, J)))) (zm_V zT_X10_opens zW_M))
set_option maxRecDepth 20000 in
theorem zq_X10_opens_M_56 (I : Nat → Nat → Int32) (J : Nat → Nat → Int64) (l1 : Int32) (l2 : Int32) (l3 : Int32) : zv_X10_opens_M_56 I J l1 l2 l3 = zv_X10_opens_M_31 I J l1 l2 (l3 + 1) := (zm_V_eq _ _ _).trans ((fun (k : zm_S → zm_R) => (rfl : zm_step zT_X10_opens zW_M k (56, [some (.ref 0), some (.int l1), some (.int l2), some (.int l3)], [], (I, J)) = k (31, [some (.ref 0), some (.int l1), some (.int l2), some (.int (l3 + 1))], [], (I, J)))) (zm_V zT_X10_opens zW_M))
set_option maxRecDepth 20000 in
theorem zq_X10_opens_M_62 (I : Nat → Nat → Int32) (J : Nat → Nat → Int64) (l1 : Int32) (l2 : Int32) (l3 : Int32) : zv_X10_opens_M_62 I J l1 l2 l3 = zv_X10_opens_M_23 I J l1 (l2 + 1) (some (.int l3)) := (zm_V_eq _ _ _).trans ((fun (k : zm_S → zm_R) => (rfl : zm_step zT_X10_opens zW_M k (62, [some (.ref 0), some (.int l1), some (.int l2), some (.int l3)], [], (I, J)) = k (23, [some (.ref 0), some (.int l1), some (.int (l2 + 1)), some (.int l3)], [], (I, J)))) (zm_V zT_X10_opens zW_M))
set_option maxRecDepth 20000 in
theorem zq_X10_opens_M_68 (I : Nat → Nat → Int32) (J : Nat → Nat → Int64) (l1 : Int32) (l2 : Int32) (l3 : Option Value) : zv_X10_opens_M_68 I J l1 l2 l3 = some (some (.int (-1)), (I, J)) := (zm_V_eq _ _ _).trans ((fun (k : zm_S → zm_R) => (rfl : zm_step zT_X10_opens zW_M k (68, [some (.ref 0), some (.int l1), some (.int l2), l3], [], (I, J)) = some (some (.int (-1)), (I, J)))) (zm_V zT_X10_opens zW_M))
theorem zf_X10_opens_M (I : Nat → Nat → Int32) (J : Nat → Nat → Int64) (l1 : Int32) : zF_X10_opens zW_M [.ref 0, .int l1] (I, J) = zv_X10_opens_M_0 I J l1 := rfl
noncomputable def zv_X10_last_M_0 (I : Nat → Nat → Int32) (J : Nat → Nat → Int64) : zm_R := zm_V zT_X10_last zW_M (0, [some (.ref 0), none, none], [], (I, J))
noncomputable def zv_X10_last_M_9 (I : Nat → Nat → Int32) (J : Nat → Nat → Int64) (s0 : Int32) : zm_R := zm_V zT_X10_last zW_M (9, [some (.ref 0), none, none], [.int s0], (I, J))
noncomputable def zv_X10_last_M_12 (I : Nat → Nat → Int32) (J : Nat → Nat → Int64) : zm_R := zm_V zT_X10_last zW_M (12, [some (.ref 0), none, none], [], (I, J))
noncomputable def zv_X10_last_M_15 (I : Nat → Nat → Int32) (J : Nat → Nat → Int64) : zm_R := zm_V zT_X10_last zW_M (15, [some (.ref 0), none, none], [], (I, J))
noncomputable def zv_X10_last_M_19 (I : Nat → Nat → Int32) (J : Nat → Nat → Int64) : zm_R := zm_V zT_X10_last zW_M (19, [some (.ref 0), none, none], [], (I, J))
noncomputable def zv_X10_last_M_23 (I : Nat → Nat → Int32) (J : Nat → Nat → Int64) (l1 : Int32) (l2 : Int32) : zm_R := zm_V zT_X10_last zW_M (23, [some (.ref 0), some (.int l1), some (.int l2)], [], (I, J))
noncomputable def zv_X10_last_M_28 (I : Nat → Nat → Int32) (J : Nat → Nat → Int64) (l1 : Int32) (l2 : Int32) (s0 : Int32) (s1 : Int32) : zm_R := zm_V zT_X10_last zW_M (28, [some (.ref 0), some (.int l1), some (.int l2)], [.int s0, .int s1], (I, J))
noncomputable def zv_X10_last_M_31 (I : Nat → Nat → Int32) (J : Nat → Nat → Int64) (l1 : Int32) (l2 : Int32) : zm_R := zm_V zT_X10_last zW_M (31, [some (.ref 0), some (.int l1), some (.int l2)], [], (I, J))
noncomputable def zv_X10_last_M_41 (I : Nat → Nat → Int32) (J : Nat → Nat → Int64) (l1 : Int32) (l2 : Int32) : zm_R := zm_V zT_X10_last zW_M (41, [some (.ref 0), some (.int l1), some (.int l2)], [], (I, J))
noncomputable def zv_X10_last_M_50 (I : Nat → Nat → Int32) (J : Nat → Nat → Int64) (l1 : Int32) (l2 : Int32) : zm_R := zm_V zT_X10_last zW_M (50, [some (.ref 0), some (.int l1), some (.int l2)], [], (I, J))
noncomputable def zv_X10_last_M_51 (I : Nat → Nat → Int32) (J : Nat → Nat → Int64) (l1 : Int32) (l2 : Int32) (s0 : Int32) : zm_R := zm_V zT_X10_last zW_M (51, [some (.ref 0), some (.int l1), some (.int l2)], [.int s0], (I, J))
noncomputable def zv_X10_last_M_58 (I : Nat → Nat → Int32) (J : Nat → Nat → Int64) (l1 : Int32) (l2 : Int32) : zm_R := zm_V zT_X10_last zW_M (58, [some (.ref 0), some (.int l1), some (.int l2)], [], (I, J))
set_option maxRecDepth 20000 in
theorem zc_X10_last_M_0 (I : Nat → Nat → Int32) (J : Nat → Nat → Int64) {I2 : Nat → Nat → Int32} {J2 : Nat → Nat → Int64} {r : Int32} (hF : zF_X10_isBench zW_M [.ref 0] ((zm_w I 0 0 0), J) = some (some (.int r), (I2, J2))) : zv_X10_last_M_0 I J = zv_X10_last_M_9 I2 J2 r := by
  have e : ∀ k : zm_S → zm_R, zm_step zT_X10_last zW_M k (0, [some (.ref 0), none, none], [], (I, J)) = zm_app (1, some 10, true, [], zF_X10_isBench) zW_M [.ref 0] ((zm_w I 0 0 0), J) (fun v N => k (9, [some (.ref 0), none, none], v.toList ++ [], N)) := fun k => rfl
  have g := zm_app_s (C := (1, some 10, true, [], zF_X10_isBench)) (wl := zW_M) (as := [.ref 0]) (M := ((zm_w I 0 0 0), J)) (k := fun v N => zm_V zT_X10_last zW_M (9, [some (.ref 0), none, none], v.toList ++ [], N)) rfl rfl hF
  exact (zm_V_eq _ _ _).trans ((e _).trans g)
set_option maxRecDepth 20000 in
theorem zq_X10_last_M_9 (I : Nat → Nat → Int32) (J : Nat → Nat → Int64) (s0 : Int32) : zv_X10_last_M_9 I J s0 = if s0 = 0 then zv_X10_last_M_12 I J else zv_X10_last_M_15 I J := (zm_V_eq _ _ _).trans ((fun (k : zm_S → zm_R) => (rfl : zm_step zT_X10_last zW_M k (9, [some (.ref 0), none, none], [.int s0], (I, J)) = if s0 = 0 then k (12, [some (.ref 0), none, none], [], (I, J)) else k (15, [some (.ref 0), none, none], [], (I, J)))) (zm_V zT_X10_last zW_M))
set_option maxRecDepth 20000 in
theorem zq_X10_last_M_12 (I : Nat → Nat → Int32) (J : Nat → Nat → Int64) : zv_X10_last_M_12 I J = some (some (.int (-2)), (I, J)) := (zm_V_eq _ _ _).trans ((fun (k : zm_S → zm_R) => (rfl : zm_step zT_X10_last zW_M k (12, [some (.ref 0), none, none], [], (I, J)) = some (some (.int (-2)), (I, J)))) (zm_V zT_X10_last zW_M))
set_option maxRecDepth 20000 in
theorem zc_X10_last_M_15 (I : Nat → Nat → Int32) (J : Nat → Nat → Int64) {I2 : Nat → Nat → Int32} {J2 : Nat → Nat → Int64} (hF : zF_X10_laysNow zW_M [.ref 0] (I, J) = some (none, (I2, J2))) : zv_X10_last_M_15 I J = zv_X10_last_M_19 I2 J2  := by
  have e : ∀ k : zm_S → zm_R, zm_step zT_X10_last zW_M k (15, [some (.ref 0), none, none], [], (I, J)) = zm_app (1, some 10, true, [], zF_X10_laysNow) zW_M [.ref 0] (I, J) (fun v N => k (19, [some (.ref 0), none, none], v.toList ++ [], N)) := fun k => rfl
  have g := zm_app_s (C := (1, some 10, true, [], zF_X10_laysNow)) (wl := zW_M) (as := [.ref 0]) (M := (I, J)) (k := fun v N => zm_V zT_X10_last zW_M (19, [some (.ref 0), none, none], v.toList ++ [], N)) rfl rfl hF
  exact (zm_V_eq _ _ _).trans ((e _).trans g)
set_option maxRecDepth 20000 in
theorem zq_X10_last_M_19 (I : Nat → Nat → Int32) (J : Nat → Nat → Int64) : zv_X10_last_M_19 I J = zv_X10_last_M_23 I J (-1) 0 := (zm_V_eq _ _ _).trans ((fun (k : zm_S → zm_R) => (rfl : zm_step zT_X10_last zW_M k (19, [some (.ref 0), none, none], [], (I, J)) = k (23, [some (.ref 0), some (.int (-1)), some (.int 0)], [], (I, J)))) (zm_V zT_X10_last zW_M))
set_option maxRecDepth 20000 in
theorem zc_X10_last_M_23 (I : Nat → Nat → Int32) (J : Nat → Nat → Int64) (l1 : Int32) (l2 : Int32) {I2 : Nat → Nat → Int32} {J2 : Nat → Nat → Int64} {r : Int32} (hF : zF_X10_callers zW_M [.ref 0] (I, J) = some (some (.int r), (I2, J2))) : zv_X10_last_M_23 I J l1 l2 = zv_X10_last_M_28 I2 J2 l1 l2 r l2 := by
  have e : ∀ k : zm_S → zm_R, zm_step zT_X10_last zW_M k (23, [some (.ref 0), some (.int l1), some (.int l2)], [], (I, J)) = zm_app (1, some 10, true, [], zF_X10_callers) zW_M [.ref 0] (I, J) (fun v N => k (28, [some (.ref 0), some (.int l1), some (.int l2)], v.toList ++ [.int l2], N)) := fun k => rfl
  have g := zm_app_s (C := (1, some 10, true, [], zF_X10_callers)) (wl := zW_M) (as := [.ref 0]) (M := (I, J)) (k := fun v N => zm_V zT_X10_last zW_M (28, [some (.ref 0), some (.int l1), some (.int l2)], v.toList ++ [.int l2], N)) rfl rfl hF
  exact (zm_V_eq _ _ _).trans ((e _).trans g)
set_option maxRecDepth 20000 in
theorem zq_X10_last_M_28 (I : Nat → Nat → Int32) (J : Nat → Nat → Int64) (l1 : Int32) (l2 : Int32) (s0 : Int32) (s1 : Int32) : zv_X10_last_M_28 I J l1 l2 s0 s1 = if s0 ≤ s1 then zv_X10_last_M_58 I J l1 l2 else zv_X10_last_M_31 I J l1 l2 := (zm_V_eq _ _ _).trans ((fun (k : zm_S → zm_R) => (rfl : zm_step zT_X10_last zW_M k (28, [some (.ref 0), some (.int l1), some (.int l2)], [.int s0, .int s1], (I, J)) = if s0 ≤ s1 then k (58, [some (.ref 0), some (.int l1), some (.int l2)], [], (I, J)) else k (31, [some (.ref 0), some (.int l1), some (.int l2)], [], (I, J)))) (zm_V zT_X10_last zW_M))
set_option maxRecDepth 20000 in
theorem zq_X10_last_M_31 (I : Nat → Nat → Int32) (J : Nat → Nat → Int64) (l1 : Int32) (l2 : Int32) : zv_X10_last_M_31 I J l1 l2 = if (l2 : Int32) < 0 ∨ 5 ≤ Int32.toNatClampNeg l2 then none else if (I 18 (Int32.toNatClampNeg l2)) ≤ l1 then zv_X10_last_M_50 I J l1 l2 else zv_X10_last_M_41 I J l1 l2 := (zm_V_eq _ _ _).trans ((fun (k : zm_S → zm_R) => (rfl : zm_step zT_X10_last zW_M k (31, [some (.ref 0), some (.int l1), some (.int l2)], [], (I, J)) = if (l2 : Int32) < 0 ∨ 5 ≤ Int32.toNatClampNeg l2 then none else if (I 18 (Int32.toNatClampNeg l2)) ≤ l1 then k (50, [some (.ref 0), some (.int l1), some (.int l2)], [], (I, J)) else k (41, [some (.ref 0), some (.int l1), some (.int l2)], [], (I, J)))) (zm_V zT_X10_last zW_M))
set_option maxRecDepth 20000 in
theorem zq_X10_last_M_41 (I : Nat → Nat → Int32) (J : Nat → Nat → Int64) (l1 : Int32) (l2 : Int32) : zv_X10_last_M_41 I J l1 l2 = if (l2 : Int32) < 0 ∨ 5 ≤ Int32.toNatClampNeg l2 then none else zv_X10_last_M_51 I J l1 l2 (I 18 (Int32.toNatClampNeg l2)) := (zm_V_eq _ _ _).trans ((fun (k : zm_S → zm_R) => (rfl : zm_step zT_X10_last zW_M k (41, [some (.ref 0), some (.int l1), some (.int l2)], [], (I, J)) = if (l2 : Int32) < 0 ∨ 5 ≤ Int32.toNatClampNeg l2 then none else k (51, [some (.ref 0), some (.int l1), some (.int l2)], [.int (I 18 (Int32.toNatClampNeg l2))], (I, J)))) (zm_V zT_X10_last zW_M))
set_option maxRecDepth 20000 in
theorem zq_X10_last_M_50 (I : Nat → Nat → Int32) (J : Nat → Nat → Int64) (l1 : Int32) (l2 : Int32) : zv_X10_last_M_50 I J l1 l2 = zv_X10_last_M_51 I J l1 l2 l1 := (zm_V_eq _ _ _).trans ((fun (k : zm_S → zm_R) => (rfl : zm_step zT_X10_last zW_M k (50, [some (.ref 0), some (.int l1), some (.int l2)], [], (I, J)) = k (51, [some (.ref 0), some (.int l1), some (.int l2)], [.int l1], (I, J)))) (zm_V zT_X10_last zW_M))
set_option maxRecDepth 20000 in
theorem zq_X10_last_M_51 (I : Nat → Nat → Int32) (J : Nat → Nat → Int64) (l1 : Int32) (l2 : Int32) (s0 : Int32) : zv_X10_last_M_51 I J l1 l2 s0 = zv_X10_last_M_23 I J s0 (l2 + 1) := (zm_V_eq _ _ _).trans ((fun (k : zm_S → zm_R) => (rfl : zm_step zT_X10_last zW_M k (51, [some (.ref 0), some (.int l1), some (.int l2)], [.int s0], (I, J)) = k (23, [some (.ref 0), some (.int s0), some (.int (l2 + 1))], [], (I, J)))) (zm_V zT_X10_last zW_M))
set_option maxRecDepth 20000 in
theorem zq_X10_last_M_58 (I : Nat → Nat → Int32) (J : Nat → Nat → Int64) (l1 : Int32) (l2 : Int32) : zv_X10_last_M_58 I J l1 l2 = some (some (.int l1), (I, J)) := (zm_V_eq _ _ _).trans ((fun (k : zm_S → zm_R) => (rfl : zm_step zT_X10_last zW_M k (58, [some (.ref 0), some (.int l1), some (.int l2)], [], (I, J)) = some (some (.int l1), (I, J)))) (zm_V zT_X10_last zW_M))
theorem zf_X10_last_M (I : Nat → Nat → Int32) (J : Nat → Nat → Int64) : zF_X10_last zW_M [.ref 0] (I, J) = zv_X10_last_M_0 I J := rfl
noncomputable def zv_X10_worn_M_0 (I : Nat → Nat → Int32) (J : Nat → Nat → Int64) (l1 : Int32) (l2 : Int32) : zm_R := zm_V zT_X10_worn zW_M (0, [some (.ref 0), some (.int l1), some (.int l2), none, none], [], (I, J))
noncomputable def zv_X10_worn_M_11 (I : Nat → Nat → Int32) (J : Nat → Nat → Int64) (l1 : Int32) (l2 : Int32) (s0 : Int32) : zm_R := zm_V zT_X10_worn zW_M (11, [some (.ref 0), some (.int l1), some (.int l2), none, none], [.int s0], (I, J))
noncomputable def zv_X10_worn_M_14 (I : Nat → Nat → Int32) (J : Nat → Nat → Int64) (l1 : Int32) (l2 : Int32) : zm_R := zm_V zT_X10_worn zW_M (14, [some (.ref 0), some (.int l1), some (.int l2), none, none], [], (I, J))
noncomputable def zv_X10_worn_M_20 (I : Nat → Nat → Int32) (J : Nat → Nat → Int64) (l1 : Int32) (l2 : Int32) (s0 : Int32) : zm_R := zm_V zT_X10_worn zW_M (20, [some (.ref 0), some (.int l1), some (.int l2), none, none], [.int s0], (I, J))
noncomputable def zv_X10_worn_M_23 (I : Nat → Nat → Int32) (J : Nat → Nat → Int64) (l1 : Int32) (l2 : Int32) : zm_R := zm_V zT_X10_worn zW_M (23, [some (.ref 0), some (.int l1), some (.int l2), none, none], [], (I, J))
noncomputable def zv_X10_worn_M_26 (I : Nat → Nat → Int32) (J : Nat → Nat → Int64) (l1 : Int32) (l2 : Int32) : zm_R := zm_V zT_X10_worn zW_M (26, [some (.ref 0), some (.int l1), some (.int l2), none, none], [], (I, J))
noncomputable def zv_X10_worn_M_30 (I : Nat → Nat → Int32) (J : Nat → Nat → Int64) (l1 : Int32) (l2 : Int32) : zm_R := zm_V zT_X10_worn zW_M (30, [some (.ref 0), some (.int l1), some (.int l2), none, none], [], (I, J))
noncomputable def zv_X10_worn_M_35 (I : Nat → Nat → Int32) (J : Nat → Nat → Int64) (l1 : Int32) (l2 : Int32) (l3 : Int32) (l4 : Int32) : zm_R := zm_V zT_X10_worn zW_M (35, [some (.ref 0), some (.int l1), some (.int l2), some (.int l3), some (.int l4)], [], (I, J))
noncomputable def zv_X10_worn_M_42 (I : Nat → Nat → Int32) (J : Nat → Nat → Int64) (l1 : Int32) (l2 : Int32) (l3 : Int32) (l4 : Int32) : zm_R := zm_V zT_X10_worn zW_M (42, [some (.ref 0), some (.int l1), some (.int l2), some (.int l3), some (.int l4)], [], (I, J))
noncomputable def zv_X10_worn_M_59 (I : Nat → Nat → Int32) (J : Nat → Nat → Int64) (l1 : Int32) (l2 : Int32) (l3 : Int32) (l4 : Int32) (s0 : Int32) : zm_R := zm_V zT_X10_worn zW_M (59, [some (.ref 0), some (.int l1), some (.int l2), some (.int l3), some (.int l4)], [.int s0], (I, J))
noncomputable def zv_X10_worn_M_63 (I : Nat → Nat → Int32) (J : Nat → Nat → Int64) (l1 : Int32) (l2 : Int32) (l3 : Int32) (l4 : Int32) (s0 : Int32) : zm_R := zm_V zT_X10_worn zW_M (63, [some (.ref 0), some (.int l1), some (.int l2), some (.int l3), some (.int l4)], [.int s0], (I, J))
noncomputable def zv_X10_worn_M_64 (I : Nat → Nat → Int32) (J : Nat → Nat → Int64) (l1 : Int32) (l2 : Int32) (l3 : Int32) (l4 : Int32) (s0 : Int32) (s1 : Int32) : zm_R := zm_V zT_X10_worn zW_M (64, [some (.ref 0), some (.int l1), some (.int l2), some (.int l3), some (.int l4)], [.int s0, .int s1], (I, J))
noncomputable def zv_X10_worn_M_72 (I : Nat → Nat → Int32) (J : Nat → Nat → Int64) (l1 : Int32) (l2 : Int32) (l3 : Int32) (l4 : Int32) : zm_R := zm_V zT_X10_worn zW_M (72, [some (.ref 0), some (.int l1), some (.int l2), some (.int l3), some (.int l4)], [], (I, J))
set_option maxRecDepth 20000 in
theorem zc_X10_worn_M_0 (I : Nat → Nat → Int32) (J : Nat → Nat → Int64) (l1 : Int32) (l2 : Int32) {I2 : Nat → Nat → Int32} {J2 : Nat → Nat → Int64} {r : Int32} (hF : zF_X10_isCaller zW_M [.ref 0, .long (Int32.toInt64 l1)] ((zm_w I 0 0 0), J) = some (some (.int r), (I2, J2))) : zv_X10_worn_M_0 I J l1 l2 = zv_X10_worn_M_11 I2 J2 l1 l2 r := by
  have e : ∀ k : zm_S → zm_R, zm_step zT_X10_worn zW_M k (0, [some (.ref 0), some (.int l1), some (.int l2), none, none], [], (I, J)) = zm_app (2, some 10, true, [], zF_X10_isCaller) zW_M [.ref 0, .long (Int32.toInt64 l1)] ((zm_w I 0 0 0), J) (fun v N => k (11, [some (.ref 0), some (.int l1), some (.int l2), none, none], v.toList ++ [], N)) := fun k => rfl
  have g := zm_app_s (C := (2, some 10, true, [], zF_X10_isCaller)) (wl := zW_M) (as := [.ref 0, .long (Int32.toInt64 l1)]) (M := ((zm_w I 0 0 0), J)) (k := fun v N => zm_V zT_X10_worn zW_M (11, [some (.ref 0), some (.int l1), some (.int l2), none, none], v.toList ++ [], N)) rfl rfl hF
  exact (zm_V_eq _ _ _).trans ((e _).trans g)
set_option maxRecDepth 20000 in
theorem zq_X10_worn_M_11 (I : Nat → Nat → Int32) (J : Nat → Nat → Int64) (l1 : Int32) (l2 : Int32) (s0 : Int32) : zv_X10_worn_M_11 I J l1 l2 s0 = if s0 = 0 then zv_X10_worn_M_23 I J l1 l2 else zv_X10_worn_M_14 I J l1 l2 := (zm_V_eq _ _ _).trans ((fun (k : zm_S → zm_R) => (rfl : zm_step zT_X10_worn zW_M k (11, [some (.ref 0), some (.int l1), some (.int l2), none, none], [.int s0], (I, J)) = if s0 = 0 then k (23, [some (.ref 0), some (.int l1), some (.int l2), none, none], [], (I, J)) else k (14, [some (.ref 0), some (.int l1), some (.int l2), none, none], [], (I, J)))) (zm_V zT_X10_worn zW_M))
set_option maxRecDepth 20000 in
theorem zc_X10_worn_M_14 (I : Nat → Nat → Int32) (J : Nat → Nat → Int64) (l1 : Int32) (l2 : Int32) {I2 : Nat → Nat → Int32} {J2 : Nat → Nat → Int64} {r : Int32} (hF : zF_X10_isSeat zW_M [.ref 0, .long (Int32.toInt64 l2)] (I, J) = some (some (.int r), (I2, J2))) : zv_X10_worn_M_14 I J l1 l2 = zv_X10_worn_M_20 I2 J2 l1 l2 r := by
  have e : ∀ k : zm_S → zm_R, zm_step zT_X10_worn zW_M k (14, [some (.ref 0), some (.int l1), some (.int l2), none, none], [], (I, J)) = zm_app (2, some 10, true, [], zF_X10_isSeat) zW_M [.ref 0, .long (Int32.toInt64 l2)] (I, J) (fun v N => k (20, [some (.ref 0), some (.int l1), some (.int l2), none, none], v.toList ++ [], N)) := fun k => rfl
  have g := zm_app_s (C := (2, some 10, true, [], zF_X10_isSeat)) (wl := zW_M) (as := [.ref 0, .long (Int32.toInt64 l2)]) (M := (I, J)) (k := fun v N => zm_V zT_X10_worn zW_M (20, [some (.ref 0), some (.int l1), some (.int l2), none, none], v.toList ++ [], N)) rfl rfl hF
  exact (zm_V_eq _ _ _).trans ((e _).trans g)
set_option maxRecDepth 20000 in
theorem zq_X10_worn_M_20 (I : Nat → Nat → Int32) (J : Nat → Nat → Int64) (l1 : Int32) (l2 : Int32) (s0 : Int32) : zv_X10_worn_M_20 I J l1 l2 s0 = if s0 = 0 then zv_X10_worn_M_23 I J l1 l2 else zv_X10_worn_M_26 I J l1 l2 := (zm_V_eq _ _ _).trans ((fun (k : zm_S → zm_R) => (rfl : zm_step zT_X10_worn zW_M k (20, [some (.ref 0), some (.int l1), some (.int l2), none, none], [.int s0], (I, J)) = if s0 = 0 then k (23, [some (.ref 0), some (.int l1), some (.int l2), none, none], [], (I, J)) else k (26, [some (.ref 0), some (.int l1), some (.int l2), none, none], [], (I, J)))) (zm_V zT_X10_worn zW_M))
set_option maxRecDepth 20000 in
theorem zq_X10_worn_M_23 (I : Nat → Nat → Int32) (J : Nat → Nat → Int64) (l1 : Int32) (l2 : Int32) : zv_X10_worn_M_23 I J l1 l2 = some (some (.int (-2)), (I, J)) := (zm_V_eq _ _ _).trans ((fun (k : zm_S → zm_R) => (rfl : zm_step zT_X10_worn zW_M k (23, [some (.ref 0), some (.int l1), some (.int l2), none, none], [], (I, J)) = some (some (.int (-2)), (I, J)))) (zm_V zT_X10_worn zW_M))
set_option maxRecDepth 20000 in
theorem zc_X10_worn_M_26 (I : Nat → Nat → Int32) (J : Nat → Nat → Int64) (l1 : Int32) (l2 : Int32) {I2 : Nat → Nat → Int32} {J2 : Nat → Nat → Int64} (hF : zF_X10_laysNow zW_M [.ref 0] (I, J) = some (none, (I2, J2))) : zv_X10_worn_M_26 I J l1 l2 = zv_X10_worn_M_30 I2 J2 l1 l2 := by
  have e : ∀ k : zm_S → zm_R, zm_step zT_X10_worn zW_M k (26, [some (.ref 0), some (.int l1), some (.int l2), none, none], [], (I, J)) = zm_app (1, some 10, true, [], zF_X10_laysNow) zW_M [.ref 0] (I, J) (fun v N => k (30, [some (.ref 0), some (.int l1), some (.int l2), none, none], v.toList ++ [], N)) := fun k => rfl
  have g := zm_app_s (C := (1, some 10, true, [], zF_X10_laysNow)) (wl := zW_M) (as := [.ref 0]) (M := (I, J)) (k := fun v N => zm_V zT_X10_worn zW_M (30, [some (.ref 0), some (.int l1), some (.int l2), none, none], v.toList ++ [], N)) rfl rfl hF
  exact (zm_V_eq _ _ _).trans ((e _).trans g)
set_option maxRecDepth 20000 in
theorem zq_X10_worn_M_30 (I : Nat → Nat → Int32) (J : Nat → Nat → Int64) (l1 : Int32) (l2 : Int32) : zv_X10_worn_M_30 I J l1 l2 = zv_X10_worn_M_35 I J l1 l2 0 0 := (zm_V_eq _ _ _).trans ((fun (k : zm_S → zm_R) => (rfl : zm_step zT_X10_worn zW_M k (30, [some (.ref 0), some (.int l1), some (.int l2), none, none], [], (I, J)) = k (35, [some (.ref 0), some (.int l1), some (.int l2), some (.int 0), some (.int 0)], [], (I, J)))) (zm_V zT_X10_worn zW_M))
set_option maxRecDepth 20000 in
theorem zq_X10_worn_M_35 (I : Nat → Nat → Int32) (J : Nat → Nat → Int64) (l1 : Int32) (l2 : Int32) (l3 : Int32) (l4 : Int32) : zv_X10_worn_M_35 I J l1 l2 l3 l4 = if 60 < l4 then zv_X10_worn_M_72 I J l1 l2 l3 l4 else zv_X10_worn_M_42 I J l1 l2 l3 l4 := (zm_V_eq _ _ _).trans ((fun (k : zm_S → zm_R) => (rfl : zm_step zT_X10_worn zW_M k (35, [some (.ref 0), some (.int l1), some (.int l2), some (.int l3), some (.int l4)], [], (I, J)) = if 60 < l4 then k (72, [some (.ref 0), some (.int l1), some (.int l2), some (.int l3), some (.int l4)], [], (I, J)) else k (42, [some (.ref 0), some (.int l1), some (.int l2), some (.int l3), some (.int l4)], [], (I, J)))) (zm_V zT_X10_worn zW_M))
set_option maxRecDepth 20000 in
theorem zq_X10_worn_M_42 (I : Nat → Nat → Int32) (J : Nat → Nat → Int64) (l1 : Int32) (l2 : Int32) (l3 : Int32) (l4 : Int32) : zv_X10_worn_M_42 I J l1 l2 l3 l4 = if (((61 * l1) + l4) : Int32) < 0 ∨ 305 ≤ Int32.toNatClampNeg ((61 * l1) + l4) then none else if (I 17 (Int32.toNatClampNeg ((61 * l1) + l4))) = l2 then zv_X10_worn_M_59 I J l1 l2 l3 l4 l3 else zv_X10_worn_M_63 I J l1 l2 l3 l4 l3 := (zm_V_eq _ _ _).trans ((fun (k : zm_S → zm_R) => (rfl : zm_step zT_X10_worn zW_M k (42, [some (.ref 0), some (.int l1), some (.int l2), some (.int l3), some (.int l4)], [], (I, J)) = if (((61 * l1) + l4) : Int32) < 0 ∨ 305 ≤ Int32.toNatClampNeg ((61 * l1) + l4) then none else if (I 17 (Int32.toNatClampNeg ((61 * l1) + l4))) = l2 then k (59, [some (.ref 0), some (.int l1), some (.int l2), some (.int l3), some (.int l4)], [.int l3], (I, J)) else k (63, [some (.ref 0), some (.int l1), some (.int l2), some (.int l3), some (.int l4)], [.int l3], (I, J)))) (zm_V zT_X10_worn zW_M))
set_option maxRecDepth 20000 in
theorem zq_X10_worn_M_59 (I : Nat → Nat → Int32) (J : Nat → Nat → Int64) (l1 : Int32) (l2 : Int32) (l3 : Int32) (l4 : Int32) (s0 : Int32) : zv_X10_worn_M_59 I J l1 l2 l3 l4 s0 = zv_X10_worn_M_64 I J l1 l2 l3 l4 1 s0 := (zm_V_eq _ _ _).trans ((fun (k : zm_S → zm_R) => (rfl : zm_step zT_X10_worn zW_M k (59, [some (.ref 0), some (.int l1), some (.int l2), some (.int l3), some (.int l4)], [.int s0], (I, J)) = k (64, [some (.ref 0), some (.int l1), some (.int l2), some (.int l3), some (.int l4)], [.int 1, .int s0], (I, J)))) (zm_V zT_X10_worn zW_M))
set_option maxRecDepth 20000 in
theorem zq_X10_worn_M_63 (I : Nat → Nat → Int32) (J : Nat → Nat → Int64) (l1 : Int32) (l2 : Int32) (l3 : Int32) (l4 : Int32) (s0 : Int32) : zv_X10_worn_M_63 I J l1 l2 l3 l4 s0 = zv_X10_worn_M_64 I J l1 l2 l3 l4 0 s0 := (zm_V_eq _ _ _).trans ((fun (k : zm_S → zm_R) => (rfl : zm_step zT_X10_worn zW_M k (63, [some (.ref 0), some (.int l1), some (.int l2), some (.int l3), some (.int l4)], [.int s0], (I, J)) = k (64, [some (.ref 0), some (.int l1), some (.int l2), some (.int l3), some (.int l4)], [.int 0, .int s0], (I, J)))) (zm_V zT_X10_worn zW_M))
set_option maxRecDepth 20000 in
theorem zq_X10_worn_M_64 (I : Nat → Nat → Int32) (J : Nat → Nat → Int64) (l1 : Int32) (l2 : Int32) (l3 : Int32) (l4 : Int32) (s0 : Int32) (s1 : Int32) : zv_X10_worn_M_64 I J l1 l2 l3 l4 s0 s1 = zv_X10_worn_M_35 I J l1 l2 (s1 + s0) (l4 + 1) := (zm_V_eq _ _ _).trans ((fun (k : zm_S → zm_R) => (rfl : zm_step zT_X10_worn zW_M k (64, [some (.ref 0), some (.int l1), some (.int l2), some (.int l3), some (.int l4)], [.int s0, .int s1], (I, J)) = k (35, [some (.ref 0), some (.int l1), some (.int l2), some (.int (s1 + s0)), some (.int (l4 + 1))], [], (I, J)))) (zm_V zT_X10_worn zW_M))
set_option maxRecDepth 20000 in
theorem zq_X10_worn_M_72 (I : Nat → Nat → Int32) (J : Nat → Nat → Int64) (l1 : Int32) (l2 : Int32) (l3 : Int32) (l4 : Int32) : zv_X10_worn_M_72 I J l1 l2 l3 l4 = some (some (.int l3), (I, J)) := (zm_V_eq _ _ _).trans ((fun (k : zm_S → zm_R) => (rfl : zm_step zT_X10_worn zW_M k (72, [some (.ref 0), some (.int l1), some (.int l2), some (.int l3), some (.int l4)], [], (I, J)) = some (some (.int l3), (I, J)))) (zm_V zT_X10_worn zW_M))
theorem zf_X10_worn_M (I : Nat → Nat → Int32) (J : Nat → Nat → Int64) (l1 : Int32) (l2 : Int32) : zF_X10_worn zW_M [.ref 0, .int l1, .int l2] (I, J) = zv_X10_worn_M_0 I J l1 l2 := rfl
end
section
/-! THE DAY'S ANSWERS: goes, last -/
section ZZ3
variable {X I : Nat → Nat → Int32} {Q J : Nat → Nat → Int64}
theorem zZ_time (l : Int32) : zF_X10_isTime zW_M [.ref 0, .int l] (I, J) = some (some (.int (if 0 < (I 6 0).toInt ∧ 0 ≤ l.toInt ∧ l.toInt ≤ 60 then 1 else 0)), (I, J)) := by
  have e0 : zv_X10_isTime_M_19 I J l 0 = some (some (.int 0), (I, J)) := by rw [zq_X10_isTime_M_19, if_pos (Or.inl rfl)]
  have e1 : zv_X10_isTime_M_19 I J l 1 = some (some (.int 1), (I, J)) := by rw [zq_X10_isTime_M_19, if_pos (Or.inr rfl)]
  rw [zf_X10_isTime_M, zc_X10_isTime_M_0 _ _ _ zV_ibM, zq_X10_isTime_M_4]
  by_cases c : (I 6 0).toInt ≤ 0
  · rw [if_pos c, if_pos rfl, zq_X10_isTime_M_18, e0, if_neg (show ¬ (0 < (I 6 0).toInt ∧ 0 ≤ l.toInt ∧ l.toInt ≤ 60) by omega)]
  · rw [if_neg c, if_neg (by decide), zc_X10_isTime_M_7 _ _ _ (zV_miM l), zq_X10_isTime_M_11]
    by_cases d : 0 ≤ l.toInt ∧ l.toInt ≤ 60
    · rw [if_pos d, if_neg (by decide), zq_X10_isTime_M_14, e1, if_pos (show 0 < (I 6 0).toInt ∧ 0 ≤ l.toInt ∧ l.toInt ≤ 60 by omega)]
    · rw [if_neg d, if_pos rfl, zq_X10_isTime_M_18, e0, if_neg (show ¬ (0 < (I 6 0).toInt ∧ 0 ≤ l.toInt ∧ l.toInt ≤ 60) by omega)]
/-- both days, with what the loops over callers ask -/
theorem zZ_days (hG : zt_Gs zo_g1 (X, Q)) (hF : zdF (X, Q)) (hq : zqC 1 0 X I) (hM : zt_Gs zo_g22 (I, J)) (hP : zq_P (I, J)) (hn : 0 < (X 1 0).toInt ∨ 0 < (X 1 5).toInt ∨ 0 < (X 1 6).toInt) : ∃ (C : Nat) (N : zm_I) (N' : Nat → Nat → Int32) (K' : Nat → Nat → Int64), C ≤ 5 ∧ X 1 6 = Int32.ofNat C ∧ zF_X9_livedToday zW_X [.ref 0] (X, Q) = some (some (.ref 21), (N.1, N.2)) ∧ zF_X10_laysNow zW_M [.ref 0] (zm_w I 0 0 0, J) = some (none, (N', K')) ∧ N.1 1 6 = Int32.ofNat C ∧ N' 7 5 = Int32.ofNat C ∧ (∀ n b, n < 11 → N.1 n b = X n b) ∧ (∀ c, c < 5 → N.1 27 c = N' 18 c) ∧ (∀ m c, m < 61 → c < C → N.1 31 (5 * m + c) = N' 17 (61 * c + m) ∧ (N.1 30 (5 * m + c) = -1 ↔ N' 16 (61 * c + m) = -1)) ∧ (∀ c, c < C → N' 14 c = X 4 c) ∧ (∀ a b, (a ≠ 0 ∧ (a < 12 ∨ 25 < a)) → N' a b = I a b) := by
  have g6 : (0 : Int) ≤ (X 1 6).toInt ∧ (X 1 6).toInt ≤ 5 := hG 1 _ rfl 6 _ rfl
  have q3 : X 1 6 = I 7 5 := hq.1.2.2.1
  have hE := zY_E hq hP hn
  obtain ⟨N, l1, l2, l3, l4, l5⟩ := zY_lt hG hF hE
  obtain ⟨N', K', m1, m2, m3⟩ := zY_now hG hE hq hM
  obtain ⟨C, hC⟩ : ∃ C : Nat, (X 1 6).toInt = C := ⟨(X 1 6).toInt.toNat, by omega⟩
  have e6 : X 1 6 = Int32.ofNat C := Int32.toInt_inj.mp (by rw [hC, zp_o (by omega)])
  have hB : (zd_bx (X, Q)).1.1 = C := by
    show (X 1 6).toInt.toNat = C
    omega
  refine ⟨C, N, N', K', by omega, e6, l1, m1, (l5 1 6 (by decide)).trans e6, (m3 7 5 (by decide)).trans (q3.symm.trans e6), l5, fun c hc => ?_, fun m c hm hc => ?_, fun c hc => ?_, m3⟩
  · have r := l2.2.1 c hc
    rw [l3] at r
    exact Int32.toInt_inj.mp (r.trans (m2.2.2.1 c hc).symm)
  · have r := l2.1 m (by omega) c (by omega)
    rw [l3] at r
    have r := r (by rw [hB]; exact hc)
    have s := m2.2.2.2.2 m hm c (by rw [hB]; exact hc)
    refine ⟨zZ_K r s, ?_⟩
    have e : ∀ z : Int32, z = -1 ↔ z.toInt = -1 := fun z => ⟨fun q => by rw [q]; decide, fun q => Int32.toInt_inj.mp (q.trans (by decide))⟩
    rw [e, e, r.2, s.2]
  · have z := (m2.1.2.1 c (by rw [hB]; exact hc)).1
    have r4 : (0 : Int) ≤ (X 4 c).toInt ∧ (X 4 c).toInt ≤ 61 := zh_ga (b := (.ofNat 0, .ofNat 61)) hG rfl c
    have e4 : (zd_bx (X, Q)).2.1 c = (X 4 c).toInt.toNat := if_pos (by omega)
    rw [z, e4]
    exact (zd_of r4.1).symm
theorem zZ_goes (hG : zt_Gs zo_g1 (X, Q)) (hF : zdF (X, Q)) (hq : zqC 1 0 X I) (hM : zt_Gs zo_g22 (I, J)) (hP : zq_P (I, J)) (a0 : Int32) {x y : Int32} {N1 N2 : zm_I} (h1 : zF_X9_goes zW_X [.ref 0, .int a0] (X, Q) = some (some (.int x), N1)) (h2 : zF_X10_goes zW_M [.ref 0, .int a0] (I, J) = some (some (.int y), N2)) : x = y := by
  have q1 : X 1 0 = I 6 0 := hq.1.1
  have h1 := (zf_X9_goes_X X Q a0).symm.trans h1
  have h2 := (zf_X10_goes_M I J a0).symm.trans h2
  rw [zc_X9_goes_X_0 _ _ _ zV_hbX, zq_X9_goes_X_4] at h1
  rw [zc_X10_goes_M_0 _ _ _ (zZ_time a0), zq_X10_goes_M_10, show zm_w I 0 0 0 6 0 = I 6 0 from ze_wo (by decide), ← q1] at h2
  by_cases c1 : (X 1 0).toInt ≤ 0
  · rw [if_pos c1, if_pos rfl, zq_X9_goes_X_14] at h1
    rw [if_neg (show ¬ (0 < (X 1 0).toInt ∧ 0 ≤ a0.toInt ∧ a0.toInt ≤ 60) by omega), if_pos rfl, zq_X10_goes_M_13] at h2
    cases h1
    cases h2
    rfl
  rw [if_neg c1, if_neg (by decide), zc_X9_goes_X_7 _ _ _ (zV_miX a0), zq_X9_goes_X_11] at h1
  by_cases c2 : 0 ≤ a0.toInt ∧ a0.toInt ≤ 60
  rotate_left
  · rw [if_neg c2, if_pos rfl, zq_X9_goes_X_14] at h1
    rw [if_neg (show ¬ (0 < (X 1 0).toInt ∧ 0 ≤ a0.toInt ∧ a0.toInt ≤ 60) by omega), if_pos rfl, zq_X10_goes_M_13] at h2
    cases h1
    cases h2
    rfl
  obtain ⟨C, N, N', K', hC, e6, d1, d2, d3, d4, d5, d6, d7, d8, d9⟩ := zZ_days hG hF hq hM hP (Or.inl (by omega))
  rw [if_pos c2, if_neg (by decide), zc_X9_goes_X_17 _ _ _ d1, zq_X9_goes_X_21] at h1
  rw [if_pos (show 0 < (X 1 0).toInt ∧ 0 ≤ a0.toInt ∧ a0.toInt ≤ 60 by omega), if_neg (by decide), zc_X10_goes_M_16 _ _ _ d2, zq_X10_goes_M_20] at h2
  obtain ⟨r, r1, r2⟩ := zZ_goL (l := a0) (K' := K') hC d3 d4 d6 C 0 (by omega)
  have h1 := r1.symm.trans h1
  have h2 := r2.symm.trans h2
  cases h1
  cases h2
  rfl
theorem zZ_laL {N : zm_I} {N' : Nat → Nat → Int32} {K' : Nat → Nat → Int64} {C : Nat} (hC : C ≤ 5) (e1 : N.1 1 6 = Int32.ofNat C) (e2 : N' 7 5 = Int32.ofNat C) (ew : ∀ c, c < 5 → N.1 27 c = N' 18 c) : ∀ d k (l : Int32), k + d = C → ∃ r, zv_X9_last_X_22 N.1 N.2 l (Int32.ofNat k) = some (some (.int r), N) ∧ zv_X10_last_M_23 N' K' l (Int32.ofNat k) = some (some (.int r), (N', K'))
  | 0, k, l, h => ⟨l, by rw [zq_X9_last_X_22, e1, if_pos ((zp_le (by omega) (by omega)).mpr (by omega)), zq_X9_last_X_50], by rw [zc_X10_last_M_23 _ _ _ _ zdm_callers, zq_X10_last_M_28, e2, if_pos ((zp_le (by omega) (by omega)).mpr (by omega)), zq_X10_last_M_58]⟩
  | d + 1, k, l, h => by
    have n1 : ¬ (Int32.ofNat C : Int32) ≤ Int32.ofNat k := fun z => by
      have := (zp_le (by omega) (by omega)).mp z
      omega
    have f1 : zv_X9_last_X_22 N.1 N.2 l (Int32.ofNat k) = zv_X9_last_X_22 N.1 N.2 (if l < N' 18 k then N' 18 k else l) (Int32.ofNat (k + 1)) := by
      rw [zq_X9_last_X_22, e1, if_neg n1, zq_X9_last_X_33, if_neg (zp_in (by omega) (by omega)), zp_cl (by omega), ew k (by omega), zp_o1 (by omega)]
    have f2 : zv_X10_last_M_23 N' K' l (Int32.ofNat k) = zv_X10_last_M_23 N' K' (if l < N' 18 k then N' 18 k else l) (Int32.ofNat (k + 1)) := by
      rw [zc_X10_last_M_23 _ _ _ _ zdm_callers, zq_X10_last_M_28, e2, if_neg n1, zq_X10_last_M_31, if_neg (zp_in (by omega) (by omega)), zp_cl (by omega)]
      by_cases c : l < N' 18 k
      · rw [if_neg (show ¬ N' 18 k ≤ l by rw [ze_le]; rw [ze_lt] at c; omega), zq_X10_last_M_41, if_neg (zp_in (by omega) (by omega)), zp_cl (by omega), zq_X10_last_M_51, if_pos c, zp_o1 (by omega)]
      · rw [if_pos (show N' 18 k ≤ l by rw [ze_le]; rw [ze_lt] at c; omega), zq_X10_last_M_50, zq_X10_last_M_51, if_neg c, zp_o1 (by omega)]
    obtain ⟨r, r1, r2⟩ := zZ_laL (K' := K') hC e1 e2 ew d (k + 1) (if l < N' 18 k then N' 18 k else l) (by omega)
    exact ⟨r, f1.trans r1, f2.trans r2⟩
theorem zZ_last (hG : zt_Gs zo_g1 (X, Q)) (hF : zdF (X, Q)) (hq : zqC 1 0 X I) (hM : zt_Gs zo_g22 (I, J)) (hP : zq_P (I, J)) {x y : Int32} {N1 N2 : zm_I} (h1 : zF_X9_last zW_X [.ref 0] (X, Q) = some (some (.int x), N1)) (h2 : zF_X10_last zW_M [.ref 0] (I, J) = some (some (.int y), N2)) : x = y := by
  have q1 : X 1 0 = I 6 0 := hq.1.1
  have h1 := (zf_X9_last_X X Q).symm.trans h1
  have h2 := (zf_X10_last_M I J).symm.trans h2
  rw [zc_X9_last_X_0 _ _ zV_hbX, zq_X9_last_X_4] at h1
  rw [zc_X10_last_M_0 _ _ zV_ibM, zq_X10_last_M_9, show zm_w I 0 0 0 6 0 = I 6 0 from ze_wo (by decide), ← q1] at h2
  by_cases c1 : (X 1 0).toInt ≤ 0
  · rw [if_pos c1, if_pos rfl, zq_X9_last_X_7] at h1
    rw [if_pos c1, if_pos rfl, zq_X10_last_M_12] at h2
    cases h1
    cases h2
    rfl
  obtain ⟨C, N, N', K', hC, e6, d1, d2, d3, d4, d5, d6, d7, d8, d9⟩ := zZ_days hG hF hq hM hP (Or.inl (by omega))
  rw [if_neg c1, if_neg (by decide), zc_X9_last_X_10 _ _ d1, zq_X9_last_X_14] at h1
  rw [if_neg c1, if_neg (by decide), zc_X10_last_M_15 _ _ d2, zq_X10_last_M_19] at h2
  obtain ⟨r, r1, r2⟩ := zZ_laL (K' := K') hC d3 d4 d6 C 0 (-1) (by omega)
  have h1 := r1.symm.trans h1
  have h2 := r2.symm.trans h2
  cases h1
  cases h2
  rfl
end ZZ3
end
section
/-! THE DAY'S ANSWERS: opens, stands, free -/
section ZZ4
variable {X I : Nat → Nat → Int32} {Q J : Nat → Nat → Int64}
theorem zZ_id (M : zm_I) : zm_mrg [(21, 11)] M (zm_sub2 [(21, 11)] M) = M := zm_mrg_id _ _
theorem zZ_opC {N : zm_I} {N' : Nat → Nat → Int32} {K' : Nat → Nat → Int64} {C m : Nat} {s : Int32} (hC : C ≤ 5) (hm : m < 61) (e1 : N.1 1 6 = Int32.ofNat C) (e2 : N' 7 5 = Int32.ofNat C) (ew : ∀ c, c < C → N.1 31 (5 * m + c) = N' 17 (61 * c + m)) : ∀ d k, k + d = C → (∃ r, zv_X9_opens_X_30 N.1 N.2 s (Int32.ofNat m) (Int32.ofNat k) = some (some (.int r), N) ∧ zv_X10_opens_M_31 N' K' s (Int32.ofNat m) (Int32.ofNat k) = some (some (.int r), (N', K'))) ∨ (zv_X9_opens_X_30 N.1 N.2 s (Int32.ofNat m) (Int32.ofNat k) = zv_X9_opens_X_21 N.1 N.2 s (Int32.ofNat (m + 1)) (some (.int (Int32.ofNat C))) ∧ zv_X10_opens_M_31 N' K' s (Int32.ofNat m) (Int32.ofNat k) = zv_X10_opens_M_23 N' K' s (Int32.ofNat (m + 1)) (some (.int (Int32.ofNat C))))
  | 0, k, h => by
    have hk : k = C := by omega
    subst hk
    exact Or.inr ⟨by rw [zq_X9_opens_X_30, e1, if_pos ((zp_le (by omega) (by omega)).mpr (by omega)), zq_X9_opens_X_62, zp_o1 (by omega)], by rw [zc_X10_opens_M_31 _ _ _ _ _ zdm_callers, zq_X10_opens_M_36, e2, if_pos ((zp_le (by omega) (by omega)).mpr (by omega)), zq_X10_opens_M_62, zp_o1 (by omega)]⟩
  | d + 1, k, h => by
    have n1 : ¬ (Int32.ofNat C : Int32) ≤ Int32.ofNat k := fun z => by
      have := (zp_le (by omega) (by omega)).mp z
      omega
    have f1 : zv_X9_opens_X_30 N.1 N.2 s (Int32.ofNat m) (Int32.ofNat k) = if N' 17 (61 * k + m) = s then zv_X9_opens_X_53 N.1 N.2 s (Int32.ofNat m) (Int32.ofNat k) else zv_X9_opens_X_56 N.1 N.2 s (Int32.ofNat m) (Int32.ofNat k) := by
      rw [zq_X9_opens_X_30, e1, if_neg n1, zc_X9_opens_X_42 _ _ _ _ _ (zZ_at (M := (N.1, N.2)) hm (by omega)), zZ_id, zq_X9_opens_X_49]
      rw [show ((N.1, N.2) : zm_I).1 31 (5 * m + k) = N' 17 (61 * k + m) from ew k (by omega)]
    have f2 : zv_X10_opens_M_31 N' K' s (Int32.ofNat m) (Int32.ofNat k) = if N' 17 (61 * k + m) = s then zv_X10_opens_M_54 N' K' s (Int32.ofNat m) (Int32.ofNat k) else zv_X10_opens_M_56 N' K' s (Int32.ofNat m) (Int32.ofNat k) := by
      rw [zc_X10_opens_M_31 _ _ _ _ _ zdm_callers, zq_X10_opens_M_36, e2, if_neg n1, zq_X10_opens_M_39, zZ_x61 m hm k (by omega), if_neg (zp_in (by omega) (by omega)), zp_cl (by omega)]
    by_cases c : N' 17 (61 * k + m) = s
    · exact Or.inl ⟨Int32.ofNat k, by rw [f1, if_pos c, zq_X9_opens_X_53], by rw [f2, if_pos c, zq_X10_opens_M_54]⟩
    · have g1 : zv_X9_opens_X_30 N.1 N.2 s (Int32.ofNat m) (Int32.ofNat k) = zv_X9_opens_X_30 N.1 N.2 s (Int32.ofNat m) (Int32.ofNat (k + 1)) := by rw [f1, if_neg c, zq_X9_opens_X_56, zp_o1 (by omega)]
      have g2 : zv_X10_opens_M_31 N' K' s (Int32.ofNat m) (Int32.ofNat k) = zv_X10_opens_M_31 N' K' s (Int32.ofNat m) (Int32.ofNat (k + 1)) := by rw [f2, if_neg c, zq_X10_opens_M_56, zp_o1 (by omega)]
      rw [g1, g2]
      exact zZ_opC hC hm e1 e2 ew d (k + 1) (by omega)
theorem zZ_opM {N : zm_I} {N' : Nat → Nat → Int32} {K' : Nat → Nat → Int64} {C : Nat} {s : Int32} (hC : C ≤ 5) (e1 : N.1 1 6 = Int32.ofNat C) (e2 : N' 7 5 = Int32.ofNat C) (ew : ∀ m c, m < 61 → c < C → N.1 31 (5 * m + c) = N' 17 (61 * c + m)) : ∀ d m (l l' : Option Value), m + d = 61 → ∃ r, zv_X9_opens_X_21 N.1 N.2 s (Int32.ofNat m) l = some (some (.int r), N) ∧ zv_X10_opens_M_23 N' K' s (Int32.ofNat m) l' = some (some (.int r), (N', K'))
  | 0, m, l, l', h => by
    have hm : m = 61 := by omega
    subst hm
    exact ⟨-1, by rw [zq_X9_opens_X_21, if_pos (show (61 : Int32) ≤ Int32.ofNat 61 by decide), zq_X9_opens_X_68], by rw [zq_X10_opens_M_23, if_pos (show (60 : Int32) < Int32.ofNat 61 by decide), zq_X10_opens_M_68]⟩
  | d + 1, m, l, l', h => by
    have n1 : ¬ (61 : Int32) ≤ Int32.ofNat m := fun z => by
      rw [ze_le, zp_o (by omega), show (61 : Int32).toInt = 61 by decide] at z
      omega
    have n2 : ¬ (60 : Int32) < Int32.ofNat m := fun z => by
      rw [ze_lt, zp_o (by omega), ze_i60] at z
      omega
    have f1 : zv_X9_opens_X_21 N.1 N.2 s (Int32.ofNat m) l = zv_X9_opens_X_30 N.1 N.2 s (Int32.ofNat m) (Int32.ofNat 0) := by rw [zq_X9_opens_X_21, if_neg n1, zq_X9_opens_X_27]; rfl
    have f2 : zv_X10_opens_M_23 N' K' s (Int32.ofNat m) l' = zv_X10_opens_M_31 N' K' s (Int32.ofNat m) (Int32.ofNat 0) := by rw [zq_X10_opens_M_23, if_neg n2, zq_X10_opens_M_29]; rfl
    rw [f1, f2]
    rcases zZ_opC (K' := K') (s := s) hC (show m < 61 by omega) e1 e2 (fun c hc => ew m c (by omega) hc) C 0 (by omega) with ⟨r, r1, r2⟩ | ⟨r1, r2⟩
    · exact ⟨r, r1, r2⟩
    · rw [r1, r2]
      exact zZ_opM hC e1 e2 ew d (m + 1) _ _ (by omega)
theorem zZ_opens (hG : zt_Gs zo_g1 (X, Q)) (hF : zdF (X, Q)) (hq : zqC 1 0 X I) (hM : zt_Gs zo_g22 (I, J)) (hP : zq_P (I, J)) (a0 : Int32) {x y : Int32} {N1 N2 : zm_I} (h1 : zF_X9_opens zW_X [.ref 0, .int a0] (X, Q) = some (some (.int x), N1)) (h2 : zF_X10_opens zW_M [.ref 0, .int a0] (I, J) = some (some (.int y), N2)) : x = y := by
  have id1 : zm_mrg [(1, 10)] (X, Q) (zm_sub2 [(1, 10)] (X, Q)) = (X, Q) := zm_mrg_id _ _
  have hs := zp_hasSeat (zm_sub2 [(1, 10)] (X, Q)) a0
  rw [show (zm_sub2 [(1, 10)] (X, Q)).1 0 5 = X 1 5 from rfl] at hs
  have q2 : X 1 5 = I 7 4 := hq.1.2.1
  have g5 : (0 : Int) ≤ (X 1 5).toInt ∧ (X 1 5).toInt ≤ 6 := hG 1 _ rfl 5 _ rfl
  have h1 := (zf_X9_opens_X X Q a0).symm.trans h1
  have h2 := (zf_X10_opens_M I J a0).symm.trans h2
  rw [zc_X9_opens_X_0 _ _ _ hs, id1, zq_X9_opens_X_8] at h1
  rw [zc_X10_opens_M_0 _ _ _ (zp_isSeatM a0 (by rw [show zm_w I 0 0 0 7 4 = I 7 4 from ze_wo (by decide), ← q2]; exact g5.1)), zq_X10_opens_M_11, show zm_w I 0 0 0 7 4 = I 7 4 from ze_wo (by decide), ← q2] at h2
  by_cases c1 : 0 ≤ a0.toInt ∧ a0.toInt < (X 1 5).toInt
  rotate_left
  · rw [if_neg c1, if_pos rfl, zq_X9_opens_X_11] at h1
    rw [if_neg c1, if_pos rfl, zq_X10_opens_M_14] at h2
    cases h1
    cases h2
    rfl
  obtain ⟨C, N, N', K', hC, e6, d1, d2, d3, d4, d5, d6, d7, d8, d9⟩ := zZ_days hG hF hq hM hP (Or.inr (Or.inl (by omega)))
  rw [if_pos c1, if_neg (by decide), zc_X9_opens_X_14 _ _ _ d1, zq_X9_opens_X_18] at h1
  rw [if_pos c1, if_neg (by decide), zc_X10_opens_M_17 _ _ _ d2, zq_X10_opens_M_21] at h2
  obtain ⟨r, r1, r2⟩ := zZ_opM (K' := K') (s := a0) hC d3 d4 (fun m c hm hc => (d7 m c hm hc).1) 61 0 none none (by omega)
  have h1 := r1.symm.trans h1
  have h2 := r2.symm.trans h2
  cases h1
  cases h2
  rfl
end ZZ4
end
section
/-! THE DAY'S ANSWERS: stands, free -/
section ZZ5
variable {X I : Nat → Nat → Int32} {Q J : Nat → Nat → Int64}
theorem zZ_or0 (x : Int32) : x ||| 0 = x := Int32.or_zero
theorem zZ_and (x : Int32) : x &&& x = x := Int32.and_self
theorem zZ_th {M : zm_I} {m c : Nat} (hm : m < 61) (hc : c < 5) : zF_X3_isThere zW_Y [.ref 0, .int (Int32.ofNat c), .int (Int32.ofNat m)] (zm_sub2 [(21, 11)] M) = some (some (.int (if M.1 30 (5 * m + c) = -1 then 0 else 1)), zm_sub2 [(21, 11)] M) := by
  have e : zF_X3_isThere zW_Y [.ref 0, .int (Int32.ofNat c), .int (Int32.ofNat m)] (zm_sub2 [(21, 11)] M) = zv_X3_isThere_Y_0 (zm_sub2 [(21, 11)] M).1 (zm_sub2 [(21, 11)] M).2 (Int32.ofNat c) (Int32.ofNat m) := zf_X3_isThere_Y _ _ _ _
  have a : zF_X3_ageAt zW_Y [.ref 0, .int (Int32.ofNat c), .int (Int32.ofNat m)] ((zm_sub2 [(21, 11)] M).1, (zm_sub2 [(21, 11)] M).2) = some (some (.int (M.1 30 (5 * m + c))), ((zm_sub2 [(21, 11)] M).1, (zm_sub2 [(21, 11)] M).2)) := by
    rw [zf_X3_ageAt_Y, zq_X3_ageAt_Y_0, zZ_x5 m hm c hc, if_neg (zp_in (by omega) (by omega)), zp_cl (by omega)]
    rfl
  rw [e, zc_X3_isThere_Y_0 _ _ _ _ a, zq_X3_isThere_Y_6]
  by_cases d : M.1 30 (5 * m + c) = -1
  · rw [if_pos d, if_pos d, zq_X3_isThere_Y_14, zq_X3_isThere_Y_15, if_pos (Or.inl rfl)]
  · rw [if_neg d, if_neg d, zq_X3_isThere_Y_10, zq_X3_isThere_Y_15, if_pos (Or.inr rfl)]
theorem zZ_stL {N : zm_I} {N' : Nat → Nat → Int32} {K' : Nat → Nat → Int64} {C m : Nat} (hC : C ≤ 5) (hm : m < 61) (e1 : N.1 1 6 = Int32.ofNat C) (e2 : N' 7 5 = Int32.ofNat C) (ew : ∀ c, c < C → N.1 31 (5 * m + c) = N' 17 (61 * c + m) ∧ (N.1 30 (5 * m + c) = -1 ↔ N' 16 (61 * c + m) = -1)) : ∀ d k (b : Int32), k + d = C → ∃ r, zv_X9_stands_X_27 N.1 N.2 (Int32.ofNat m) b (Int32.ofNat k) = some (some (.int r), N) ∧ zv_X10_stands_M_24 N' K' (Int32.ofNat m) b (Int32.ofNat k) = some (some (.int r), (N', K'))
  | 0, k, b, h => ⟨b, by rw [zq_X9_stands_X_27, e1, if_pos ((zp_le (by omega) (by omega)).mpr (by omega)), zq_X9_stands_X_73], by rw [zc_X10_stands_M_24 _ _ _ _ _ zdm_callers, zq_X10_stands_M_29, e2, if_pos ((zp_le (by omega) (by omega)).mpr (by omega)), zq_X10_stands_M_78]⟩
  | d + 1, k, b, h => by
    have n1 : ¬ (Int32.ofNat C : Int32) ≤ Int32.ofNat k := fun z => by
      have := (zp_le (by omega) (by omega)).mp z
      omega
    obtain ⟨w1, w2⟩ := ew k (by omega)
    have f0 : zv_X9_stands_X_27 N.1 N.2 (Int32.ofNat m) b (Int32.ofNat k) = if (if N.1 30 (5 * m + k) = -1 then (0 : Int32) else 1) = 0 then zv_X9_stands_X_67 N.1 N.2 (Int32.ofNat m) b (Int32.ofNat k) else zv_X9_stands_X_49 N.1 N.2 (Int32.ofNat m) b (Int32.ofNat k) := by
      rw [zq_X9_stands_X_27, e1, if_neg n1, zc_X9_stands_X_39 _ _ _ _ _ (zZ_th (M := (N.1, N.2)) hm (by omega)), zZ_id, zq_X9_stands_X_46]
    have g0 : zv_X10_stands_M_24 N' K' (Int32.ofNat m) b (Int32.ofNat k) = if N' 16 (61 * k + m) = -1 then zv_X10_stands_M_69 N' K' (Int32.ofNat m) b (Int32.ofNat k) b else zv_X10_stands_M_48 N' K' (Int32.ofNat m) b (Int32.ofNat k) b := by
      rw [zc_X10_stands_M_24 _ _ _ _ _ zdm_callers, zq_X10_stands_M_29, e2, if_neg n1, zq_X10_stands_M_32, zZ_x61 m hm k (by omega), if_neg (zp_in (by omega) (by omega)), zp_cl (by omega)]
    have f9 : ∀ b, zv_X9_stands_X_67 N.1 N.2 (Int32.ofNat m) b (Int32.ofNat k) = zv_X9_stands_X_27 N.1 N.2 (Int32.ofNat m) b (Int32.ofNat (k + 1)) := fun b => by rw [zq_X9_stands_X_67, zp_o1 (by omega)]
    have g9 : zv_X10_stands_M_69 N' K' (Int32.ofNat m) b (Int32.ofNat k) b = zv_X10_stands_M_24 N' K' (Int32.ofNat m) b (Int32.ofNat (k + 1)) := by rw [zq_X10_stands_M_69, zq_X10_stands_M_70, zZ_or0, zp_o1 (by omega)]
    by_cases c : N' 16 (61 * k + m) = -1
    · rw [f0, if_pos (w2.mpr c), if_pos rfl, f9, g0, if_pos c, g9]
      exact zZ_stL hC hm e1 e2 ew d (k + 1) b (by omega)
    · rw [f0, if_neg (fun z => c (w2.mp z)), if_neg (by decide), zc_X9_stands_X_49 _ _ _ _ _ (zZ_at (M := (N.1, N.2)) hm (by omega)), zZ_id, zq_X9_stands_X_56, g0, if_neg c, zq_X10_stands_M_48, zZ_x61 m hm k (by omega), if_neg (zp_in (by omega) (by omega)), zp_cl (by omega)]
      rw [show ((N.1, N.2) : zm_I).1 31 (5 * m + k) = N' 17 (61 * k + m) from w1]
      by_cases q : N' 17 (61 * k + m) = -1
      · rw [if_pos q, if_pos q, zq_X9_stands_X_60, f9, zq_X10_stands_M_63, zq_X10_stands_M_70, zp_o1 (by omega)]
        exact zZ_stL hC hm e1 e2 ew d (k + 1) _ (by omega)
      · rw [if_neg q, if_neg q, f9, g9]
        exact zZ_stL hC hm e1 e2 ew d (k + 1) b (by omega)
theorem zZ_stands (hG : zt_Gs zo_g1 (X, Q)) (hF : zdF (X, Q)) (hq : zqC 1 0 X I) (hM : zt_Gs zo_g22 (I, J)) (hP : zq_P (I, J)) (a0 : Int32) {x y : Int32} {N1 N2 : zm_I} (h1 : zF_X9_stands zW_X [.ref 0, .int a0] (X, Q) = some (some (.int x), N1)) (h2 : zF_X10_stands zW_M [.ref 0, .int a0] (I, J) = some (some (.int y), N2)) : x = y := by
  have q1 : X 1 0 = I 6 0 := hq.1.1
  have h1 := (zf_X9_stands_X X Q a0).symm.trans h1
  have h2 := (zf_X10_stands_M I J a0).symm.trans h2
  rw [zc_X9_stands_X_0 _ _ _ zV_hbX, zq_X9_stands_X_4] at h1
  rw [zc_X10_stands_M_0 _ _ _ (zZ_time a0), zq_X10_stands_M_10, show zm_w I 0 0 0 6 0 = I 6 0 from ze_wo (by decide), ← q1] at h2
  by_cases c1 : (X 1 0).toInt ≤ 0
  · rw [if_pos c1, if_pos rfl, zq_X9_stands_X_14] at h1
    rw [if_neg (show ¬ (0 < (X 1 0).toInt ∧ 0 ≤ a0.toInt ∧ a0.toInt ≤ 60) by omega), if_pos rfl, zq_X10_stands_M_13] at h2
    cases h1
    cases h2
    rfl
  rw [if_neg c1, if_neg (by decide), zc_X9_stands_X_7 _ _ _ (zV_miX a0), zq_X9_stands_X_11] at h1
  by_cases c2 : 0 ≤ a0.toInt ∧ a0.toInt ≤ 60
  rotate_left
  · rw [if_neg c2, if_pos rfl, zq_X9_stands_X_14] at h1
    rw [if_neg (show ¬ (0 < (X 1 0).toInt ∧ 0 ≤ a0.toInt ∧ a0.toInt ≤ 60) by omega), if_pos rfl, zq_X10_stands_M_13] at h2
    cases h1
    cases h2
    rfl
  obtain ⟨C, N, N', K', hC, e6, d1, d2, d3, d4, d5, d6, d7, d8, d9⟩ := zZ_days hG hF hq hM hP (Or.inl (by omega))
  rw [if_pos c2, if_neg (by decide), zc_X9_stands_X_17 _ _ _ d1, zq_X9_stands_X_21] at h1
  rw [if_pos (show 0 < (X 1 0).toInt ∧ 0 ≤ a0.toInt ∧ a0.toInt ≤ 60 by omega), if_neg (by decide), zc_X10_stands_M_16 _ _ _ d2, zq_X10_stands_M_20] at h2
  obtain ⟨m, hmm⟩ : ∃ m : Nat, a0.toInt = m := ⟨a0.toInt.toNat, by omega⟩
  have e0 : a0 = Int32.ofNat m := Int32.toInt_inj.mp (by rw [hmm, zp_o (by omega)])
  subst e0
  obtain ⟨r, r1, r2⟩ := zZ_stL (K' := K') hC (show m < 61 by omega) d3 d4 (fun c hc => d7 m c (by omega) hc) C 0 0 (by omega)
  have h1 := r1.symm.trans h1
  have h2 := r2.symm.trans h2
  cases h1
  cases h2
  rfl
theorem zZ_frL {N : zm_I} {N' : Nat → Nat → Int32} {K' : Nat → Nat → Int64} {C m : Nat} (hC : C ≤ 5) (hm : m < 61) (e1 : N.1 1 6 = Int32.ofNat C) (e2 : N' 7 5 = Int32.ofNat C) (ew : ∀ c, c < C → N.1 31 (5 * m + c) = N' 17 (61 * c + m)) : ∀ d k (b : Int32) (l : Option Value), k + d = C → ∃ r, zv_X9_free_X_37 N.1 N.2 (Int32.ofNat m) b (Int32.ofNat k) l = some (some (.int r), N) ∧ zv_X10_free_M_31 N' K' (Int32.ofNat m) b (Int32.ofNat k) = some (some (.int r), (N', K'))
  | 0, k, b, l, h => ⟨b, by rw [zq_X9_free_X_37, e1, if_pos ((zp_le (by omega) (by omega)).mpr (by omega)), zq_X9_free_X_79], by rw [zc_X10_free_M_31 _ _ _ _ _ zdm_callers, zq_X10_free_M_36, e2, if_pos ((zp_le (by omega) (by omega)).mpr (by omega)), zq_X10_free_M_82]⟩
  | d + 1, k, b, l, h => by
    have n1 : ¬ (Int32.ofNat C : Int32) ≤ Int32.ofNat k := fun z => by
      have := (zp_le (by omega) (by omega)).mp z
      omega
    have w1 := ew k (by omega)
    have f0 : zv_X9_free_X_37 N.1 N.2 (Int32.ofNat m) b (Int32.ofNat k) l = if N' 17 (61 * k + m) = -1 then zv_X9_free_X_73 N.1 N.2 (Int32.ofNat m) b (Int32.ofNat k) (N' 17 (61 * k + m)) else zv_X9_free_X_64 N.1 N.2 (Int32.ofNat m) b (Int32.ofNat k) (N' 17 (61 * k + m)) := by
      rw [zq_X9_free_X_37, e1, if_neg n1, zc_X9_free_X_49 _ _ _ _ _ _ (zZ_at (M := (N.1, N.2)) hm (by omega)), zZ_id, zq_X9_free_X_56]
      rw [show ((N.1, N.2) : zm_I).1 31 (5 * m + k) = N' 17 (61 * k + m) from w1]
    have g0 : zv_X10_free_M_31 N' K' (Int32.ofNat m) b (Int32.ofNat k) = if N' 17 (61 * k + m) = -1 then zv_X10_free_M_55 N' K' (Int32.ofNat m) b (Int32.ofNat k) b else zv_X10_free_M_59 N' K' (Int32.ofNat m) b (Int32.ofNat k) b := by
      rw [zc_X10_free_M_31 _ _ _ _ _ zdm_callers, zq_X10_free_M_36, e2, if_neg n1, zq_X10_free_M_39, zZ_x61 m hm k (by omega), if_neg (zp_in (by omega) (by omega)), zp_cl (by omega)]
    by_cases q : N' 17 (61 * k + m) = -1
    · rw [f0, if_pos q, zq_X9_free_X_73, zp_o1 (by omega), g0, if_pos q, zq_X10_free_M_55, zq_X10_free_M_74, zZ_and, zp_o1 (by omega)]
      exact zZ_frL hC hm e1 e2 ew d (k + 1) b _ (by omega)
    · rw [f0, if_neg q, zq_X9_free_X_64, zq_X9_free_X_73, zp_o1 (by omega), g0, if_neg q, zq_X10_free_M_59, zZ_x61 m hm k (by omega), if_neg (zp_in (by omega) (by omega)), zp_cl (by omega), zq_X10_free_M_74, zp_o1 (by omega)]
      exact zZ_frL hC hm e1 e2 ew d (k + 1) _ _ (by omega)
theorem zZ_free (hG : zt_Gs zo_g1 (X, Q)) (hF : zdF (X, Q)) (hq : zqC 1 0 X I) (hM : zt_Gs zo_g22 (I, J)) (hP : zq_P (I, J)) (a0 : Int32) {x y : Int32} {N1 N2 : zm_I} (h1 : zF_X9_free zW_X [.ref 0, .int a0] (X, Q) = some (some (.int x), N1)) (h2 : zF_X10_free zW_M [.ref 0, .int a0] (I, J) = some (some (.int y), N2)) : x = y := by
  have q1 : X 1 0 = I 6 0 := hq.1.1
  have q2 : X 1 5 = I 7 4 := hq.1.2.1
  have h1 := (zf_X9_free_X X Q a0).symm.trans h1
  have h2 := (zf_X10_free_M I J a0).symm.trans h2
  rw [zc_X9_free_X_0 _ _ _ zV_hbX, zq_X9_free_X_4] at h1
  rw [zc_X10_free_M_0 _ _ _ (zZ_time a0), zq_X10_free_M_10, show zm_w I 0 0 0 6 0 = I 6 0 from ze_wo (by decide), ← q1] at h2
  by_cases c1 : (X 1 0).toInt ≤ 0
  · rw [if_pos c1, if_pos rfl, zq_X9_free_X_14] at h1
    rw [if_neg (show ¬ (0 < (X 1 0).toInt ∧ 0 ≤ a0.toInt ∧ a0.toInt ≤ 60) by omega), if_pos rfl, zq_X10_free_M_13] at h2
    cases h1
    cases h2
    rfl
  rw [if_neg c1, if_neg (by decide), zc_X9_free_X_7 _ _ _ (zV_miX a0), zq_X9_free_X_11] at h1
  by_cases c2 : 0 ≤ a0.toInt ∧ a0.toInt ≤ 60
  rotate_left
  · rw [if_neg c2, if_pos rfl, zq_X9_free_X_14] at h1
    rw [if_neg (show ¬ (0 < (X 1 0).toInt ∧ 0 ≤ a0.toInt ∧ a0.toInt ≤ 60) by omega), if_pos rfl, zq_X10_free_M_13] at h2
    cases h1
    cases h2
    rfl
  obtain ⟨C, N, N', K', hC, e6, d1, d2, d3, d4, d5, d6, d7, d8, d9⟩ := zZ_days hG hF hq hM hP (Or.inl (by omega))
  have hs : zF_X10_seats zW_M [.ref 0] (N', K') = some (some (.int (X 1 5)), (N', K')) := by
    rw [zf_X10_seats_M, zq_X10_seats_M_0, if_neg (by decide), show Int32.toNatClampNeg 4 = 4 by decide, d9 7 4 (by decide), q2]
  rw [if_pos c2, if_neg (by decide), zc_X9_free_X_17 _ _ _ d1, zq_X9_free_X_21, d5 1 5 (by decide)] at h1
  rw [if_pos (show 0 < (X 1 0).toInt ∧ 0 ≤ a0.toInt ∧ a0.toInt ≤ 60 by omega), if_neg (by decide), zc_X10_free_M_16 _ _ _ d2, zc_X10_free_M_20 _ _ _ hs, zq_X10_free_M_25] at h2
  obtain ⟨m, hmm⟩ : ∃ m : Nat, a0.toInt = m := ⟨a0.toInt.toNat, by omega⟩
  have e0 : a0 = Int32.ofNat m := Int32.toInt_inj.mp (by rw [hmm, zp_o (by omega)])
  subst e0
  obtain ⟨r, r1, r2⟩ := zZ_frL (K' := K') hC (show m < 61 by omega) d3 d4 (fun c hc => (d7 m c (by omega) hc).1) C 0 ((1 <<< (X 1 5 &&& 31)) - 1) none (by omega)
  have h1 := r1.symm.trans h1
  have h2 := r2.symm.trans h2
  cases h1
  cases h2
  rfl
end ZZ5
end
section
/-! THE DAY'S ANSWERS: worn -/
section ZZ6
variable {X I : Nat → Nat → Int32} {Q J : Nat → Nat → Int64}
theorem zZ_woL {N : zm_I} {N' : Nat → Nat → Int32} {K' : Nat → Nat → Int64} {c : Nat} {s : Int32} (hc : c < 5) (ew : ∀ m, m < 61 → N.1 31 (5 * m + c) = N' 17 (61 * c + m)) : ∀ d m (b : Int32), m + d = 61 → ∃ r, zv_X3_minutesOn_Y_5 (zm_sub2 [(21, 11)] N).1 (zm_sub2 [(21, 11)] N).2 (Int32.ofNat c) s b (Int32.ofNat m) = some (some (.int r), zm_sub2 [(21, 11)] N) ∧ zv_X10_worn_M_35 N' K' (Int32.ofNat c) s b (Int32.ofNat m) = some (some (.int r), (N', K'))
  | 0, m, b, h => by
    have hm : m = 61 := by omega
    subst hm
    exact ⟨b, by rw [zq_X3_minutesOn_Y_5, if_pos (show (61 : Int32) ≤ Int32.ofNat 61 by decide), zq_X3_minutesOn_Y_32], by rw [zq_X10_worn_M_35, if_pos (show (60 : Int32) < Int32.ofNat 61 by decide), zq_X10_worn_M_72]⟩
  | d + 1, m, b, h => by
    have hm : m < 61 := by omega
    have n1 : ¬ (61 : Int32) ≤ Int32.ofNat m := fun z => by
      rw [ze_le, zp_o (by omega), show (61 : Int32).toInt = 61 by decide] at z
      omega
    have n2 : ¬ (60 : Int32) < Int32.ofNat m := fun z => by
      rw [ze_lt, zp_o (by omega), ze_i60] at z
      omega
    have a : zF_X3_seatAt zW_Y [.ref 0, .int (Int32.ofNat c), .int (Int32.ofNat m)] ((zm_sub2 [(21, 11)] N).1, (zm_sub2 [(21, 11)] N).2) = some (some (.int (N' 17 (61 * c + m))), ((zm_sub2 [(21, 11)] N).1, (zm_sub2 [(21, 11)] N).2)) := by
      have z := zZ_at (M := N) hm hc
      rw [ew m hm] at z
      exact z
    have g0 : zv_X10_worn_M_35 N' K' (Int32.ofNat c) s b (Int32.ofNat m) = if N' 17 (61 * c + m) = s then zv_X10_worn_M_59 N' K' (Int32.ofNat c) s b (Int32.ofNat m) b else zv_X10_worn_M_63 N' K' (Int32.ofNat c) s b (Int32.ofNat m) b := by
      rw [zq_X10_worn_M_35, if_neg n2, zq_X10_worn_M_42, zZ_x61 m hm c hc, if_neg (zp_in (by omega) (by omega)), zp_cl (by omega)]
    rw [zq_X3_minutesOn_Y_5, if_neg n1, zc_X3_minutesOn_Y_12 _ _ _ _ _ _ a, zq_X3_minutesOn_Y_19, g0]
    by_cases q : N' 17 (61 * c + m) = s
    · rw [if_pos q, if_pos q, zq_X3_minutesOn_Y_23, zq_X3_minutesOn_Y_26, zp_o1 (by omega), zq_X10_worn_M_59, zq_X10_worn_M_64, zp_o1 (by omega)]
      exact zZ_woL hc ew d (m + 1) (b + 1) (by omega)
    · rw [if_neg q, if_neg q, zq_X3_minutesOn_Y_26, zp_o1 (by omega), zq_X10_worn_M_63, zq_X10_worn_M_64, zp_o1 (by omega), show b + 0 = b from Int32.add_zero b]
      exact zZ_woL hc ew d (m + 1) b (by omega)
theorem zZ_worn (hG : zt_Gs zo_g1 (X, Q)) (hF : zdF (X, Q)) (hq : zqC 1 0 X I) (hM : zt_Gs zo_g22 (I, J)) (hP : zq_P (I, J)) (a0 a1 : Int32) {x y : Int32} {N1 N2 : zm_I} (h1 : zF_X9_worn zW_X [.ref 0, .int a0, .int a1] (X, Q) = some (some (.int x), N1)) (h2 : zF_X10_worn zW_M [.ref 0, .int a0, .int a1] (I, J) = some (some (.int y), N2)) : x = y := by
  have id1 : zm_mrg [(1, 10)] (X, Q) (zm_sub2 [(1, 10)] (X, Q)) = (X, Q) := zm_mrg_id _ _
  have hc := zp_hasCaller (zm_sub2 [(1, 10)] (X, Q)) a0
  rw [show (zm_sub2 [(1, 10)] (X, Q)).1 0 6 = X 1 6 from rfl] at hc
  have hs := zp_hasSeat (zm_sub2 [(1, 10)] (X, Q)) a1
  rw [show (zm_sub2 [(1, 10)] (X, Q)).1 0 5 = X 1 5 from rfl] at hs
  have q2 : X 1 5 = I 7 4 := hq.1.2.1
  have q3 : X 1 6 = I 7 5 := hq.1.2.2.1
  have g5 : (0 : Int) ≤ (X 1 5).toInt ∧ (X 1 5).toInt ≤ 6 := hG 1 _ rfl 5 _ rfl
  have g6 : (0 : Int) ≤ (X 1 6).toInt ∧ (X 1 6).toInt ≤ 5 := hG 1 _ rfl 6 _ rfl
  have w4 : zm_w I 0 0 0 7 4 = X 1 5 := (ze_wo (by decide)).trans q2.symm
  have h1 := (zf_X9_worn_X X Q a0 a1).symm.trans h1
  have h2 := (zf_X10_worn_M I J a0 a1).symm.trans h2
  rw [zc_X9_worn_X_0 _ _ _ _ hc, id1, zq_X9_worn_X_8] at h1
  rw [zc_X10_worn_M_0 _ _ _ _ (zp_isCallerM a0), zq_X10_worn_M_11, show zm_w I 0 0 0 7 5 = I 7 5 from ze_wo (by decide), ← q3] at h2
  by_cases c1 : 0 ≤ a0.toInt ∧ a0.toInt < (X 1 6).toInt
  rotate_left
  · rw [if_neg c1, if_pos rfl, zq_X9_worn_X_22] at h1
    rw [if_neg c1, if_pos rfl, zq_X10_worn_M_23] at h2
    cases h1
    cases h2
    rfl
  rw [if_pos c1, if_neg (by decide), zc_X9_worn_X_11 _ _ _ _ hs, id1, zq_X9_worn_X_19] at h1
  rw [if_pos c1, if_neg (by decide), zc_X10_worn_M_14 _ _ _ _ (zp_isSeatM a1 (by rw [w4]; exact g5.1)), zq_X10_worn_M_20, w4] at h2
  by_cases c2 : 0 ≤ a1.toInt ∧ a1.toInt < (X 1 5).toInt
  rotate_left
  · rw [if_neg c2, if_pos rfl, zq_X9_worn_X_22] at h1
    rw [if_neg c2, if_pos rfl, zq_X10_worn_M_23] at h2
    cases h1
    cases h2
    rfl
  obtain ⟨C, N, N', K', hC, e6, d1, d2, d3, d4, d5, d6, d7, d8, d9⟩ := zZ_days hG hF hq hM hP (Or.inr (Or.inl (by omega)))
  obtain ⟨c, hcc⟩ : ∃ c : Nat, a0.toInt = c := ⟨a0.toInt.toNat, by omega⟩
  have e0 : a0 = Int32.ofNat c := Int32.toInt_inj.mp (by rw [hcc, zp_o (by omega)])
  rw [e6, zp_o (by omega)] at c1
  rw [if_pos c2, if_neg (by decide), zc_X9_worn_X_25 _ _ _ _ d1] at h1
  rw [if_pos c2, if_neg (by decide), zc_X10_worn_M_26 _ _ _ _ d2, zq_X10_worn_M_30] at h2
  subst e0
  obtain ⟨r, r1, r2⟩ := zZ_woL (K' := K') (s := a1) (N := N) (N' := N') (show c < 5 by omega) (fun m hm => (d7 m c hm (by omega)).1) 61 0 0 (by omega)
  have hmin : zF_X3_minutesOn zW_Y [.ref 0, .int (Int32.ofNat c), .int a1] (zm_sub2 [(21, 11)] (N.1, N.2)) = some (some (.int r), zm_sub2 [(21, 11)] (N.1, N.2)) := (zf_X3_minutesOn_Y _ _ _ _).trans ((zq_X3_minutesOn_Y_0 _ _ _ _).trans r1)
  rw [zc_X9_worn_X_29 _ _ _ _ hmin, zq_X9_worn_X_34] at h1
  have h2 := r2.symm.trans h2
  cases h1
  cases h2
  rfl
end ZZ6
end
