/-! 59.zZk.eqW, 59.zZl.Z7, 59a.rel, 60.steps, 61.ops, 62.image, 64.walk, 65.start -/
section
/-! EQUATIONS OF STRETCHES, printed by program (wip/law/eqs/gen.py) -/
noncomputable def zv_X9_next_X_0 (I : Nat → Nat → Int32) (J : Nat → Nat → Int64) (l1 : Int32) : zm_R := zm_V zT_X9_next zW_X (0, [some (.ref 0), some (.int l1), none, none, none], [], (I, J))
noncomputable def zv_X9_next_X_4 (I : Nat → Nat → Int32) (J : Nat → Nat → Int64) (l1 : Int32) (s0 : Int32) : zm_R := zm_V zT_X9_next zW_X (4, [some (.ref 0), some (.int l1), none, none, none], [.int s0], (I, J))
noncomputable def zv_X9_next_X_7 (I : Nat → Nat → Int32) (J : Nat → Nat → Int64) (l1 : Int32) : zm_R := zm_V zT_X9_next zW_X (7, [some (.ref 0), some (.int l1), none, none, none], [], (I, J))
noncomputable def zv_X9_next_X_11 (I : Nat → Nat → Int32) (J : Nat → Nat → Int64) (l1 : Int32) (s0 : Int32) : zm_R := zm_V zT_X9_next zW_X (11, [some (.ref 0), some (.int l1), none, none, none], [.int s0], (I, J))
noncomputable def zv_X9_next_X_14 (I : Nat → Nat → Int32) (J : Nat → Nat → Int64) (l1 : Int32) : zm_R := zm_V zT_X9_next zW_X (14, [some (.ref 0), some (.int l1), none, none, none], [], (I, J))
noncomputable def zv_X9_next_X_17 (I : Nat → Nat → Int32) (J : Nat → Nat → Int64) (l1 : Int32) : zm_R := zm_V zT_X9_next zW_X (17, [some (.ref 0), some (.int l1), none, none, none], [], (I, J))
noncomputable def zv_X9_next_X_21 (I : Nat → Nat → Int32) (J : Nat → Nat → Int64) (l1 : Int32) : zm_R := zm_V zT_X9_next zW_X (21, [some (.ref 0), some (.int l1), none, none, none], [.ref 21], (I, J))
noncomputable def zv_X9_next_X_27 (I : Nat → Nat → Int32) (J : Nat → Nat → Int64) (l1 : Int32) (l3 : Int32) (l4 : Int32) : zm_R := zm_V zT_X9_next zW_X (27, [some (.ref 0), some (.int l1), some (.ref 21), some (.int l3), some (.int l4)], [], (I, J))
noncomputable def zv_X9_next_X_39 (I : Nat → Nat → Int32) (J : Nat → Nat → Int64) (l1 : Int32) (l3 : Int32) (l4 : Int32) : zm_R := zm_V zT_X9_next zW_X (39, [some (.ref 0), some (.int l1), some (.ref 21), some (.int l3), some (.int l4)], [], (I, J))
noncomputable def zv_X9_next_X_46 (I : Nat → Nat → Int32) (J : Nat → Nat → Int64) (l1 : Int32) (l3 : Int32) (l4 : Int32) (s0 : Int32) : zm_R := zm_V zT_X9_next zW_X (46, [some (.ref 0), some (.int l1), some (.ref 21), some (.int l3), some (.int l4)], [.int s0], (I, J))
noncomputable def zv_X9_next_X_49 (I : Nat → Nat → Int32) (J : Nat → Nat → Int64) (l1 : Int32) (l3 : Int32) (l4 : Int32) : zm_R := zm_V zT_X9_next zW_X (49, [some (.ref 0), some (.int l1), some (.ref 21), some (.int l3), some (.int l4)], [], (I, J))
noncomputable def zv_X9_next_X_54 (I : Nat → Nat → Int32) (J : Nat → Nat → Int64) (l1 : Int32) (l3 : Int32) (l4 : Int32) : zm_R := zm_V zT_X9_next zW_X (54, [some (.ref 0), some (.int l1), some (.ref 21), some (.int l3), some (.int l4)], [], (I, J))
noncomputable def zv_X9_next_X_76 (I : Nat → Nat → Int32) (J : Nat → Nat → Int64) (l1 : Int32) (l3 : Int32) (l4 : Int32) : zm_R := zm_V zT_X9_next zW_X (76, [some (.ref 0), some (.int l1), some (.ref 21), some (.int l3), some (.int l4)], [], (I, J))
noncomputable def zv_X9_next_X_79 (I : Nat → Nat → Int32) (J : Nat → Nat → Int64) (l1 : Int32) (l3 : Int32) (l4 : Int32) : zm_R := zm_V zT_X9_next zW_X (79, [some (.ref 0), some (.int l1), some (.ref 21), some (.int l3), some (.int l4)], [], (I, J))
noncomputable def zv_X9_next_X_85 (I : Nat → Nat → Int32) (J : Nat → Nat → Int64) (l1 : Int32) (l3 : Int32) (l4 : Int32) : zm_R := zm_V zT_X9_next zW_X (85, [some (.ref 0), some (.int l1), some (.ref 21), some (.int l3), some (.int l4)], [], (I, J))
set_option maxRecDepth 20000 in
theorem zc_X9_next_X_0 (I : Nat → Nat → Int32) (J : Nat → Nat → Int64) (l1 : Int32) {I2 : Nat → Nat → Int32} {J2 : Nat → Nat → Int64} {r : Int32} (hF : zF_X9_hasBench zW_X [.ref 0] (I, J) = some (some (.int r), (I2, J2))) : zv_X9_next_X_0 I J l1 = zv_X9_next_X_4 I2 J2 l1 r := by
  have e : ∀ k : zm_S → zm_R, zm_step zT_X9_next zW_X k (0, [some (.ref 0), some (.int l1), none, none, none], [], (I, J)) = zm_app (1, some 9, true, [], zF_X9_hasBench) zW_X [.ref 0] (I, J) (fun v N => k (4, [some (.ref 0), some (.int l1), none, none, none], v.toList ++ [], N)) := fun k => rfl
  have g := zm_app_s (C := (1, some 9, true, [], zF_X9_hasBench)) (wl := zW_X) (as := [.ref 0]) (M := (I, J)) (k := fun v N => zm_V zT_X9_next zW_X (4, [some (.ref 0), some (.int l1), none, none, none], v.toList ++ [], N)) rfl rfl hF
  exact (zm_V_eq _ _ _).trans ((e _).trans g)
set_option maxRecDepth 20000 in
theorem zq_X9_next_X_4 (I : Nat → Nat → Int32) (J : Nat → Nat → Int64) (l1 : Int32) (s0 : Int32) : zv_X9_next_X_4 I J l1 s0 = if s0 = 0 then zv_X9_next_X_14 I J l1 else zv_X9_next_X_7 I J l1 := (zm_V_eq _ _ _).trans ((fun (k : zm_S → zm_R) => (rfl : zm_step zT_X9_next zW_X k (4, [some (.ref 0), some (.int l1), none, none, none], [.int s0], (I, J)) = if s0 = 0 then k (14, [some (.ref 0), some (.int l1), none, none, none], [], (I, J)) else k (7, [some (.ref 0), some (.int l1), none, none, none], [], (I, J)))) (zm_V zT_X9_next zW_X))
set_option maxRecDepth 20000 in
theorem zc_X9_next_X_7 (I : Nat → Nat → Int32) (J : Nat → Nat → Int64) (l1 : Int32) {I2 : Nat → Nat → Int32} {J2 : Nat → Nat → Int64} {r : Int32} (hF : zF_X9_isMinute zW_X [.int l1] (I, J) = some (some (.int r), (I2, J2))) : zv_X9_next_X_7 I J l1 = zv_X9_next_X_11 I2 J2 l1 r := by
  have e : ∀ k : zm_S → zm_R, zm_step zT_X9_next zW_X k (7, [some (.ref 0), some (.int l1), none, none, none], [], (I, J)) = zm_app (1, none, true, [], zF_X9_isMinute) zW_X [.int l1] (I, J) (fun v N => k (11, [some (.ref 0), some (.int l1), none, none, none], v.toList ++ [], N)) := fun k => rfl
  have g := zm_app_s (C := (1, none, true, [], zF_X9_isMinute)) (wl := zW_X) (as := [.int l1]) (M := (I, J)) (k := fun v N => zm_V zT_X9_next zW_X (11, [some (.ref 0), some (.int l1), none, none, none], v.toList ++ [], N)) rfl rfl hF
  exact (zm_V_eq _ _ _).trans ((e _).trans g)
set_option maxRecDepth 20000 in
theorem zq_X9_next_X_11 (I : Nat → Nat → Int32) (J : Nat → Nat → Int64) (l1 : Int32) (s0 : Int32) : zv_X9_next_X_11 I J l1 s0 = if s0 = 0 then zv_X9_next_X_14 I J l1 else zv_X9_next_X_17 I J l1 := (zm_V_eq _ _ _).trans ((fun (k : zm_S → zm_R) => (rfl : zm_step zT_X9_next zW_X k (11, [some (.ref 0), some (.int l1), none, none, none], [.int s0], (I, J)) = if s0 = 0 then k (14, [some (.ref 0), some (.int l1), none, none, none], [], (I, J)) else k (17, [some (.ref 0), some (.int l1), none, none, none], [], (I, J)))) (zm_V zT_X9_next zW_X))
set_option maxRecDepth 20000 in
theorem zq_X9_next_X_14 (I : Nat → Nat → Int32) (J : Nat → Nat → Int64) (l1 : Int32) : zv_X9_next_X_14 I J l1 = some (some (.int (-2)), (I, J)) := (zm_V_eq _ _ _).trans ((fun (k : zm_S → zm_R) => (rfl : zm_step zT_X9_next zW_X k (14, [some (.ref 0), some (.int l1), none, none, none], [], (I, J)) = some (some (.int (-2)), (I, J)))) (zm_V zT_X9_next zW_X))
set_option maxRecDepth 20000 in
theorem zc_X9_next_X_17 (I : Nat → Nat → Int32) (J : Nat → Nat → Int64) (l1 : Int32) {I2 : Nat → Nat → Int32} {J2 : Nat → Nat → Int64} (hF : zF_X9_livedToday zW_X [.ref 0] (I, J) = some (some (.ref 21), (I2, J2))) : zv_X9_next_X_17 I J l1 = zv_X9_next_X_21 I2 J2 l1 := by
  have e : ∀ k : zm_S → zm_R, zm_step zT_X9_next zW_X k (17, [some (.ref 0), some (.int l1), none, none, none], [], (I, J)) = zm_app (1, some 9, true, [], zF_X9_livedToday) zW_X [.ref 0] (I, J) (fun v N => k (21, [some (.ref 0), some (.int l1), none, none, none], v.toList ++ [], N)) := fun k => rfl
  have g := zm_app_s (C := (1, some 9, true, [], zF_X9_livedToday)) (wl := zW_X) (as := [.ref 0]) (M := (I, J)) (k := fun v N => zm_V zT_X9_next zW_X (21, [some (.ref 0), some (.int l1), none, none, none], v.toList ++ [], N)) rfl rfl hF
  exact (zm_V_eq _ _ _).trans ((e _).trans g)
set_option maxRecDepth 20000 in
theorem zq_X9_next_X_21 (I : Nat → Nat → Int32) (J : Nat → Nat → Int64) (l1 : Int32) : zv_X9_next_X_21 I J l1 = zv_X9_next_X_27 I J l1 (-1) 0 := (zm_V_eq _ _ _).trans ((fun (k : zm_S → zm_R) => (rfl : zm_step zT_X9_next zW_X k (21, [some (.ref 0), some (.int l1), none, none, none], [.ref 21], (I, J)) = k (27, [some (.ref 0), some (.int l1), some (.ref 21), some (.int (-1)), some (.int 0)], [], (I, J)))) (zm_V zT_X9_next zW_X))
set_option maxRecDepth 20000 in
theorem zq_X9_next_X_27 (I : Nat → Nat → Int32) (J : Nat → Nat → Int64) (l1 : Int32) (l3 : Int32) (l4 : Int32) : zv_X9_next_X_27 I J l1 l3 l4 = if (I 1 6) ≤ l4 then zv_X9_next_X_85 I J l1 l3 l4 else zv_X9_next_X_39 I J l1 l3 l4 := (zm_V_eq _ _ _).trans ((fun (k : zm_S → zm_R) => (rfl : zm_step zT_X9_next zW_X k (27, [some (.ref 0), some (.int l1), some (.ref 21), some (.int l3), some (.int l4)], [], (I, J)) = if (I 1 6) ≤ l4 then k (85, [some (.ref 0), some (.int l1), some (.ref 21), some (.int l3), some (.int l4)], [], (I, J)) else k (39, [some (.ref 0), some (.int l1), some (.ref 21), some (.int l3), some (.int l4)], [], (I, J)))) (zm_V zT_X9_next zW_X))
set_option maxRecDepth 20000 in
theorem zc_X9_next_X_39 (I : Nat → Nat → Int32) (J : Nat → Nat → Int64) (l1 : Int32) (l3 : Int32) (l4 : Int32) {N : zm_I} {r : Int32} (hF : zF_X3_isThere zW_Y [.ref 0, .int l4, .int l1] (zm_sub2 [(21, 11)] (I, J)) = some (some (.int r), N)) : zv_X9_next_X_39 I J l1 l3 l4 = zv_X9_next_X_46 (zm_mrg [(21, 11)] (I, J) N).1 (zm_mrg [(21, 11)] (I, J) N).2 l1 l3 l4 r := by
  have e : ∀ k : zm_S → zm_R, zm_step zT_X9_next zW_X k (39, [some (.ref 0), some (.int l1), some (.ref 21), some (.int l3), some (.int l4)], [], (I, J)) = zm_app (3, some 3, false, [(0, 11)], zF_X3_isThere) zW_X [.ref 21, .int l4, .int l1] (I, J) (fun v N => k (46, [some (.ref 0), some (.int l1), some (.ref 21), some (.int l3), some (.int l4)], v.toList ++ [], N)) := fun k => rfl
  have g := zm_app_l (C := (3, some 3, false, [(0, 11)], zF_X3_isThere)) (wl := zW_X) (as := [.ref 21, .int l4, .int l1]) (wc := zW_Y) (ac := [.ref 0, .int l4, .int l1]) (bs := [(21, 11)]) (M := (I, J)) (k := fun v N => zm_V zT_X9_next zW_X (46, [some (.ref 0), some (.int l1), some (.ref 21), some (.int l3), some (.int l4)], v.toList ++ [], N)) rfl rfl rfl rfl rfl rfl hF
  exact (zm_V_eq _ _ _).trans ((e _).trans g)
set_option maxRecDepth 20000 in
theorem zq_X9_next_X_46 (I : Nat → Nat → Int32) (J : Nat → Nat → Int64) (l1 : Int32) (l3 : Int32) (l4 : Int32) (s0 : Int32) : zv_X9_next_X_46 I J l1 l3 l4 s0 = if s0 = 0 then zv_X9_next_X_79 I J l1 l3 l4 else zv_X9_next_X_49 I J l1 l3 l4 := (zm_V_eq _ _ _).trans ((fun (k : zm_S → zm_R) => (rfl : zm_step zT_X9_next zW_X k (46, [some (.ref 0), some (.int l1), some (.ref 21), some (.int l3), some (.int l4)], [.int s0], (I, J)) = if s0 = 0 then k (79, [some (.ref 0), some (.int l1), some (.ref 21), some (.int l3), some (.int l4)], [], (I, J)) else k (49, [some (.ref 0), some (.int l1), some (.ref 21), some (.int l3), some (.int l4)], [], (I, J)))) (zm_V zT_X9_next zW_X))
set_option maxRecDepth 20000 in
theorem zq_X9_next_X_49 (I : Nat → Nat → Int32) (J : Nat → Nat → Int64) (l1 : Int32) (l3 : Int32) (l4 : Int32) : zv_X9_next_X_49 I J l1 l3 l4 = if l3 = (-1) then zv_X9_next_X_76 I J l1 l3 l4 else zv_X9_next_X_54 I J l1 l3 l4 := (zm_V_eq _ _ _).trans ((fun (k : zm_S → zm_R) => (rfl : zm_step zT_X9_next zW_X k (49, [some (.ref 0), some (.int l1), some (.ref 21), some (.int l3), some (.int l4)], [], (I, J)) = if l3 = (-1) then k (76, [some (.ref 0), some (.int l1), some (.ref 21), some (.int l3), some (.int l4)], [], (I, J)) else k (54, [some (.ref 0), some (.int l1), some (.ref 21), some (.int l3), some (.int l4)], [], (I, J)))) (zm_V zT_X9_next zW_X))
set_option maxRecDepth 20000 in
theorem zq_X9_next_X_54 (I : Nat → Nat → Int32) (J : Nat → Nat → Int64) (l1 : Int32) (l3 : Int32) (l4 : Int32) : zv_X9_next_X_54 I J l1 l3 l4 = if (l4 : Int32) < 0 ∨ 5 ≤ Int32.toNatClampNeg l4 then none else if (l3 : Int32) < 0 ∨ 5 ≤ Int32.toNatClampNeg l3 then none else if (I 4 (Int32.toNatClampNeg l3)) ≤ (I 4 (Int32.toNatClampNeg l4)) then zv_X9_next_X_79 I J l1 l3 l4 else zv_X9_next_X_76 I J l1 l3 l4 := (zm_V_eq _ _ _).trans ((fun (k : zm_S → zm_R) => (rfl : zm_step zT_X9_next zW_X k (54, [some (.ref 0), some (.int l1), some (.ref 21), some (.int l3), some (.int l4)], [], (I, J)) = if (l4 : Int32) < 0 ∨ 5 ≤ Int32.toNatClampNeg l4 then none else if (l3 : Int32) < 0 ∨ 5 ≤ Int32.toNatClampNeg l3 then none else if (I 4 (Int32.toNatClampNeg l3)) ≤ (I 4 (Int32.toNatClampNeg l4)) then k (79, [some (.ref 0), some (.int l1), some (.ref 21), some (.int l3), some (.int l4)], [], (I, J)) else k (76, [some (.ref 0), some (.int l1), some (.ref 21), some (.int l3), some (.int l4)], [], (I, J)))) (zm_V zT_X9_next zW_X))
set_option maxRecDepth 20000 in
theorem zq_X9_next_X_76 (I : Nat → Nat → Int32) (J : Nat → Nat → Int64) (l1 : Int32) (l3 : Int32) (l4 : Int32) : zv_X9_next_X_76 I J l1 l3 l4 = zv_X9_next_X_79 I J l1 l4 l4 := (zm_V_eq _ _ _).trans ((fun (k : zm_S → zm_R) => (rfl : zm_step zT_X9_next zW_X k (76, [some (.ref 0), some (.int l1), some (.ref 21), some (.int l3), some (.int l4)], [], (I, J)) = k (79, [some (.ref 0), some (.int l1), some (.ref 21), some (.int l4), some (.int l4)], [], (I, J)))) (zm_V zT_X9_next zW_X))
set_option maxRecDepth 20000 in
theorem zq_X9_next_X_79 (I : Nat → Nat → Int32) (J : Nat → Nat → Int64) (l1 : Int32) (l3 : Int32) (l4 : Int32) : zv_X9_next_X_79 I J l1 l3 l4 = zv_X9_next_X_27 I J l1 l3 (l4 + 1) := (zm_V_eq _ _ _).trans ((fun (k : zm_S → zm_R) => (rfl : zm_step zT_X9_next zW_X k (79, [some (.ref 0), some (.int l1), some (.ref 21), some (.int l3), some (.int l4)], [], (I, J)) = k (27, [some (.ref 0), some (.int l1), some (.ref 21), some (.int l3), some (.int (l4 + 1))], [], (I, J)))) (zm_V zT_X9_next zW_X))
set_option maxRecDepth 20000 in
theorem zq_X9_next_X_85 (I : Nat → Nat → Int32) (J : Nat → Nat → Int64) (l1 : Int32) (l3 : Int32) (l4 : Int32) : zv_X9_next_X_85 I J l1 l3 l4 = some (some (.int l3), (I, J)) := (zm_V_eq _ _ _).trans ((fun (k : zm_S → zm_R) => (rfl : zm_step zT_X9_next zW_X k (85, [some (.ref 0), some (.int l1), some (.ref 21), some (.int l3), some (.int l4)], [], (I, J)) = some (some (.int l3), (I, J)))) (zm_V zT_X9_next zW_X))
theorem zf_X9_next_X (I : Nat → Nat → Int32) (J : Nat → Nat → Int64) (l1 : Int32) : zF_X9_next zW_X [.ref 0, .int l1] (I, J) = zv_X9_next_X_0 I J l1 := rfl
noncomputable def zv_X10_next__M_0 (I : Nat → Nat → Int32) (J : Nat → Nat → Int64) (l1 : Int32) : zm_R := zm_V zT_X10_next_ zW_M (0, [some (.ref 0), some (.int l1), none, none], [], (I, J))
noncomputable def zv_X10_next__M_10 (I : Nat → Nat → Int32) (J : Nat → Nat → Int64) (l1 : Int32) (s0 : Int32) : zm_R := zm_V zT_X10_next_ zW_M (10, [some (.ref 0), some (.int l1), none, none], [.int s0], (I, J))
noncomputable def zv_X10_next__M_13 (I : Nat → Nat → Int32) (J : Nat → Nat → Int64) (l1 : Int32) : zm_R := zm_V zT_X10_next_ zW_M (13, [some (.ref 0), some (.int l1), none, none], [], (I, J))
noncomputable def zv_X10_next__M_16 (I : Nat → Nat → Int32) (J : Nat → Nat → Int64) (l1 : Int32) : zm_R := zm_V zT_X10_next_ zW_M (16, [some (.ref 0), some (.int l1), none, none], [], (I, J))
noncomputable def zv_X10_next__M_20 (I : Nat → Nat → Int32) (J : Nat → Nat → Int64) (l1 : Int32) : zm_R := zm_V zT_X10_next_ zW_M (20, [some (.ref 0), some (.int l1), none, none], [], (I, J))
noncomputable def zv_X10_next__M_24 (I : Nat → Nat → Int32) (J : Nat → Nat → Int64) (l1 : Int32) (l2 : Int32) (l3 : Int32) : zm_R := zm_V zT_X10_next_ zW_M (24, [some (.ref 0), some (.int l1), some (.int l2), some (.int l3)], [], (I, J))
noncomputable def zv_X10_next__M_29 (I : Nat → Nat → Int32) (J : Nat → Nat → Int64) (l1 : Int32) (l2 : Int32) (l3 : Int32) (s0 : Int32) (s1 : Int32) : zm_R := zm_V zT_X10_next_ zW_M (29, [some (.ref 0), some (.int l1), some (.int l2), some (.int l3)], [.int s0, .int s1], (I, J))
noncomputable def zv_X10_next__M_32 (I : Nat → Nat → Int32) (J : Nat → Nat → Int64) (l1 : Int32) (l2 : Int32) (l3 : Int32) : zm_R := zm_V zT_X10_next_ zW_M (32, [some (.ref 0), some (.int l1), some (.int l2), some (.int l3)], [], (I, J))
noncomputable def zv_X10_next__M_47 (I : Nat → Nat → Int32) (J : Nat → Nat → Int64) (l1 : Int32) (l2 : Int32) (l3 : Int32) : zm_R := zm_V zT_X10_next_ zW_M (47, [some (.ref 0), some (.int l1), some (.int l2), some (.int l3)], [], (I, J))
noncomputable def zv_X10_next__M_52 (I : Nat → Nat → Int32) (J : Nat → Nat → Int64) (l1 : Int32) (l2 : Int32) (l3 : Int32) : zm_R := zm_V zT_X10_next_ zW_M (52, [some (.ref 0), some (.int l1), some (.int l2), some (.int l3)], [], (I, J))
noncomputable def zv_X10_next__M_67 (I : Nat → Nat → Int32) (J : Nat → Nat → Int64) (l1 : Int32) (l2 : Int32) (l3 : Int32) : zm_R := zm_V zT_X10_next_ zW_M (67, [some (.ref 0), some (.int l1), some (.int l2), some (.int l3)], [], (I, J))
noncomputable def zv_X10_next__M_69 (I : Nat → Nat → Int32) (J : Nat → Nat → Int64) (l1 : Int32) (l2 : Int32) (l3 : Int32) : zm_R := zm_V zT_X10_next_ zW_M (69, [some (.ref 0), some (.int l1), some (.int l2), some (.int l3)], [], (I, J))
noncomputable def zv_X10_next__M_75 (I : Nat → Nat → Int32) (J : Nat → Nat → Int64) (l1 : Int32) (l2 : Int32) (l3 : Int32) : zm_R := zm_V zT_X10_next_ zW_M (75, [some (.ref 0), some (.int l1), some (.int l2), some (.int l3)], [], (I, J))
set_option maxRecDepth 20000 in
theorem zc_X10_next__M_0 (I : Nat → Nat → Int32) (J : Nat → Nat → Int64) (l1 : Int32) {I2 : Nat → Nat → Int32} {J2 : Nat → Nat → Int64} {r : Int32} (hF : zF_X10_isTime zW_M [.ref 0, .int l1] ((zm_w I 0 0 0), J) = some (some (.int r), (I2, J2))) : zv_X10_next__M_0 I J l1 = zv_X10_next__M_10 I2 J2 l1 r := by
  have e : ∀ k : zm_S → zm_R, zm_step zT_X10_next_ zW_M k (0, [some (.ref 0), some (.int l1), none, none], [], (I, J)) = zm_app (2, some 10, true, [], zF_X10_isTime) zW_M [.ref 0, .int l1] ((zm_w I 0 0 0), J) (fun v N => k (10, [some (.ref 0), some (.int l1), none, none], v.toList ++ [], N)) := fun k => rfl
  have g := zm_app_s (C := (2, some 10, true, [], zF_X10_isTime)) (wl := zW_M) (as := [.ref 0, .int l1]) (M := ((zm_w I 0 0 0), J)) (k := fun v N => zm_V zT_X10_next_ zW_M (10, [some (.ref 0), some (.int l1), none, none], v.toList ++ [], N)) rfl rfl hF
  exact (zm_V_eq _ _ _).trans ((e _).trans g)
set_option maxRecDepth 20000 in
theorem zq_X10_next__M_10 (I : Nat → Nat → Int32) (J : Nat → Nat → Int64) (l1 : Int32) (s0 : Int32) : zv_X10_next__M_10 I J l1 s0 = if s0 = 0 then zv_X10_next__M_13 I J l1 else zv_X10_next__M_16 I J l1 := (zm_V_eq _ _ _).trans ((fun (k : zm_S → zm_R) => (rfl : zm_step zT_X10_next_ zW_M k (10, [some (.ref 0), some (.int l1), none, none], [.int s0], (I, J)) = if s0 = 0 then k (13, [some (.ref 0), some (.int l1), none, none], [], (I, J)) else k (16, [some (.ref 0), some (.int l1), none, none], [], (I, J)))) (zm_V zT_X10_next_ zW_M))
set_option maxRecDepth 20000 in
theorem zq_X10_next__M_13 (I : Nat → Nat → Int32) (J : Nat → Nat → Int64) (l1 : Int32) : zv_X10_next__M_13 I J l1 = some (some (.int (-2)), (I, J)) := (zm_V_eq _ _ _).trans ((fun (k : zm_S → zm_R) => (rfl : zm_step zT_X10_next_ zW_M k (13, [some (.ref 0), some (.int l1), none, none], [], (I, J)) = some (some (.int (-2)), (I, J)))) (zm_V zT_X10_next_ zW_M))
set_option maxRecDepth 20000 in
theorem zc_X10_next__M_16 (I : Nat → Nat → Int32) (J : Nat → Nat → Int64) (l1 : Int32) {I2 : Nat → Nat → Int32} {J2 : Nat → Nat → Int64} (hF : zF_X10_laysNow zW_M [.ref 0] (I, J) = some (none, (I2, J2))) : zv_X10_next__M_16 I J l1 = zv_X10_next__M_20 I2 J2 l1 := by
  have e : ∀ k : zm_S → zm_R, zm_step zT_X10_next_ zW_M k (16, [some (.ref 0), some (.int l1), none, none], [], (I, J)) = zm_app (1, some 10, true, [], zF_X10_laysNow) zW_M [.ref 0] (I, J) (fun v N => k (20, [some (.ref 0), some (.int l1), none, none], v.toList ++ [], N)) := fun k => rfl
  have g := zm_app_s (C := (1, some 10, true, [], zF_X10_laysNow)) (wl := zW_M) (as := [.ref 0]) (M := (I, J)) (k := fun v N => zm_V zT_X10_next_ zW_M (20, [some (.ref 0), some (.int l1), none, none], v.toList ++ [], N)) rfl rfl hF
  exact (zm_V_eq _ _ _).trans ((e _).trans g)
set_option maxRecDepth 20000 in
theorem zq_X10_next__M_20 (I : Nat → Nat → Int32) (J : Nat → Nat → Int64) (l1 : Int32) : zv_X10_next__M_20 I J l1 = zv_X10_next__M_24 I J l1 (-1) 0 := (zm_V_eq _ _ _).trans ((fun (k : zm_S → zm_R) => (rfl : zm_step zT_X10_next_ zW_M k (20, [some (.ref 0), some (.int l1), none, none], [], (I, J)) = k (24, [some (.ref 0), some (.int l1), some (.int (-1)), some (.int 0)], [], (I, J)))) (zm_V zT_X10_next_ zW_M))
set_option maxRecDepth 20000 in
theorem zc_X10_next__M_24 (I : Nat → Nat → Int32) (J : Nat → Nat → Int64) (l1 : Int32) (l2 : Int32) (l3 : Int32) {I2 : Nat → Nat → Int32} {J2 : Nat → Nat → Int64} {r : Int32} (hF : zF_X10_callers zW_M [.ref 0] (I, J) = some (some (.int r), (I2, J2))) : zv_X10_next__M_24 I J l1 l2 l3 = zv_X10_next__M_29 I2 J2 l1 l2 l3 r l3 := by
  have e : ∀ k : zm_S → zm_R, zm_step zT_X10_next_ zW_M k (24, [some (.ref 0), some (.int l1), some (.int l2), some (.int l3)], [], (I, J)) = zm_app (1, some 10, true, [], zF_X10_callers) zW_M [.ref 0] (I, J) (fun v N => k (29, [some (.ref 0), some (.int l1), some (.int l2), some (.int l3)], v.toList ++ [.int l3], N)) := fun k => rfl
  have g := zm_app_s (C := (1, some 10, true, [], zF_X10_callers)) (wl := zW_M) (as := [.ref 0]) (M := (I, J)) (k := fun v N => zm_V zT_X10_next_ zW_M (29, [some (.ref 0), some (.int l1), some (.int l2), some (.int l3)], v.toList ++ [.int l3], N)) rfl rfl hF
  exact (zm_V_eq _ _ _).trans ((e _).trans g)
set_option maxRecDepth 20000 in
theorem zq_X10_next__M_29 (I : Nat → Nat → Int32) (J : Nat → Nat → Int64) (l1 : Int32) (l2 : Int32) (l3 : Int32) (s0 : Int32) (s1 : Int32) : zv_X10_next__M_29 I J l1 l2 l3 s0 s1 = if s0 ≤ s1 then zv_X10_next__M_75 I J l1 l2 l3 else zv_X10_next__M_32 I J l1 l2 l3 := (zm_V_eq _ _ _).trans ((fun (k : zm_S → zm_R) => (rfl : zm_step zT_X10_next_ zW_M k (29, [some (.ref 0), some (.int l1), some (.int l2), some (.int l3)], [.int s0, .int s1], (I, J)) = if s0 ≤ s1 then k (75, [some (.ref 0), some (.int l1), some (.int l2), some (.int l3)], [], (I, J)) else k (32, [some (.ref 0), some (.int l1), some (.int l2), some (.int l3)], [], (I, J)))) (zm_V zT_X10_next_ zW_M))
set_option maxRecDepth 20000 in
theorem zq_X10_next__M_32 (I : Nat → Nat → Int32) (J : Nat → Nat → Int64) (l1 : Int32) (l2 : Int32) (l3 : Int32) : zv_X10_next__M_32 I J l1 l2 l3 = if (((61 * l3) + l1) : Int32) < 0 ∨ 305 ≤ Int32.toNatClampNeg ((61 * l3) + l1) then none else if (I 16 (Int32.toNatClampNeg ((61 * l3) + l1))) = (-1) then zv_X10_next__M_69 I J l1 l2 l3 else zv_X10_next__M_47 I J l1 l2 l3 := (zm_V_eq _ _ _).trans ((fun (k : zm_S → zm_R) => (rfl : zm_step zT_X10_next_ zW_M k (32, [some (.ref 0), some (.int l1), some (.int l2), some (.int l3)], [], (I, J)) = if (((61 * l3) + l1) : Int32) < 0 ∨ 305 ≤ Int32.toNatClampNeg ((61 * l3) + l1) then none else if (I 16 (Int32.toNatClampNeg ((61 * l3) + l1))) = (-1) then k (69, [some (.ref 0), some (.int l1), some (.int l2), some (.int l3)], [], (I, J)) else k (47, [some (.ref 0), some (.int l1), some (.int l2), some (.int l3)], [], (I, J)))) (zm_V zT_X10_next_ zW_M))
set_option maxRecDepth 20000 in
theorem zq_X10_next__M_47 (I : Nat → Nat → Int32) (J : Nat → Nat → Int64) (l1 : Int32) (l2 : Int32) (l3 : Int32) : zv_X10_next__M_47 I J l1 l2 l3 = if l2 = (-1) then zv_X10_next__M_67 I J l1 l2 l3 else zv_X10_next__M_52 I J l1 l2 l3 := (zm_V_eq _ _ _).trans ((fun (k : zm_S → zm_R) => (rfl : zm_step zT_X10_next_ zW_M k (47, [some (.ref 0), some (.int l1), some (.int l2), some (.int l3)], [], (I, J)) = if l2 = (-1) then k (67, [some (.ref 0), some (.int l1), some (.int l2), some (.int l3)], [], (I, J)) else k (52, [some (.ref 0), some (.int l1), some (.int l2), some (.int l3)], [], (I, J)))) (zm_V zT_X10_next_ zW_M))
set_option maxRecDepth 20000 in
theorem zq_X10_next__M_52 (I : Nat → Nat → Int32) (J : Nat → Nat → Int64) (l1 : Int32) (l2 : Int32) (l3 : Int32) : zv_X10_next__M_52 I J l1 l2 l3 = if (l3 : Int32) < 0 ∨ 5 ≤ Int32.toNatClampNeg l3 then none else if (l2 : Int32) < 0 ∨ 5 ≤ Int32.toNatClampNeg l2 then none else if (I 14 (Int32.toNatClampNeg l2)) ≤ (I 14 (Int32.toNatClampNeg l3)) then zv_X10_next__M_69 I J l1 l2 l3 else zv_X10_next__M_67 I J l1 l2 l3 := (zm_V_eq _ _ _).trans ((fun (k : zm_S → zm_R) => (rfl : zm_step zT_X10_next_ zW_M k (52, [some (.ref 0), some (.int l1), some (.int l2), some (.int l3)], [], (I, J)) = if (l3 : Int32) < 0 ∨ 5 ≤ Int32.toNatClampNeg l3 then none else if (l2 : Int32) < 0 ∨ 5 ≤ Int32.toNatClampNeg l2 then none else if (I 14 (Int32.toNatClampNeg l2)) ≤ (I 14 (Int32.toNatClampNeg l3)) then k (69, [some (.ref 0), some (.int l1), some (.int l2), some (.int l3)], [], (I, J)) else k (67, [some (.ref 0), some (.int l1), some (.int l2), some (.int l3)], [], (I, J)))) (zm_V zT_X10_next_ zW_M))
set_option maxRecDepth 20000 in
theorem zq_X10_next__M_67 (I : Nat → Nat → Int32) (J : Nat → Nat → Int64) (l1 : Int32) (l2 : Int32) (l3 : Int32) : zv_X10_next__M_67 I J l1 l2 l3 = zv_X10_next__M_69 I J l1 l3 l3 := (zm_V_eq _ _ _).trans ((fun (k : zm_S → zm_R) => (rfl : zm_step zT_X10_next_ zW_M k (67, [some (.ref 0), some (.int l1), some (.int l2), some (.int l3)], [], (I, J)) = k (69, [some (.ref 0), some (.int l1), some (.int l3), some (.int l3)], [], (I, J)))) (zm_V zT_X10_next_ zW_M))
set_option maxRecDepth 20000 in
theorem zq_X10_next__M_69 (I : Nat → Nat → Int32) (J : Nat → Nat → Int64) (l1 : Int32) (l2 : Int32) (l3 : Int32) : zv_X10_next__M_69 I J l1 l2 l3 = zv_X10_next__M_24 I J l1 l2 (l3 + 1) := (zm_V_eq _ _ _).trans ((fun (k : zm_S → zm_R) => (rfl : zm_step zT_X10_next_ zW_M k (69, [some (.ref 0), some (.int l1), some (.int l2), some (.int l3)], [], (I, J)) = k (24, [some (.ref 0), some (.int l1), some (.int l2), some (.int (l3 + 1))], [], (I, J)))) (zm_V zT_X10_next_ zW_M))
set_option maxRecDepth 20000 in
theorem zq_X10_next__M_75 (I : Nat → Nat → Int32) (J : Nat → Nat → Int64) (l1 : Int32) (l2 : Int32) (l3 : Int32) : zv_X10_next__M_75 I J l1 l2 l3 = some (some (.int l2), (I, J)) := (zm_V_eq _ _ _).trans ((fun (k : zm_S → zm_R) => (rfl : zm_step zT_X10_next_ zW_M k (75, [some (.ref 0), some (.int l1), some (.int l2), some (.int l3)], [], (I, J)) = some (some (.int l2), (I, J)))) (zm_V zT_X10_next_ zW_M))
theorem zf_X10_next__M (I : Nat → Nat → Int32) (J : Nat → Nat → Int64) (l1 : Int32) : zF_X10_next_ zW_M [.ref 0, .int l1] (I, J) = zv_X10_next__M_0 I J l1 := rfl
noncomputable def zv_X9_beside_X_0 (I : Nat → Nat → Int32) (J : Nat → Nat → Int64) (l1 : Int32) (l2 : Int32) : zm_R := zm_V zT_X9_beside zW_X (0, [some (.ref 0), some (.int l1), some (.int l2), none, none, none, none, none], [], (I, J))
noncomputable def zv_X9_beside_X_8 (I : Nat → Nat → Int32) (J : Nat → Nat → Int64) (l1 : Int32) (l2 : Int32) (s0 : Int32) : zm_R := zm_V zT_X9_beside zW_X (8, [some (.ref 0), some (.int l1), some (.int l2), none, none, none, none, none], [.int s0], (I, J))
noncomputable def zv_X9_beside_X_11 (I : Nat → Nat → Int32) (J : Nat → Nat → Int64) (l1 : Int32) (l2 : Int32) : zm_R := zm_V zT_X9_beside zW_X (11, [some (.ref 0), some (.int l1), some (.int l2), none, none, none, none, none], [], (I, J))
noncomputable def zv_X9_beside_X_15 (I : Nat → Nat → Int32) (J : Nat → Nat → Int64) (l1 : Int32) (l2 : Int32) (s0 : Int32) : zm_R := zm_V zT_X9_beside zW_X (15, [some (.ref 0), some (.int l1), some (.int l2), none, none, none, none, none], [.int s0], (I, J))
noncomputable def zv_X9_beside_X_18 (I : Nat → Nat → Int32) (J : Nat → Nat → Int64) (l1 : Int32) (l2 : Int32) : zm_R := zm_V zT_X9_beside zW_X (18, [some (.ref 0), some (.int l1), some (.int l2), none, none, none, none, none], [], (I, J))
noncomputable def zv_X9_beside_X_21 (I : Nat → Nat → Int32) (J : Nat → Nat → Int64) (l1 : Int32) (l2 : Int32) : zm_R := zm_V zT_X9_beside zW_X (21, [some (.ref 0), some (.int l1), some (.int l2), none, none, none, none, none], [], (I, J))
noncomputable def zv_X9_beside_X_25 (I : Nat → Nat → Int32) (J : Nat → Nat → Int64) (l1 : Int32) (l2 : Int32) : zm_R := zm_V zT_X9_beside zW_X (25, [some (.ref 0), some (.int l1), some (.int l2), none, none, none, none, none], [.ref 21], (I, J))
noncomputable def zv_X9_beside_X_32 (I : Nat → Nat → Int32) (J : Nat → Nat → Int64) (l1 : Int32) (l2 : Int32) (s0 : Int32) : zm_R := zm_V zT_X9_beside zW_X (32, [some (.ref 0), some (.int l1), some (.int l2), some (.ref 21), none, none, none, none], [.int s0], (I, J))
noncomputable def zv_X9_beside_X_40 (I : Nat → Nat → Int32) (J : Nat → Nat → Int64) (l1 : Int32) (l2 : Int32) (l4 : Int32) (l5 : Int32) (l6 : Int32) (l7 : Option Value) : zm_R := zm_V zT_X9_beside zW_X (40, [some (.ref 0), some (.int l1), some (.int l2), some (.ref 21), some (.int l4), some (.int l5), some (.int l6), l7], [], (I, J))
noncomputable def zv_X9_beside_X_46 (I : Nat → Nat → Int32) (J : Nat → Nat → Int64) (l1 : Int32) (l2 : Int32) (l4 : Int32) (l5 : Int32) (l6 : Int32) (l7 : Option Value) : zm_R := zm_V zT_X9_beside zW_X (46, [some (.ref 0), some (.int l1), some (.int l2), some (.ref 21), some (.int l4), some (.int l5), some (.int l6), l7], [], (I, J))
noncomputable def zv_X9_beside_X_58 (I : Nat → Nat → Int32) (J : Nat → Nat → Int64) (l1 : Int32) (l2 : Int32) (l4 : Int32) (l5 : Int32) (l6 : Int32) (l7 : Option Value) : zm_R := zm_V zT_X9_beside zW_X (58, [some (.ref 0), some (.int l1), some (.int l2), some (.ref 21), some (.int l4), some (.int l5), some (.int l6), l7], [], (I, J))
noncomputable def zv_X9_beside_X_65 (I : Nat → Nat → Int32) (J : Nat → Nat → Int64) (l1 : Int32) (l2 : Int32) (l4 : Int32) (l5 : Int32) (l6 : Int32) (l7 : Option Value) (s0 : Int32) : zm_R := zm_V zT_X9_beside zW_X (65, [some (.ref 0), some (.int l1), some (.int l2), some (.ref 21), some (.int l4), some (.int l5), some (.int l6), l7], [.int s0], (I, J))
noncomputable def zv_X9_beside_X_73 (I : Nat → Nat → Int32) (J : Nat → Nat → Int64) (l1 : Int32) (l2 : Int32) (l4 : Int32) (l5 : Int32) (l6 : Int32) (l7 : Int32) : zm_R := zm_V zT_X9_beside zW_X (73, [some (.ref 0), some (.int l1), some (.int l2), some (.ref 21), some (.int l4), some (.int l5), some (.int l6), some (.int l7)], [], (I, J))
noncomputable def zv_X9_beside_X_85 (I : Nat → Nat → Int32) (J : Nat → Nat → Int64) (l1 : Int32) (l2 : Int32) (l4 : Int32) (l5 : Int32) (l6 : Int32) (l7 : Int32) : zm_R := zm_V zT_X9_beside zW_X (85, [some (.ref 0), some (.int l1), some (.int l2), some (.ref 21), some (.int l4), some (.int l5), some (.int l6), some (.int l7)], [], (I, J))
noncomputable def zv_X9_beside_X_94 (I : Nat → Nat → Int32) (J : Nat → Nat → Int64) (l1 : Int32) (l2 : Int32) (l4 : Int32) (l5 : Int32) (l6 : Int32) (l7 : Int32) : zm_R := zm_V zT_X9_beside zW_X (94, [some (.ref 0), some (.int l1), some (.int l2), some (.ref 21), some (.int l4), some (.int l5), some (.int l6), some (.int l7)], [], (I, J))
noncomputable def zv_X9_beside_X_100 (I : Nat → Nat → Int32) (J : Nat → Nat → Int64) (l1 : Int32) (l2 : Int32) (l4 : Int32) (l5 : Int32) (l6 : Int32) (l7 : Option Value) : zm_R := zm_V zT_X9_beside zW_X (100, [some (.ref 0), some (.int l1), some (.int l2), some (.ref 21), some (.int l4), some (.int l5), some (.int l6), l7], [], (I, J))
set_option maxRecDepth 20000 in
theorem zc_X9_beside_X_0 (I : Nat → Nat → Int32) (J : Nat → Nat → Int64) (l1 : Int32) (l2 : Int32) {N : zm_I} {r : Int32} (hF : zF_X0_hasCaller zW_B [.ref 0, .int l1] (zm_sub2 [(1, 10)] (I, J)) = some (some (.int r), N)) : zv_X9_beside_X_0 I J l1 l2 = zv_X9_beside_X_8 (zm_mrg [(1, 10)] (I, J) N).1 (zm_mrg [(1, 10)] (I, J) N).2 l1 l2 r := by
  have e : ∀ k : zm_S → zm_R, zm_step zT_X9_beside zW_X k (0, [some (.ref 0), some (.int l1), some (.int l2), none, none, none, none, none], [], (I, J)) = zm_app (2, some 0, false, [(0, 10)], zF_X0_hasCaller) zW_X [.ref 1, .int l1] (I, J) (fun v N => k (8, [some (.ref 0), some (.int l1), some (.int l2), none, none, none, none, none], v.toList ++ [], N)) := fun k => rfl
  have g := zm_app_l (C := (2, some 0, false, [(0, 10)], zF_X0_hasCaller)) (wl := zW_X) (as := [.ref 1, .int l1]) (wc := zW_B) (ac := [.ref 0, .int l1]) (bs := [(1, 10)]) (M := (I, J)) (k := fun v N => zm_V zT_X9_beside zW_X (8, [some (.ref 0), some (.int l1), some (.int l2), none, none, none, none, none], v.toList ++ [], N)) rfl rfl rfl rfl rfl rfl hF
  exact (zm_V_eq _ _ _).trans ((e _).trans g)
set_option maxRecDepth 20000 in
theorem zq_X9_beside_X_8 (I : Nat → Nat → Int32) (J : Nat → Nat → Int64) (l1 : Int32) (l2 : Int32) (s0 : Int32) : zv_X9_beside_X_8 I J l1 l2 s0 = if s0 = 0 then zv_X9_beside_X_18 I J l1 l2 else zv_X9_beside_X_11 I J l1 l2 := (zm_V_eq _ _ _).trans ((fun (k : zm_S → zm_R) => (rfl : zm_step zT_X9_beside zW_X k (8, [some (.ref 0), some (.int l1), some (.int l2), none, none, none, none, none], [.int s0], (I, J)) = if s0 = 0 then k (18, [some (.ref 0), some (.int l1), some (.int l2), none, none, none, none, none], [], (I, J)) else k (11, [some (.ref 0), some (.int l1), some (.int l2), none, none, none, none, none], [], (I, J)))) (zm_V zT_X9_beside zW_X))
set_option maxRecDepth 20000 in
theorem zc_X9_beside_X_11 (I : Nat → Nat → Int32) (J : Nat → Nat → Int64) (l1 : Int32) (l2 : Int32) {I2 : Nat → Nat → Int32} {J2 : Nat → Nat → Int64} {r : Int32} (hF : zF_X9_isMinute zW_X [.int l2] (I, J) = some (some (.int r), (I2, J2))) : zv_X9_beside_X_11 I J l1 l2 = zv_X9_beside_X_15 I2 J2 l1 l2 r := by
  have e : ∀ k : zm_S → zm_R, zm_step zT_X9_beside zW_X k (11, [some (.ref 0), some (.int l1), some (.int l2), none, none, none, none, none], [], (I, J)) = zm_app (1, none, true, [], zF_X9_isMinute) zW_X [.int l2] (I, J) (fun v N => k (15, [some (.ref 0), some (.int l1), some (.int l2), none, none, none, none, none], v.toList ++ [], N)) := fun k => rfl
  have g := zm_app_s (C := (1, none, true, [], zF_X9_isMinute)) (wl := zW_X) (as := [.int l2]) (M := (I, J)) (k := fun v N => zm_V zT_X9_beside zW_X (15, [some (.ref 0), some (.int l1), some (.int l2), none, none, none, none, none], v.toList ++ [], N)) rfl rfl hF
  exact (zm_V_eq _ _ _).trans ((e _).trans g)
set_option maxRecDepth 20000 in
theorem zq_X9_beside_X_15 (I : Nat → Nat → Int32) (J : Nat → Nat → Int64) (l1 : Int32) (l2 : Int32) (s0 : Int32) : zv_X9_beside_X_15 I J l1 l2 s0 = if s0 = 0 then zv_X9_beside_X_18 I J l1 l2 else zv_X9_beside_X_21 I J l1 l2 := (zm_V_eq _ _ _).trans ((fun (k : zm_S → zm_R) => (rfl : zm_step zT_X9_beside zW_X k (15, [some (.ref 0), some (.int l1), some (.int l2), none, none, none, none, none], [.int s0], (I, J)) = if s0 = 0 then k (18, [some (.ref 0), some (.int l1), some (.int l2), none, none, none, none, none], [], (I, J)) else k (21, [some (.ref 0), some (.int l1), some (.int l2), none, none, none, none, none], [], (I, J)))) (zm_V zT_X9_beside zW_X))
set_option maxRecDepth 20000 in
theorem zq_X9_beside_X_18 (I : Nat → Nat → Int32) (J : Nat → Nat → Int64) (l1 : Int32) (l2 : Int32) : zv_X9_beside_X_18 I J l1 l2 = some (some (.int (-2)), (I, J)) := (zm_V_eq _ _ _).trans ((fun (k : zm_S → zm_R) => (rfl : zm_step zT_X9_beside zW_X k (18, [some (.ref 0), some (.int l1), some (.int l2), none, none, none, none, none], [], (I, J)) = some (some (.int (-2)), (I, J)))) (zm_V zT_X9_beside zW_X))
set_option maxRecDepth 20000 in
theorem zc_X9_beside_X_21 (I : Nat → Nat → Int32) (J : Nat → Nat → Int64) (l1 : Int32) (l2 : Int32) {I2 : Nat → Nat → Int32} {J2 : Nat → Nat → Int64} (hF : zF_X9_livedToday zW_X [.ref 0] (I, J) = some (some (.ref 21), (I2, J2))) : zv_X9_beside_X_21 I J l1 l2 = zv_X9_beside_X_25 I2 J2 l1 l2 := by
  have e : ∀ k : zm_S → zm_R, zm_step zT_X9_beside zW_X k (21, [some (.ref 0), some (.int l1), some (.int l2), none, none, none, none, none], [], (I, J)) = zm_app (1, some 9, true, [], zF_X9_livedToday) zW_X [.ref 0] (I, J) (fun v N => k (25, [some (.ref 0), some (.int l1), some (.int l2), none, none, none, none, none], v.toList ++ [], N)) := fun k => rfl
  have g := zm_app_s (C := (1, some 9, true, [], zF_X9_livedToday)) (wl := zW_X) (as := [.ref 0]) (M := (I, J)) (k := fun v N => zm_V zT_X9_beside zW_X (25, [some (.ref 0), some (.int l1), some (.int l2), none, none, none, none, none], v.toList ++ [], N)) rfl rfl hF
  exact (zm_V_eq _ _ _).trans ((e _).trans g)
set_option maxRecDepth 20000 in
theorem zc_X9_beside_X_25 (I : Nat → Nat → Int32) (J : Nat → Nat → Int64) (l1 : Int32) (l2 : Int32) {N : zm_I} {r : Int32} (hF : zF_X3_seatAt zW_Y [.ref 0, .int l1, .int l2] (zm_sub2 [(21, 11)] (I, J)) = some (some (.int r), N)) : zv_X9_beside_X_25 I J l1 l2 = zv_X9_beside_X_32 (zm_mrg [(21, 11)] (I, J) N).1 (zm_mrg [(21, 11)] (I, J) N).2 l1 l2 r := by
  have e : ∀ k : zm_S → zm_R, zm_step zT_X9_beside zW_X k (25, [some (.ref 0), some (.int l1), some (.int l2), none, none, none, none, none], [.ref 21], (I, J)) = zm_app (3, some 3, false, [(0, 11)], zF_X3_seatAt) zW_X [.ref 21, .int l1, .int l2] (I, J) (fun v N => k (32, [some (.ref 0), some (.int l1), some (.int l2), some (.ref 21), none, none, none, none], v.toList ++ [], N)) := fun k => rfl
  have g := zm_app_l (C := (3, some 3, false, [(0, 11)], zF_X3_seatAt)) (wl := zW_X) (as := [.ref 21, .int l1, .int l2]) (wc := zW_Y) (ac := [.ref 0, .int l1, .int l2]) (bs := [(21, 11)]) (M := (I, J)) (k := fun v N => zm_V zT_X9_beside zW_X (32, [some (.ref 0), some (.int l1), some (.int l2), some (.ref 21), none, none, none, none], v.toList ++ [], N)) rfl rfl rfl rfl rfl rfl hF
  exact (zm_V_eq _ _ _).trans ((e _).trans g)
set_option maxRecDepth 20000 in
theorem zq_X9_beside_X_32 (I : Nat → Nat → Int32) (J : Nat → Nat → Int64) (l1 : Int32) (l2 : Int32) (s0 : Int32) : zv_X9_beside_X_32 I J l1 l2 s0 = zv_X9_beside_X_40 I J l1 l2 s0 0 0 none := (zm_V_eq _ _ _).trans ((fun (k : zm_S → zm_R) => (rfl : zm_step zT_X9_beside zW_X k (32, [some (.ref 0), some (.int l1), some (.int l2), some (.ref 21), none, none, none, none], [.int s0], (I, J)) = k (40, [some (.ref 0), some (.int l1), some (.int l2), some (.ref 21), some (.int s0), some (.int 0), some (.int 0), none], [], (I, J)))) (zm_V zT_X9_beside zW_X))
set_option maxRecDepth 20000 in
theorem zq_X9_beside_X_40 (I : Nat → Nat → Int32) (J : Nat → Nat → Int64) (l1 : Int32) (l2 : Int32) (l4 : Int32) (l5 : Int32) (l6 : Int32) (l7 : Option Value) : zv_X9_beside_X_40 I J l1 l2 l4 l5 l6 l7 = if l4 = (-1) then zv_X9_beside_X_100 I J l1 l2 l4 l5 l6 l7 else zv_X9_beside_X_46 I J l1 l2 l4 l5 l6 l7 := (zm_V_eq _ _ _).trans ((fun (k : zm_S → zm_R) => (rfl : zm_step zT_X9_beside zW_X k (40, [some (.ref 0), some (.int l1), some (.int l2), some (.ref 21), some (.int l4), some (.int l5), some (.int l6), l7], [], (I, J)) = if l4 = (-1) then k (100, [some (.ref 0), some (.int l1), some (.int l2), some (.ref 21), some (.int l4), some (.int l5), some (.int l6), l7], [], (I, J)) else k (46, [some (.ref 0), some (.int l1), some (.int l2), some (.ref 21), some (.int l4), some (.int l5), some (.int l6), l7], [], (I, J)))) (zm_V zT_X9_beside zW_X))
set_option maxRecDepth 20000 in
theorem zq_X9_beside_X_46 (I : Nat → Nat → Int32) (J : Nat → Nat → Int64) (l1 : Int32) (l2 : Int32) (l4 : Int32) (l5 : Int32) (l6 : Int32) (l7 : Option Value) : zv_X9_beside_X_46 I J l1 l2 l4 l5 l6 l7 = if (I 1 6) ≤ l6 then zv_X9_beside_X_100 I J l1 l2 l4 l5 l6 l7 else zv_X9_beside_X_58 I J l1 l2 l4 l5 l6 l7 := (zm_V_eq _ _ _).trans ((fun (k : zm_S → zm_R) => (rfl : zm_step zT_X9_beside zW_X k (46, [some (.ref 0), some (.int l1), some (.int l2), some (.ref 21), some (.int l4), some (.int l5), some (.int l6), l7], [], (I, J)) = if (I 1 6) ≤ l6 then k (100, [some (.ref 0), some (.int l1), some (.int l2), some (.ref 21), some (.int l4), some (.int l5), some (.int l6), l7], [], (I, J)) else k (58, [some (.ref 0), some (.int l1), some (.int l2), some (.ref 21), some (.int l4), some (.int l5), some (.int l6), l7], [], (I, J)))) (zm_V zT_X9_beside zW_X))
set_option maxRecDepth 20000 in
theorem zc_X9_beside_X_58 (I : Nat → Nat → Int32) (J : Nat → Nat → Int64) (l1 : Int32) (l2 : Int32) (l4 : Int32) (l5 : Int32) (l6 : Int32) (l7 : Option Value) {N : zm_I} {r : Int32} (hF : zF_X3_seatAt zW_Y [.ref 0, .int l6, .int l2] (zm_sub2 [(21, 11)] (I, J)) = some (some (.int r), N)) : zv_X9_beside_X_58 I J l1 l2 l4 l5 l6 l7 = zv_X9_beside_X_65 (zm_mrg [(21, 11)] (I, J) N).1 (zm_mrg [(21, 11)] (I, J) N).2 l1 l2 l4 l5 l6 (l7) r := by
  have e : ∀ k : zm_S → zm_R, zm_step zT_X9_beside zW_X k (58, [some (.ref 0), some (.int l1), some (.int l2), some (.ref 21), some (.int l4), some (.int l5), some (.int l6), l7], [], (I, J)) = zm_app (3, some 3, false, [(0, 11)], zF_X3_seatAt) zW_X [.ref 21, .int l6, .int l2] (I, J) (fun v N => k (65, [some (.ref 0), some (.int l1), some (.int l2), some (.ref 21), some (.int l4), some (.int l5), some (.int l6), l7], v.toList ++ [], N)) := fun k => rfl
  have g := zm_app_l (C := (3, some 3, false, [(0, 11)], zF_X3_seatAt)) (wl := zW_X) (as := [.ref 21, .int l6, .int l2]) (wc := zW_Y) (ac := [.ref 0, .int l6, .int l2]) (bs := [(21, 11)]) (M := (I, J)) (k := fun v N => zm_V zT_X9_beside zW_X (65, [some (.ref 0), some (.int l1), some (.int l2), some (.ref 21), some (.int l4), some (.int l5), some (.int l6), l7], v.toList ++ [], N)) rfl rfl rfl rfl rfl rfl hF
  exact (zm_V_eq _ _ _).trans ((e _).trans g)
set_option maxRecDepth 20000 in
theorem zq_X9_beside_X_65 (I : Nat → Nat → Int32) (J : Nat → Nat → Int64) (l1 : Int32) (l2 : Int32) (l4 : Int32) (l5 : Int32) (l6 : Int32) (l7 : Option Value) (s0 : Int32) : zv_X9_beside_X_65 I J l1 l2 l4 l5 l6 l7 s0 = if s0 = (-1) then zv_X9_beside_X_94 I J l1 l2 l4 l5 l6 s0 else zv_X9_beside_X_73 I J l1 l2 l4 l5 l6 s0 := (zm_V_eq _ _ _).trans ((fun (k : zm_S → zm_R) => (rfl : zm_step zT_X9_beside zW_X k (65, [some (.ref 0), some (.int l1), some (.int l2), some (.ref 21), some (.int l4), some (.int l5), some (.int l6), l7], [.int s0], (I, J)) = if s0 = (-1) then k (94, [some (.ref 0), some (.int l1), some (.int l2), some (.ref 21), some (.int l4), some (.int l5), some (.int l6), some (.int s0)], [], (I, J)) else k (73, [some (.ref 0), some (.int l1), some (.int l2), some (.ref 21), some (.int l4), some (.int l5), some (.int l6), some (.int s0)], [], (I, J)))) (zm_V zT_X9_beside zW_X))
set_option maxRecDepth 20000 in
theorem zq_X9_beside_X_73 (I : Nat → Nat → Int32) (J : Nat → Nat → Int64) (l1 : Int32) (l2 : Int32) (l4 : Int32) (l5 : Int32) (l6 : Int32) (l7 : Int32) : zv_X9_beside_X_73 I J l1 l2 l4 l5 l6 l7 = if (if 0 ≤ (l7 - l4) then (l7 - l4) else 0 - (l7 - l4)) = 1 then zv_X9_beside_X_85 I J l1 l2 l4 l5 l6 l7 else zv_X9_beside_X_94 I J l1 l2 l4 l5 l6 l7 := (zm_V_eq _ _ _).trans ((fun (k : zm_S → zm_R) => (rfl : zm_step zT_X9_beside zW_X k (73, [some (.ref 0), some (.int l1), some (.int l2), some (.ref 21), some (.int l4), some (.int l5), some (.int l6), some (.int l7)], [], (I, J)) = if (if 0 ≤ (l7 - l4) then (l7 - l4) else 0 - (l7 - l4)) = 1 then k (85, [some (.ref 0), some (.int l1), some (.int l2), some (.ref 21), some (.int l4), some (.int l5), some (.int l6), some (.int l7)], [], (I, J)) else k (94, [some (.ref 0), some (.int l1), some (.int l2), some (.ref 21), some (.int l4), some (.int l5), some (.int l6), some (.int l7)], [], (I, J)))) (zm_V zT_X9_beside zW_X))
set_option maxRecDepth 20000 in
theorem zq_X9_beside_X_85 (I : Nat → Nat → Int32) (J : Nat → Nat → Int64) (l1 : Int32) (l2 : Int32) (l4 : Int32) (l5 : Int32) (l6 : Int32) (l7 : Int32) : zv_X9_beside_X_85 I J l1 l2 l4 l5 l6 l7 = zv_X9_beside_X_94 I J l1 l2 l4 (l5 ||| (1 <<< (l6 &&& 31))) l6 l7 := (zm_V_eq _ _ _).trans ((fun (k : zm_S → zm_R) => (rfl : zm_step zT_X9_beside zW_X k (85, [some (.ref 0), some (.int l1), some (.int l2), some (.ref 21), some (.int l4), some (.int l5), some (.int l6), some (.int l7)], [], (I, J)) = k (94, [some (.ref 0), some (.int l1), some (.int l2), some (.ref 21), some (.int l4), some (.int (l5 ||| (1 <<< (l6 &&& 31)))), some (.int l6), some (.int l7)], [], (I, J)))) (zm_V zT_X9_beside zW_X))
set_option maxRecDepth 20000 in
theorem zq_X9_beside_X_94 (I : Nat → Nat → Int32) (J : Nat → Nat → Int64) (l1 : Int32) (l2 : Int32) (l4 : Int32) (l5 : Int32) (l6 : Int32) (l7 : Int32) : zv_X9_beside_X_94 I J l1 l2 l4 l5 l6 l7 = zv_X9_beside_X_40 I J l1 l2 l4 l5 (l6 + 1) (some (.int l7)) := (zm_V_eq _ _ _).trans ((fun (k : zm_S → zm_R) => (rfl : zm_step zT_X9_beside zW_X k (94, [some (.ref 0), some (.int l1), some (.int l2), some (.ref 21), some (.int l4), some (.int l5), some (.int l6), some (.int l7)], [], (I, J)) = k (40, [some (.ref 0), some (.int l1), some (.int l2), some (.ref 21), some (.int l4), some (.int l5), some (.int (l6 + 1)), some (.int l7)], [], (I, J)))) (zm_V zT_X9_beside zW_X))
set_option maxRecDepth 20000 in
theorem zq_X9_beside_X_100 (I : Nat → Nat → Int32) (J : Nat → Nat → Int64) (l1 : Int32) (l2 : Int32) (l4 : Int32) (l5 : Int32) (l6 : Int32) (l7 : Option Value) : zv_X9_beside_X_100 I J l1 l2 l4 l5 l6 l7 = some (some (.int l5), (I, J)) := (zm_V_eq _ _ _).trans ((fun (k : zm_S → zm_R) => (rfl : zm_step zT_X9_beside zW_X k (100, [some (.ref 0), some (.int l1), some (.int l2), some (.ref 21), some (.int l4), some (.int l5), some (.int l6), l7], [], (I, J)) = some (some (.int l5), (I, J)))) (zm_V zT_X9_beside zW_X))
theorem zf_X9_beside_X (I : Nat → Nat → Int32) (J : Nat → Nat → Int64) (l1 : Int32) (l2 : Int32) : zF_X9_beside zW_X [.ref 0, .int l1, .int l2] (I, J) = zv_X9_beside_X_0 I J l1 l2 := rfl
noncomputable def zv_X10_beside_M_0 (I : Nat → Nat → Int32) (J : Nat → Nat → Int64) (l1 : Int32) (l2 : Int32) : zm_R := zm_V zT_X10_beside zW_M (0, [some (.ref 0), some (.int l1), some (.int l2), none, none, none, none], [], (I, J))
noncomputable def zv_X10_beside_M_11 (I : Nat → Nat → Int32) (J : Nat → Nat → Int64) (l1 : Int32) (l2 : Int32) (s0 : Int32) : zm_R := zm_V zT_X10_beside zW_M (11, [some (.ref 0), some (.int l1), some (.int l2), none, none, none, none], [.int s0], (I, J))
noncomputable def zv_X10_beside_M_14 (I : Nat → Nat → Int32) (J : Nat → Nat → Int64) (l1 : Int32) (l2 : Int32) : zm_R := zm_V zT_X10_beside zW_M (14, [some (.ref 0), some (.int l1), some (.int l2), none, none, none, none], [], (I, J))
noncomputable def zv_X10_beside_M_18 (I : Nat → Nat → Int32) (J : Nat → Nat → Int64) (l1 : Int32) (l2 : Int32) (s0 : Int32) : zm_R := zm_V zT_X10_beside zW_M (18, [some (.ref 0), some (.int l1), some (.int l2), none, none, none, none], [.int s0], (I, J))
noncomputable def zv_X10_beside_M_21 (I : Nat → Nat → Int32) (J : Nat → Nat → Int64) (l1 : Int32) (l2 : Int32) : zm_R := zm_V zT_X10_beside zW_M (21, [some (.ref 0), some (.int l1), some (.int l2), none, none, none, none], [], (I, J))
noncomputable def zv_X10_beside_M_24 (I : Nat → Nat → Int32) (J : Nat → Nat → Int64) (l1 : Int32) (l2 : Int32) : zm_R := zm_V zT_X10_beside zW_M (24, [some (.ref 0), some (.int l1), some (.int l2), none, none, none, none], [], (I, J))
noncomputable def zv_X10_beside_M_28 (I : Nat → Nat → Int32) (J : Nat → Nat → Int64) (l1 : Int32) (l2 : Int32) : zm_R := zm_V zT_X10_beside zW_M (28, [some (.ref 0), some (.int l1), some (.int l2), none, none, none, none], [], (I, J))
noncomputable def zv_X10_beside_M_46 (I : Nat → Nat → Int32) (J : Nat → Nat → Int64) (l1 : Int32) (l2 : Int32) (l3 : Int32) (l4 : Int32) (l5 : Int32) (l6 : Option Value) : zm_R := zm_V zT_X10_beside zW_M (46, [some (.ref 0), some (.int l1), some (.int l2), some (.int l3), some (.int l4), some (.int l5), l6], [], (I, J))
noncomputable def zv_X10_beside_M_52 (I : Nat → Nat → Int32) (J : Nat → Nat → Int64) (l1 : Int32) (l2 : Int32) (l3 : Int32) (l4 : Int32) (l5 : Int32) (l6 : Option Value) (s0 : Int32) (s1 : Int32) : zm_R := zm_V zT_X10_beside zW_M (52, [some (.ref 0), some (.int l1), some (.int l2), some (.int l3), some (.int l4), some (.int l5), l6], [.int s0, .int s1], (I, J))
noncomputable def zv_X10_beside_M_55 (I : Nat → Nat → Int32) (J : Nat → Nat → Int64) (l1 : Int32) (l2 : Int32) (l3 : Int32) (l4 : Int32) (l5 : Int32) (l6 : Option Value) : zm_R := zm_V zT_X10_beside zW_M (55, [some (.ref 0), some (.int l1), some (.int l2), some (.int l3), some (.int l4), some (.int l5), l6], [], (I, J))
noncomputable def zv_X10_beside_M_76 (I : Nat → Nat → Int32) (J : Nat → Nat → Int64) (l1 : Int32) (l2 : Int32) (l3 : Int32) (l4 : Int32) (l5 : Int32) (l6 : Int32) (s0 : Int32) : zm_R := zm_V zT_X10_beside zW_M (76, [some (.ref 0), some (.int l1), some (.int l2), some (.int l3), some (.int l4), some (.int l5), some (.int l6)], [.int s0], (I, J))
noncomputable def zv_X10_beside_M_82 (I : Nat → Nat → Int32) (J : Nat → Nat → Int64) (l1 : Int32) (l2 : Int32) (l3 : Int32) (l4 : Int32) (l5 : Int32) (l6 : Int32) (s0 : Int32) : zm_R := zm_V zT_X10_beside zW_M (82, [some (.ref 0), some (.int l1), some (.int l2), some (.int l3), some (.int l4), some (.int l5), some (.int l6)], [.int s0], (I, J))
noncomputable def zv_X10_beside_M_90 (I : Nat → Nat → Int32) (J : Nat → Nat → Int64) (l1 : Int32) (l2 : Int32) (l3 : Int32) (l4 : Int32) (l5 : Int32) (l6 : Int32) (s0 : Int32) : zm_R := zm_V zT_X10_beside zW_M (90, [some (.ref 0), some (.int l1), some (.int l2), some (.int l3), some (.int l4), some (.int l5), some (.int l6)], [.int s0], (I, J))
noncomputable def zv_X10_beside_M_98 (I : Nat → Nat → Int32) (J : Nat → Nat → Int64) (l1 : Int32) (l2 : Int32) (l3 : Int32) (l4 : Int32) (l5 : Int32) (l6 : Int32) (s0 : Int32) : zm_R := zm_V zT_X10_beside zW_M (98, [some (.ref 0), some (.int l1), some (.int l2), some (.int l3), some (.int l4), some (.int l5), some (.int l6)], [.int s0], (I, J))
noncomputable def zv_X10_beside_M_105 (I : Nat → Nat → Int32) (J : Nat → Nat → Int64) (l1 : Int32) (l2 : Int32) (l3 : Int32) (l4 : Int32) (l5 : Int32) (l6 : Int32) (s0 : Int32) : zm_R := zm_V zT_X10_beside zW_M (105, [some (.ref 0), some (.int l1), some (.int l2), some (.int l3), some (.int l4), some (.int l5), some (.int l6)], [.int s0], (I, J))
noncomputable def zv_X10_beside_M_106 (I : Nat → Nat → Int32) (J : Nat → Nat → Int64) (l1 : Int32) (l2 : Int32) (l3 : Int32) (l4 : Int32) (l5 : Int32) (l6 : Int32) (s0 : Int32) (s1 : Int32) : zm_R := zm_V zT_X10_beside zW_M (106, [some (.ref 0), some (.int l1), some (.int l2), some (.int l3), some (.int l4), some (.int l5), some (.int l6)], [.int s0, .int s1], (I, J))
noncomputable def zv_X10_beside_M_115 (I : Nat → Nat → Int32) (J : Nat → Nat → Int64) (l1 : Int32) (l2 : Int32) (l3 : Int32) (l4 : Int32) (l5 : Int32) (l6 : Option Value) : zm_R := zm_V zT_X10_beside zW_M (115, [some (.ref 0), some (.int l1), some (.int l2), some (.int l3), some (.int l4), some (.int l5), l6], [], (I, J))
set_option maxRecDepth 20000 in
theorem zc_X10_beside_M_0 (I : Nat → Nat → Int32) (J : Nat → Nat → Int64) (l1 : Int32) (l2 : Int32) {I2 : Nat → Nat → Int32} {J2 : Nat → Nat → Int64} {r : Int32} (hF : zF_X10_isCaller zW_M [.ref 0, .long (Int32.toInt64 l1)] ((zm_w I 0 0 0), J) = some (some (.int r), (I2, J2))) : zv_X10_beside_M_0 I J l1 l2 = zv_X10_beside_M_11 I2 J2 l1 l2 r := by
  have e : ∀ k : zm_S → zm_R, zm_step zT_X10_beside zW_M k (0, [some (.ref 0), some (.int l1), some (.int l2), none, none, none, none], [], (I, J)) = zm_app (2, some 10, true, [], zF_X10_isCaller) zW_M [.ref 0, .long (Int32.toInt64 l1)] ((zm_w I 0 0 0), J) (fun v N => k (11, [some (.ref 0), some (.int l1), some (.int l2), none, none, none, none], v.toList ++ [], N)) := fun k => rfl
  have g := zm_app_s (C := (2, some 10, true, [], zF_X10_isCaller)) (wl := zW_M) (as := [.ref 0, .long (Int32.toInt64 l1)]) (M := ((zm_w I 0 0 0), J)) (k := fun v N => zm_V zT_X10_beside zW_M (11, [some (.ref 0), some (.int l1), some (.int l2), none, none, none, none], v.toList ++ [], N)) rfl rfl hF
  exact (zm_V_eq _ _ _).trans ((e _).trans g)
set_option maxRecDepth 20000 in
theorem zq_X10_beside_M_11 (I : Nat → Nat → Int32) (J : Nat → Nat → Int64) (l1 : Int32) (l2 : Int32) (s0 : Int32) : zv_X10_beside_M_11 I J l1 l2 s0 = if s0 = 0 then zv_X10_beside_M_21 I J l1 l2 else zv_X10_beside_M_14 I J l1 l2 := (zm_V_eq _ _ _).trans ((fun (k : zm_S → zm_R) => (rfl : zm_step zT_X10_beside zW_M k (11, [some (.ref 0), some (.int l1), some (.int l2), none, none, none, none], [.int s0], (I, J)) = if s0 = 0 then k (21, [some (.ref 0), some (.int l1), some (.int l2), none, none, none, none], [], (I, J)) else k (14, [some (.ref 0), some (.int l1), some (.int l2), none, none, none, none], [], (I, J)))) (zm_V zT_X10_beside zW_M))
set_option maxRecDepth 20000 in
theorem zc_X10_beside_M_14 (I : Nat → Nat → Int32) (J : Nat → Nat → Int64) (l1 : Int32) (l2 : Int32) {I2 : Nat → Nat → Int32} {J2 : Nat → Nat → Int64} {r : Int32} (hF : zF_X10_isMinute zW_M [.int l2] (I, J) = some (some (.int r), (I2, J2))) : zv_X10_beside_M_14 I J l1 l2 = zv_X10_beside_M_18 I2 J2 l1 l2 r := by
  have e : ∀ k : zm_S → zm_R, zm_step zT_X10_beside zW_M k (14, [some (.ref 0), some (.int l1), some (.int l2), none, none, none, none], [], (I, J)) = zm_app (1, none, true, [], zF_X10_isMinute) zW_M [.int l2] (I, J) (fun v N => k (18, [some (.ref 0), some (.int l1), some (.int l2), none, none, none, none], v.toList ++ [], N)) := fun k => rfl
  have g := zm_app_s (C := (1, none, true, [], zF_X10_isMinute)) (wl := zW_M) (as := [.int l2]) (M := (I, J)) (k := fun v N => zm_V zT_X10_beside zW_M (18, [some (.ref 0), some (.int l1), some (.int l2), none, none, none, none], v.toList ++ [], N)) rfl rfl hF
  exact (zm_V_eq _ _ _).trans ((e _).trans g)
set_option maxRecDepth 20000 in
theorem zq_X10_beside_M_18 (I : Nat → Nat → Int32) (J : Nat → Nat → Int64) (l1 : Int32) (l2 : Int32) (s0 : Int32) : zv_X10_beside_M_18 I J l1 l2 s0 = if s0 = 0 then zv_X10_beside_M_21 I J l1 l2 else zv_X10_beside_M_24 I J l1 l2 := (zm_V_eq _ _ _).trans ((fun (k : zm_S → zm_R) => (rfl : zm_step zT_X10_beside zW_M k (18, [some (.ref 0), some (.int l1), some (.int l2), none, none, none, none], [.int s0], (I, J)) = if s0 = 0 then k (21, [some (.ref 0), some (.int l1), some (.int l2), none, none, none, none], [], (I, J)) else k (24, [some (.ref 0), some (.int l1), some (.int l2), none, none, none, none], [], (I, J)))) (zm_V zT_X10_beside zW_M))
set_option maxRecDepth 20000 in
theorem zq_X10_beside_M_21 (I : Nat → Nat → Int32) (J : Nat → Nat → Int64) (l1 : Int32) (l2 : Int32) : zv_X10_beside_M_21 I J l1 l2 = some (some (.int (-2)), (I, J)) := (zm_V_eq _ _ _).trans ((fun (k : zm_S → zm_R) => (rfl : zm_step zT_X10_beside zW_M k (21, [some (.ref 0), some (.int l1), some (.int l2), none, none, none, none], [], (I, J)) = some (some (.int (-2)), (I, J)))) (zm_V zT_X10_beside zW_M))
set_option maxRecDepth 20000 in
theorem zc_X10_beside_M_24 (I : Nat → Nat → Int32) (J : Nat → Nat → Int64) (l1 : Int32) (l2 : Int32) {I2 : Nat → Nat → Int32} {J2 : Nat → Nat → Int64} (hF : zF_X10_laysNow zW_M [.ref 0] (I, J) = some (none, (I2, J2))) : zv_X10_beside_M_24 I J l1 l2 = zv_X10_beside_M_28 I2 J2 l1 l2 := by
  have e : ∀ k : zm_S → zm_R, zm_step zT_X10_beside zW_M k (24, [some (.ref 0), some (.int l1), some (.int l2), none, none, none, none], [], (I, J)) = zm_app (1, some 10, true, [], zF_X10_laysNow) zW_M [.ref 0] (I, J) (fun v N => k (28, [some (.ref 0), some (.int l1), some (.int l2), none, none, none, none], v.toList ++ [], N)) := fun k => rfl
  have g := zm_app_s (C := (1, some 10, true, [], zF_X10_laysNow)) (wl := zW_M) (as := [.ref 0]) (M := (I, J)) (k := fun v N => zm_V zT_X10_beside zW_M (28, [some (.ref 0), some (.int l1), some (.int l2), none, none, none, none], v.toList ++ [], N)) rfl rfl hF
  exact (zm_V_eq _ _ _).trans ((e _).trans g)
set_option maxRecDepth 20000 in
theorem zq_X10_beside_M_28 (I : Nat → Nat → Int32) (J : Nat → Nat → Int64) (l1 : Int32) (l2 : Int32) : zv_X10_beside_M_28 I J l1 l2 = if (((61 * l1) + l2) : Int32) < 0 ∨ 305 ≤ Int32.toNatClampNeg ((61 * l1) + l2) then none else zv_X10_beside_M_46 I J l1 l2 (I 17 (Int32.toNatClampNeg ((61 * l1) + l2))) 0 0 none := (zm_V_eq _ _ _).trans ((fun (k : zm_S → zm_R) => (rfl : zm_step zT_X10_beside zW_M k (28, [some (.ref 0), some (.int l1), some (.int l2), none, none, none, none], [], (I, J)) = if (((61 * l1) + l2) : Int32) < 0 ∨ 305 ≤ Int32.toNatClampNeg ((61 * l1) + l2) then none else k (46, [some (.ref 0), some (.int l1), some (.int l2), some (.int (I 17 (Int32.toNatClampNeg ((61 * l1) + l2)))), some (.int 0), some (.int 0), none], [], (I, J)))) (zm_V zT_X10_beside zW_M))
set_option maxRecDepth 20000 in
theorem zc_X10_beside_M_46 (I : Nat → Nat → Int32) (J : Nat → Nat → Int64) (l1 : Int32) (l2 : Int32) (l3 : Int32) (l4 : Int32) (l5 : Int32) (l6 : Option Value) {I2 : Nat → Nat → Int32} {J2 : Nat → Nat → Int64} {r : Int32} (hF : zF_X10_callers zW_M [.ref 0] (I, J) = some (some (.int r), (I2, J2))) : zv_X10_beside_M_46 I J l1 l2 l3 l4 l5 l6 = zv_X10_beside_M_52 I2 J2 l1 l2 l3 l4 l5 (l6) r l5 := by
  have e : ∀ k : zm_S → zm_R, zm_step zT_X10_beside zW_M k (46, [some (.ref 0), some (.int l1), some (.int l2), some (.int l3), some (.int l4), some (.int l5), l6], [], (I, J)) = zm_app (1, some 10, true, [], zF_X10_callers) zW_M [.ref 0] (I, J) (fun v N => k (52, [some (.ref 0), some (.int l1), some (.int l2), some (.int l3), some (.int l4), some (.int l5), l6], v.toList ++ [.int l5], N)) := fun k => rfl
  have g := zm_app_s (C := (1, some 10, true, [], zF_X10_callers)) (wl := zW_M) (as := [.ref 0]) (M := (I, J)) (k := fun v N => zm_V zT_X10_beside zW_M (52, [some (.ref 0), some (.int l1), some (.int l2), some (.int l3), some (.int l4), some (.int l5), l6], v.toList ++ [.int l5], N)) rfl rfl hF
  exact (zm_V_eq _ _ _).trans ((e _).trans g)
set_option maxRecDepth 20000 in
theorem zq_X10_beside_M_52 (I : Nat → Nat → Int32) (J : Nat → Nat → Int64) (l1 : Int32) (l2 : Int32) (l3 : Int32) (l4 : Int32) (l5 : Int32) (l6 : Option Value) (s0 : Int32) (s1 : Int32) : zv_X10_beside_M_52 I J l1 l2 l3 l4 l5 l6 s0 s1 = if s0 ≤ s1 then zv_X10_beside_M_115 I J l1 l2 l3 l4 l5 l6 else zv_X10_beside_M_55 I J l1 l2 l3 l4 l5 l6 := (zm_V_eq _ _ _).trans ((fun (k : zm_S → zm_R) => (rfl : zm_step zT_X10_beside zW_M k (52, [some (.ref 0), some (.int l1), some (.int l2), some (.int l3), some (.int l4), some (.int l5), l6], [.int s0, .int s1], (I, J)) = if s0 ≤ s1 then k (115, [some (.ref 0), some (.int l1), some (.int l2), some (.int l3), some (.int l4), some (.int l5), l6], [], (I, J)) else k (55, [some (.ref 0), some (.int l1), some (.int l2), some (.int l3), some (.int l4), some (.int l5), l6], [], (I, J)))) (zm_V zT_X10_beside zW_M))
set_option maxRecDepth 20000 in
theorem zq_X10_beside_M_55 (I : Nat → Nat → Int32) (J : Nat → Nat → Int64) (l1 : Int32) (l2 : Int32) (l3 : Int32) (l4 : Int32) (l5 : Int32) (l6 : Option Value) : zv_X10_beside_M_55 I J l1 l2 l3 l4 l5 l6 = if (((61 * l5) + l2) : Int32) < 0 ∨ 305 ≤ Int32.toNatClampNeg ((61 * l5) + l2) then none else if l3 = (-1) then zv_X10_beside_M_105 I J l1 l2 l3 l4 l5 (I 17 (Int32.toNatClampNeg ((61 * l5) + l2))) l4 else zv_X10_beside_M_76 I J l1 l2 l3 l4 l5 (I 17 (Int32.toNatClampNeg ((61 * l5) + l2))) l4 := (zm_V_eq _ _ _).trans ((fun (k : zm_S → zm_R) => (rfl : zm_step zT_X10_beside zW_M k (55, [some (.ref 0), some (.int l1), some (.int l2), some (.int l3), some (.int l4), some (.int l5), l6], [], (I, J)) = if (((61 * l5) + l2) : Int32) < 0 ∨ 305 ≤ Int32.toNatClampNeg ((61 * l5) + l2) then none else if l3 = (-1) then k (105, [some (.ref 0), some (.int l1), some (.int l2), some (.int l3), some (.int l4), some (.int l5), some (.int (I 17 (Int32.toNatClampNeg ((61 * l5) + l2))))], [.int l4], (I, J)) else k (76, [some (.ref 0), some (.int l1), some (.int l2), some (.int l3), some (.int l4), some (.int l5), some (.int (I 17 (Int32.toNatClampNeg ((61 * l5) + l2))))], [.int l4], (I, J)))) (zm_V zT_X10_beside zW_M))
set_option maxRecDepth 20000 in
theorem zq_X10_beside_M_76 (I : Nat → Nat → Int32) (J : Nat → Nat → Int64) (l1 : Int32) (l2 : Int32) (l3 : Int32) (l4 : Int32) (l5 : Int32) (l6 : Int32) (s0 : Int32) : zv_X10_beside_M_76 I J l1 l2 l3 l4 l5 l6 s0 = if l6 = (-1) then zv_X10_beside_M_105 I J l1 l2 l3 l4 l5 l6 s0 else zv_X10_beside_M_82 I J l1 l2 l3 l4 l5 l6 s0 := (zm_V_eq _ _ _).trans ((fun (k : zm_S → zm_R) => (rfl : zm_step zT_X10_beside zW_M k (76, [some (.ref 0), some (.int l1), some (.int l2), some (.int l3), some (.int l4), some (.int l5), some (.int l6)], [.int s0], (I, J)) = if l6 = (-1) then k (105, [some (.ref 0), some (.int l1), some (.int l2), some (.int l3), some (.int l4), some (.int l5), some (.int l6)], [.int s0], (I, J)) else k (82, [some (.ref 0), some (.int l1), some (.int l2), some (.int l3), some (.int l4), some (.int l5), some (.int l6)], [.int s0], (I, J)))) (zm_V zT_X10_beside zW_M))
set_option maxRecDepth 20000 in
theorem zq_X10_beside_M_82 (I : Nat → Nat → Int32) (J : Nat → Nat → Int64) (l1 : Int32) (l2 : Int32) (l3 : Int32) (l4 : Int32) (l5 : Int32) (l6 : Int32) (s0 : Int32) : zv_X10_beside_M_82 I J l1 l2 l3 l4 l5 l6 s0 = if l6 = (l3 - 1) then zv_X10_beside_M_98 I J l1 l2 l3 l4 l5 l6 s0 else zv_X10_beside_M_90 I J l1 l2 l3 l4 l5 l6 s0 := (zm_V_eq _ _ _).trans ((fun (k : zm_S → zm_R) => (rfl : zm_step zT_X10_beside zW_M k (82, [some (.ref 0), some (.int l1), some (.int l2), some (.int l3), some (.int l4), some (.int l5), some (.int l6)], [.int s0], (I, J)) = if l6 = (l3 - 1) then k (98, [some (.ref 0), some (.int l1), some (.int l2), some (.int l3), some (.int l4), some (.int l5), some (.int l6)], [.int s0], (I, J)) else k (90, [some (.ref 0), some (.int l1), some (.int l2), some (.int l3), some (.int l4), some (.int l5), some (.int l6)], [.int s0], (I, J)))) (zm_V zT_X10_beside zW_M))
set_option maxRecDepth 20000 in
theorem zq_X10_beside_M_90 (I : Nat → Nat → Int32) (J : Nat → Nat → Int64) (l1 : Int32) (l2 : Int32) (l3 : Int32) (l4 : Int32) (l5 : Int32) (l6 : Int32) (s0 : Int32) : zv_X10_beside_M_90 I J l1 l2 l3 l4 l5 l6 s0 = if l6 = (l3 + 1) then zv_X10_beside_M_98 I J l1 l2 l3 l4 l5 l6 s0 else zv_X10_beside_M_105 I J l1 l2 l3 l4 l5 l6 s0 := (zm_V_eq _ _ _).trans ((fun (k : zm_S → zm_R) => (rfl : zm_step zT_X10_beside zW_M k (90, [some (.ref 0), some (.int l1), some (.int l2), some (.int l3), some (.int l4), some (.int l5), some (.int l6)], [.int s0], (I, J)) = if l6 = (l3 + 1) then k (98, [some (.ref 0), some (.int l1), some (.int l2), some (.int l3), some (.int l4), some (.int l5), some (.int l6)], [.int s0], (I, J)) else k (105, [some (.ref 0), some (.int l1), some (.int l2), some (.int l3), some (.int l4), some (.int l5), some (.int l6)], [.int s0], (I, J)))) (zm_V zT_X10_beside zW_M))
set_option maxRecDepth 20000 in
theorem zq_X10_beside_M_98 (I : Nat → Nat → Int32) (J : Nat → Nat → Int64) (l1 : Int32) (l2 : Int32) (l3 : Int32) (l4 : Int32) (l5 : Int32) (l6 : Int32) (s0 : Int32) : zv_X10_beside_M_98 I J l1 l2 l3 l4 l5 l6 s0 = zv_X10_beside_M_106 I J l1 l2 l3 l4 l5 l6 (1 <<< (l5 &&& 31)) s0 := (zm_V_eq _ _ _).trans ((fun (k : zm_S → zm_R) => (rfl : zm_step zT_X10_beside zW_M k (98, [some (.ref 0), some (.int l1), some (.int l2), some (.int l3), some (.int l4), some (.int l5), some (.int l6)], [.int s0], (I, J)) = k (106, [some (.ref 0), some (.int l1), some (.int l2), some (.int l3), some (.int l4), some (.int l5), some (.int l6)], [.int (1 <<< (l5 &&& 31)), .int s0], (I, J)))) (zm_V zT_X10_beside zW_M))
set_option maxRecDepth 20000 in
theorem zq_X10_beside_M_105 (I : Nat → Nat → Int32) (J : Nat → Nat → Int64) (l1 : Int32) (l2 : Int32) (l3 : Int32) (l4 : Int32) (l5 : Int32) (l6 : Int32) (s0 : Int32) : zv_X10_beside_M_105 I J l1 l2 l3 l4 l5 l6 s0 = zv_X10_beside_M_106 I J l1 l2 l3 l4 l5 l6 0 s0 := (zm_V_eq _ _ _).trans ((fun (k : zm_S → zm_R) => (rfl : zm_step zT_X10_beside zW_M k (105, [some (.ref 0), some (.int l1), some (.int l2), some (.int l3), some (.int l4), some (.int l5), some (.int l6)], [.int s0], (I, J)) = k (106, [some (.ref 0), some (.int l1), some (.int l2), some (.int l3), some (.int l4), some (.int l5), some (.int l6)], [.int 0, .int s0], (I, J)))) (zm_V zT_X10_beside zW_M))
set_option maxRecDepth 20000 in
theorem zq_X10_beside_M_106 (I : Nat → Nat → Int32) (J : Nat → Nat → Int64) (l1 : Int32) (l2 : Int32) (l3 : Int32) (l4 : Int32) (l5 : Int32) (l6 : Int32) (s0 : Int32) (s1 : Int32) : zv_X10_beside_M_106 I J l1 l2 l3 l4 l5 l6 s0 s1 = zv_X10_beside_M_46 I J l1 l2 l3 (s1 ||| s0) (l5 + 1) (some (.int l6)) := (zm_V_eq _ _ _).trans ((fun (k : zm_S → zm_R) => (rfl : zm_step zT_X10_beside zW_M k (106, [some (.ref 0), some (.int l1), some (.int l2), some (.int l3), some (.int l4), some (.int l5), some (.int l6)], [.int s0, .int s1], (I, J)) = k (46, [some (.ref 0), some (.int l1), some (.int l2), some (.int l3), some (.int (s1 ||| s0)), some (.int (l5 + 1)), some (.int l6)], [], (I, J)))) (zm_V zT_X10_beside zW_M))
set_option maxRecDepth 20000 in
theorem zq_X10_beside_M_115 (I : Nat → Nat → Int32) (J : Nat → Nat → Int64) (l1 : Int32) (l2 : Int32) (l3 : Int32) (l4 : Int32) (l5 : Int32) (l6 : Option Value) : zv_X10_beside_M_115 I J l1 l2 l3 l4 l5 l6 = some (some (.int l4), (I, J)) := (zm_V_eq _ _ _).trans ((fun (k : zm_S → zm_R) => (rfl : zm_step zT_X10_beside zW_M k (115, [some (.ref 0), some (.int l1), some (.int l2), some (.int l3), some (.int l4), some (.int l5), l6], [], (I, J)) = some (some (.int l4), (I, J)))) (zm_V zT_X10_beside zW_M))
theorem zf_X10_beside_M (I : Nat → Nat → Int32) (J : Nat → Nat → Int64) (l1 : Int32) (l2 : Int32) : zF_X10_beside zW_M [.ref 0, .int l1, .int l2] (I, J) = zv_X10_beside_M_0 I J l1 l2 := rfl
end
section
/-! THE DAY'S ANSWERS: next -/
section ZZ7
variable {X I : Nat → Nat → Int32} {Q J : Nat → Nat → Int64}
theorem zZ_neL {N : zm_I} {N' : Nat → Nat → Int32} {K' : Nat → Nat → Int64} {C m : Nat} (hC : C ≤ 5) (hm : m < 61) (e1 : N.1 1 6 = Int32.ofNat C) (e2 : N' 7 5 = Int32.ofNat C) (ew : ∀ c, c < C → (N.1 30 (5 * m + c) = -1 ↔ N' 16 (61 * c + m) = -1)) (ec : ∀ c, c < C → N.1 4 c = N' 14 c) : ∀ d k (l : Int32), k + d = C → (l = -1 ∨ ∃ b : Nat, b < k ∧ l = Int32.ofNat b) → ∃ r, zv_X9_next_X_27 N.1 N.2 (Int32.ofNat m) l (Int32.ofNat k) = some (some (.int r), N) ∧ zv_X10_next__M_24 N' K' (Int32.ofNat m) l (Int32.ofNat k) = some (some (.int r), (N', K'))
  | 0, k, l, h, _ => ⟨l, by rw [zq_X9_next_X_27, e1, if_pos ((zp_le (by omega) (by omega)).mpr (by omega)), zq_X9_next_X_85], by rw [zc_X10_next__M_24 _ _ _ _ _ zdm_callers, zq_X10_next__M_29, e2, if_pos ((zp_le (by omega) (by omega)).mpr (by omega)), zq_X10_next__M_75]⟩
  | d + 1, k, l, h, hl => by
    have n1 : ¬ (Int32.ofNat C : Int32) ≤ Int32.ofNat k := fun z => by
      have := (zp_le (by omega) (by omega)).mp z
      omega
    have w2 := ew k (by omega)
    have f0 : zv_X9_next_X_27 N.1 N.2 (Int32.ofNat m) l (Int32.ofNat k) = if (if N.1 30 (5 * m + k) = -1 then (0 : Int32) else 1) = 0 then zv_X9_next_X_79 N.1 N.2 (Int32.ofNat m) l (Int32.ofNat k) else zv_X9_next_X_49 N.1 N.2 (Int32.ofNat m) l (Int32.ofNat k) := by
      rw [zq_X9_next_X_27, e1, if_neg n1, zc_X9_next_X_39 _ _ _ _ _ (zZ_th (M := (N.1, N.2)) hm (by omega)), zZ_id, zq_X9_next_X_46]
    have g0 : zv_X10_next__M_24 N' K' (Int32.ofNat m) l (Int32.ofNat k) = if N' 16 (61 * k + m) = -1 then zv_X10_next__M_69 N' K' (Int32.ofNat m) l (Int32.ofNat k) else zv_X10_next__M_47 N' K' (Int32.ofNat m) l (Int32.ofNat k) := by
      rw [zc_X10_next__M_24 _ _ _ _ _ zdm_callers, zq_X10_next__M_29, e2, if_neg n1, zq_X10_next__M_32, zZ_x61 m hm k (by omega), if_neg (zp_in (by omega) (by omega)), zp_cl (by omega)]
    have f9 : ∀ l, zv_X9_next_X_79 N.1 N.2 (Int32.ofNat m) l (Int32.ofNat k) = zv_X9_next_X_27 N.1 N.2 (Int32.ofNat m) l (Int32.ofNat (k + 1)) := fun l => by rw [zq_X9_next_X_79, zp_o1 (by omega)]
    have g9 : ∀ l, zv_X10_next__M_69 N' K' (Int32.ofNat m) l (Int32.ofNat k) = zv_X10_next__M_24 N' K' (Int32.ofNat m) l (Int32.ofNat (k + 1)) := fun l => by rw [zq_X10_next__M_69, zp_o1 (by omega)]
    have stay := fun _ : Unit => zZ_neL (K' := K') hC hm e1 e2 ew ec d (k + 1) l (by omega) (hl.elim Or.inl (fun z => Or.inr ⟨z.choose, by have := z.choose_spec.1; omega, z.choose_spec.2⟩))
    have take := fun _ : Unit => zZ_neL (K' := K') hC hm e1 e2 ew ec d (k + 1) (Int32.ofNat k) (by omega) (Or.inr ⟨k, by omega, rfl⟩)
    by_cases c : N' 16 (61 * k + m) = -1
    · rw [f0, if_pos (w2.mpr c), if_pos rfl, f9, g0, if_pos c, g9]
      exact stay ()
    · rw [f0, if_neg (fun z => c (w2.mp z)), if_neg (by decide), g0, if_neg c, zq_X9_next_X_49, zq_X10_next__M_47]
      by_cases q : l = -1
      · rw [if_pos q, if_pos q, zq_X9_next_X_76, f9, zq_X10_next__M_67, g9]
        exact take ()
      · rw [if_neg q, if_neg q]
        obtain ⟨b, hb, rfl⟩ : ∃ b : Nat, b < k ∧ l = Int32.ofNat b := hl.resolve_left q
        rw [zq_X9_next_X_54, if_neg (zp_in (by omega) (by omega)), if_neg (zp_in (by omega) (by omega)), zp_cl (by omega), zp_cl (by omega), ec b (by omega), ec k (by omega), zq_X10_next__M_52, if_neg (zp_in (by omega) (by omega)), if_neg (zp_in (by omega) (by omega)), zp_cl (by omega), zp_cl (by omega)]
        by_cases s : N' 14 b ≤ N' 14 k
        · rw [if_pos s, if_pos s, f9, g9]
          exact stay ()
        · rw [if_neg s, if_neg s, zq_X9_next_X_76, f9, zq_X10_next__M_67, g9]
          exact take ()
theorem zZ_next (hG : zt_Gs zo_g1 (X, Q)) (hF : zdF (X, Q)) (hq : zqC 1 0 X I) (hM : zt_Gs zo_g22 (I, J)) (hP : zq_P (I, J)) (a0 : Int32) {x y : Int32} {N1 N2 : zm_I} (h1 : zF_X9_next zW_X [.ref 0, .int a0] (X, Q) = some (some (.int x), N1)) (h2 : zF_X10_next_ zW_M [.ref 0, .int a0] (I, J) = some (some (.int y), N2)) : x = y := by
  have q1 : X 1 0 = I 6 0 := hq.1.1
  have h1 := (zf_X9_next_X X Q a0).symm.trans h1
  have h2 := (zf_X10_next__M I J a0).symm.trans h2
  rw [zc_X9_next_X_0 _ _ _ zV_hbX, zq_X9_next_X_4] at h1
  rw [zc_X10_next__M_0 _ _ _ (zZ_time a0), zq_X10_next__M_10, show zm_w I 0 0 0 6 0 = I 6 0 from ze_wo (by decide), ← q1] at h2
  by_cases c1 : (X 1 0).toInt ≤ 0
  · rw [if_pos c1, if_pos rfl, zq_X9_next_X_14] at h1
    rw [if_neg (show ¬ (0 < (X 1 0).toInt ∧ 0 ≤ a0.toInt ∧ a0.toInt ≤ 60) by omega), if_pos rfl, zq_X10_next__M_13] at h2
    cases h1
    cases h2
    rfl
  rw [if_neg c1, if_neg (by decide), zc_X9_next_X_7 _ _ _ (zV_miX a0), zq_X9_next_X_11] at h1
  by_cases c2 : 0 ≤ a0.toInt ∧ a0.toInt ≤ 60
  rotate_left
  · rw [if_neg c2, if_pos rfl, zq_X9_next_X_14] at h1
    rw [if_neg (show ¬ (0 < (X 1 0).toInt ∧ 0 ≤ a0.toInt ∧ a0.toInt ≤ 60) by omega), if_pos rfl, zq_X10_next__M_13] at h2
    cases h1
    cases h2
    rfl
  obtain ⟨C, N, N', K', hC, e6, d1, d2, d3, d4, d5, d6, d7, d8, d9⟩ := zZ_days hG hF hq hM hP (Or.inl (by omega))
  rw [if_pos c2, if_neg (by decide), zc_X9_next_X_17 _ _ _ d1, zq_X9_next_X_21] at h1
  rw [if_pos (show 0 < (X 1 0).toInt ∧ 0 ≤ a0.toInt ∧ a0.toInt ≤ 60 by omega), if_neg (by decide), zc_X10_next__M_16 _ _ _ d2, zq_X10_next__M_20] at h2
  obtain ⟨m, hmm⟩ : ∃ m : Nat, a0.toInt = m := ⟨a0.toInt.toNat, by omega⟩
  have e0 : a0 = Int32.ofNat m := Int32.toInt_inj.mp (by rw [hmm, zp_o (by omega)])
  subst e0
  obtain ⟨r, r1, r2⟩ := zZ_neL (K' := K') hC (show m < 61 by omega) d3 d4 (fun c hc => (d7 m c (by omega) hc).2) (fun c hc => (d5 4 c (by decide)).trans (d8 c hc).symm) C 0 (-1) (by omega) (Or.inl rfl)
  have h1 := r1.symm.trans h1
  have h2 := r2.symm.trans h2
  cases h1
  cases h2
  rfl
end ZZ7
end
section
/-! WHAT IS KEPT BESIDE: zX of part X, call by call -/
theorem zX_there : True := trivial
section ZRR
variable {ks : List Nat} {M N1 N2 : zm_I}
theorem zr_feed (hks : ks ∈ zK_all) (hI : zy_I ks M) (hR : zX ks M) {a0 : Int32} {a1 : Int32} {a2 : Int32} {a3 : Int32} {a4 : Int32} {x y : Int32} (ho : zy_o2 ks M zF_X9_feed zF_X10_feed [.int a0, .int a1, .int a2, .int a3, .int a4] [.int a0, .int a1, .int a2, .int a3, .int a4] (.int x) (.int y) N1 N2) (f1 : zt_fr WX_feed (zm_sub2 [(0, 164)] M) N1) (f2 : zt_fr WM_feed (zm_sub2 [(165, 31)] (zm_mrg [(0, 164)] M N1)) N2) : zX ks (zy_2 M N1 N2) := ⟨(zR_fd hI hR.1 ho f1 f2 (by decide +kernel)).2, zX_2 (zX_fr hR.2 (by decide +kernel) f1)⟩
theorem zr_end (hks : ks ∈ zK_all) (hI : zy_I ks M) (hR : zX ks M) {a0 : Int32} {x y : Int32} (ho : zy_o2 ks M zF_X9_end zF_X10_end [.int a0] [.int a0] (.int x) (.int y) N1 N2) (f1 : zt_fr WX_end (zm_sub2 [(0, 164)] M) N1) (f2 : zt_fr WM_end (zm_sub2 [(165, 31)] (zm_mrg [(0, 164)] M N1)) N2) : zX ks (zy_2 M N1 N2) := ⟨(zR_en hI hR.1 ho f1 f2 (by decide +kernel)).2, zX_2 (zX_fr hR.2 (by decide +kernel) f1)⟩
theorem zr_bench (hks : ks ∈ zK_all) (hI : zy_I ks M) (hR : zX ks M) {x y : Int32} (ho : zy_o2 ks M zF_X9_bench zF_X10_bench [] [] (.int x) (.int y) N1 N2) (f1 : zt_fr WX_bench (zm_sub2 [(0, 164)] M) N1) (f2 : zt_fr WM_bench (zm_sub2 [(165, 31)] (zm_mrg [(0, 164)] M N1)) N2) : zX ks (zy_2 M N1 N2) := ⟨(zR_be hI hR.1 ho f2 (by decide +kernel)).2, zX_2 (zX_con (zi_4001 0 zo_hd) rfl rfl (by decide) (zq_s1 zq_r0 zq_s0) zh_no hI.1 hR.2 ho.1)⟩
theorem zr_fault (hks : ks ∈ zK_all) (hI : zy_I ks M) (hR : zX ks M) {a0 : Int32} {x y : Int32} (ho : zy_o2 ks M zF_X9_fault zF_X10_fault [.int a0] [.int a0] (.int x) (.int y) N1 N2) (f1 : zt_fr WX_fault (zm_sub2 [(0, 164)] M) N1) (f2 : zt_fr WM_fault (zm_sub2 [(165, 31)] (zm_mrg [(0, 164)] M N1)) N2) : zX ks (zy_2 M N1 N2) := ⟨zR_2 hR.1 f1 f2 (by decide +kernel), zX_2 (zX_fr hR.2 (by decide +kernel) f1)⟩
theorem zr_seat (hks : ks ∈ zK_all) (hI : zy_I ks M) (hR : zX ks M) {a0 : Int32} {x y : Int32} (ho : zy_o2 ks M zF_X9_seat zF_X10_seat [.int a0] [.int a0] (.int x) (.int y) N1 N2) (f1 : zt_fr WX_seat (zm_sub2 [(0, 164)] M) N1) (f2 : zt_fr WM_seat (zm_sub2 [(165, 31)] (zm_mrg [(0, 164)] M N1)) N2) : zX ks (zy_2 M N1 N2) := ⟨zR_2 hR.1 f1 f2 (by decide +kernel), zX_2 (zX_fr hR.2 (by decide +kernel) f1)⟩
theorem zr_caller (hks : ks ∈ zK_all) (hI : zy_I ks M) (hR : zX ks M) {a0 : Int32} {a1 : Int32} {x y : Int32} (ho : zy_o2 ks M zF_X9_caller zF_X10_caller [.int a0, .int a1] [.int a0, .int a1] (.int x) (.int y) N1 N2) (f1 : zt_fr WX_caller (zm_sub2 [(0, 164)] M) N1) (f2 : zt_fr WM_caller (zm_sub2 [(165, 31)] (zm_mrg [(0, 164)] M N1)) N2) : zX ks (zy_2 M N1 N2) := ⟨zR_2 hR.1 f1 f2 (by decide +kernel), zX_2 (zX_fr hR.2 (by decide +kernel) f1)⟩
theorem zr_age (hks : ks ∈ zK_all) (hI : zy_I ks M) (hR : zX ks M) {a0 : Int32} {a1 : Int32} {x y : Int32} (ho : zy_o2 ks M zF_X9_age zF_X10_age [.int a0, .int a1] [.int a0, .int a1] (.int x) (.int y) N1 N2) (f1 : zt_fr WX_age (zm_sub2 [(0, 164)] M) N1) (f2 : zt_fr WM_age (zm_sub2 [(165, 31)] (zm_mrg [(0, 164)] M N1)) N2) : zX ks (zy_2 M N1 N2) := ⟨zR_2 hR.1 f1 f2 (by decide +kernel), zX_2 (zX_con (zi_4003 0 zo_hd) rfl rfl (by decide) (zq_s1 zq_r0 (zq_s1 (zt_v_top a0) (zq_s1 (zt_v_top a1) zq_s0))) zh_no hI.1 hR.2 ho.1)⟩
theorem zr_stands (hks : ks ∈ zK_all) (hI : zy_I ks M) (hR : zX ks M) {a0 : Int32} {x y : Int32} (ho : zy_o2 ks M zF_X9_stands zF_X10_stands [.int a0] [.int a0] (.int x) (.int y) N1 N2) (f1 : zt_fr WX_stands (zm_sub2 [(0, 164)] M) N1) (f2 : zt_fr WM_stands (zm_sub2 [(165, 31)] (zm_mrg [(0, 164)] M N1)) N2) : zX ks (zy_2 M N1 N2) := ⟨zR_2 hR.1 f1 f2 (by decide +kernel), zX_2 (zX_con (zi_4006 0 zo_hd) rfl rfl (by decide) (zq_s1 zq_r0 (zq_s1 (zt_v_top a0) zq_s0)) zh_no hI.1 hR.2 ho.1)⟩
theorem zr_free (hks : ks ∈ zK_all) (hI : zy_I ks M) (hR : zX ks M) {a0 : Int32} {x y : Int32} (ho : zy_o2 ks M zF_X9_free zF_X10_free [.int a0] [.int a0] (.int x) (.int y) N1 N2) (f1 : zt_fr WX_free (zm_sub2 [(0, 164)] M) N1) (f2 : zt_fr WM_free (zm_sub2 [(165, 31)] (zm_mrg [(0, 164)] M N1)) N2) : zX ks (zy_2 M N1 N2) := ⟨zR_2 hR.1 f1 f2 (by decide +kernel), zX_2 (zX_con (zi_4007 0 zo_hd) rfl rfl (by decide) (zq_s1 zq_r0 (zq_s1 (zt_v_top a0) zq_s0)) zh_no hI.1 hR.2 ho.1)⟩
theorem zr_goes (hks : ks ∈ zK_all) (hI : zy_I ks M) (hR : zX ks M) {a0 : Int32} {x y : Int32} (ho : zy_o2 ks M zF_X9_goes zF_X10_goes [.int a0] [.int a0] (.int x) (.int y) N1 N2) (f1 : zt_fr WX_goes (zm_sub2 [(0, 164)] M) N1) (f2 : zt_fr WM_goes (zm_sub2 [(165, 31)] (zm_mrg [(0, 164)] M N1)) N2) : zX ks (zy_2 M N1 N2) := ⟨zR_2 hR.1 f1 f2 (by decide +kernel), zX_2 (zX_con (zi_4008 0 zo_hd) rfl rfl (by decide) (zq_s1 zq_r0 (zq_s1 (zt_v_top a0) zq_s0)) zh_no hI.1 hR.2 ho.1)⟩
theorem zr_called (hks : ks ∈ zK_all) (hI : zy_I ks M) (hR : zX ks M) {a0 : Int32} {x y : Int32} (ho : zy_o2 ks M zF_X9_called zF_X10_called [.int a0] [.int a0] (.int x) (.int y) N1 N2) (f1 : zt_fr WX_called (zm_sub2 [(0, 164)] M) N1) (f2 : zt_fr WM_called (zm_sub2 [(165, 31)] (zm_mrg [(0, 164)] M N1)) N2) : zX ks (zy_2 M N1 N2) := ⟨zR_2 hR.1 f1 f2 (by decide +kernel), zX_2 (zX_con (zi_4009 0 zo_hd) rfl rfl (by decide) (zq_s1 zq_r0 (zq_s1 (zt_v_top a0) zq_s0)) zh_no hI.1 hR.2 ho.1)⟩
theorem zr_ends (hks : ks ∈ zK_all) (hI : zy_I ks M) (hR : zX ks M) {a0 : Int32} {x y : Int32} (ho : zy_o2 ks M zF_X9_ends zF_X10_ends_ [.int a0] [.int a0] (.int x) (.int y) N1 N2) (f1 : zt_fr WX_ends (zm_sub2 [(0, 164)] M) N1) (f2 : zt_fr WM_ends (zm_sub2 [(165, 31)] (zm_mrg [(0, 164)] M N1)) N2) : zX ks (zy_2 M N1 N2) := ⟨zR_2 hR.1 f1 f2 (by decide +kernel), zX_2 (zX_con (zi_4010 0 zo_hd) rfl rfl (by decide) (zq_s1 zq_r0 (zq_s1 (zt_v_top a0) zq_s0)) zh_no hI.1 hR.2 ho.1)⟩
theorem zr_told (hks : ks ∈ zK_all) (hI : zy_I ks M) (hR : zX ks M) {x y : Int32} (ho : zy_o2 ks M zF_X9_told zF_X10_told [] [] (.int x) (.int y) N1 N2) (f1 : zt_fr WX_told (zm_sub2 [(0, 164)] M) N1) (f2 : zt_fr WM_told (zm_sub2 [(165, 31)] (zm_mrg [(0, 164)] M N1)) N2) : zX ks (zy_2 M N1 N2) := ⟨zR_2 hR.1 f1 f2 (by decide +kernel), zX_2 (zX_con (zi_4011 0 zo_hd) rfl rfl (by decide) (zq_s1 zq_r0 zq_s0) zh_no hI.1 hR.2 ho.1)⟩
theorem zr_forgotten (hks : ks ∈ zK_all) (hI : zy_I ks M) (hR : zX ks M) {x y : Int32} (ho : zy_o2 ks M zF_X9_forgotten zF_X10_forgotten [] [] (.int x) (.int y) N1 N2) (f1 : zt_fr WX_forgotten (zm_sub2 [(0, 164)] M) N1) (f2 : zt_fr WM_forgotten (zm_sub2 [(165, 31)] (zm_mrg [(0, 164)] M N1)) N2) : zX ks (zy_2 M N1 N2) := ⟨zR_2 hR.1 f1 f2 (by decide +kernel), zX_2 (zX_con (zi_4012 0 zo_hd) rfl rfl (by decide) (zq_s1 zq_r0 zq_s0) zh_no hI.1 hR.2 ho.1)⟩
theorem zr_gun (hks : ks ∈ zK_all) (hI : zy_I ks M) (hR : zX ks M) {x y : Int32} (ho : zy_o2 ks M zF_X9_gun zF_X10_gun [] [] (.int x) (.int y) N1 N2) (f1 : zt_fr WX_gun (zm_sub2 [(0, 164)] M) N1) (f2 : zt_fr WM_gun (zm_sub2 [(165, 31)] (zm_mrg [(0, 164)] M N1)) N2) : zX ks (zy_2 M N1 N2) := ⟨zR_2 hR.1 f1 f2 (by decide +kernel), zX_2 (zX_con (zi_4013 0 zo_hd) rfl rfl (by decide) (zq_s1 zq_r0 zq_s0) zh_no hI.1 hR.2 ho.1)⟩
theorem zr_waits (hks : ks ∈ zK_all) (hI : zy_I ks M) (hR : zX ks M) {a0 : Int32} {x y : Int32} (ho : zy_o2 ks M zF_X9_waits zF_X10_waits [.int a0] [.int a0] (.int x) (.int y) N1 N2) (f1 : zt_fr WX_waits (zm_sub2 [(0, 164)] M) N1) (f2 : zt_fr WM_waits (zm_sub2 [(165, 31)] (zm_mrg [(0, 164)] M N1)) N2) : zX ks (zy_2 M N1 N2) := ⟨zR_2 hR.1 f1 f2 (by decide +kernel), zX_2 (zX_con (zi_4014 0 zo_hd) rfl rfl (by decide) (zq_s1 zq_r0 (zq_s1 (zt_v_top a0) zq_s0)) zh_no hI.1 hR.2 ho.1)⟩
theorem zr_worn (hks : ks ∈ zK_all) (hI : zy_I ks M) (hR : zX ks M) {a0 : Int32} {a1 : Int32} {x y : Int32} (ho : zy_o2 ks M zF_X9_worn zF_X10_worn [.int a0, .int a1] [.int a0, .int a1] (.int x) (.int y) N1 N2) (f1 : zt_fr WX_worn (zm_sub2 [(0, 164)] M) N1) (f2 : zt_fr WM_worn (zm_sub2 [(165, 31)] (zm_mrg [(0, 164)] M N1)) N2) : zX ks (zy_2 M N1 N2) := ⟨zR_2 hR.1 f1 f2 (by decide +kernel), zX_2 (zX_con (zi_4015 0 zo_hd) rfl rfl (by decide) (zq_s1 zq_r0 (zq_s1 (zt_v_top a0) (zq_s1 (zt_v_top a1) zq_s0))) zh_no hI.1 hR.2 ho.1)⟩
theorem zr_dip (hks : ks ∈ zK_all) (hI : zy_I ks M) (hR : zX ks M) {a0 : Int32} {x y : Int32} (ho : zy_o2 ks M zF_X9_dip zF_X10_dip [.int a0] [.int a0] (.int x) (.int y) N1 N2) (f1 : zt_fr WX_dip (zm_sub2 [(0, 164)] M) N1) (f2 : zt_fr WM_dip (zm_sub2 [(165, 31)] (zm_mrg [(0, 164)] M N1)) N2) : zX ks (zy_2 M N1 N2) := ⟨zR_2 hR.1 f1 f2 (by decide +kernel), zX_2 (zX_con (zi_4016 0 zo_hd) rfl rfl (by decide) (zq_s1 zq_r0 (zq_s1 (zt_v_top a0) zq_s0)) zh_no hI.1 hR.2 ho.1)⟩
theorem zr_deepest (hks : ks ∈ zK_all) (hI : zy_I ks M) (hR : zX ks M) {x y : Int32} (ho : zy_o2 ks M zF_X9_deepest zF_X10_deepest [] [] (.int x) (.int y) N1 N2) (f1 : zt_fr WX_deepest (zm_sub2 [(0, 164)] M) N1) (f2 : zt_fr WM_deepest (zm_sub2 [(165, 31)] (zm_mrg [(0, 164)] M N1)) N2) : zX ks (zy_2 M N1 N2) := ⟨zR_2 hR.1 f1 f2 (by decide +kernel), zX_2 (zX_con (zi_4017 0 zo_hd) rfl rfl (by decide) (zq_s1 zq_r0 zq_s0) zh_no hI.1 hR.2 ho.1)⟩
theorem zr_youngest (hks : ks ∈ zK_all) (hI : zy_I ks M) (hR : zX ks M) {a0 : Int32} {x y : Int32} (ho : zy_o2 ks M zF_X9_youngest zF_X10_youngest [.int a0] [.int a0] (.int x) (.int y) N1 N2) (f1 : zt_fr WX_youngest (zm_sub2 [(0, 164)] M) N1) (f2 : zt_fr WM_youngest (zm_sub2 [(165, 31)] (zm_mrg [(0, 164)] M N1)) N2) : zX ks (zy_2 M N1 N2) := ⟨zR_2 hR.1 f1 f2 (by decide +kernel), zX_2 (zX_con (zi_4018 0 zo_hd) rfl rfl (by decide) (zq_s1 zq_r0 (zq_s1 (zt_v_top a0) zq_s0)) zh_no hI.1 hR.2 ho.1)⟩
theorem zr_oldest (hks : ks ∈ zK_all) (hI : zy_I ks M) (hR : zX ks M) {a0 : Int32} {x y : Int32} (ho : zy_o2 ks M zF_X9_oldest zF_X10_oldest [.int a0] [.int a0] (.int x) (.int y) N1 N2) (f1 : zt_fr WX_oldest (zm_sub2 [(0, 164)] M) N1) (f2 : zt_fr WM_oldest (zm_sub2 [(165, 31)] (zm_mrg [(0, 164)] M N1)) N2) : zX ks (zy_2 M N1 N2) := ⟨zR_2 hR.1 f1 f2 (by decide +kernel), zX_2 (zX_con (zi_4019 0 zo_hd) rfl rfl (by decide) (zq_s1 zq_r0 (zq_s1 (zt_v_top a0) zq_s0)) zh_no hI.1 hR.2 ho.1)⟩
theorem zr_meets (hks : ks ∈ zK_all) (hI : zy_I ks M) (hR : zX ks M) {a0 : Int32} {a1 : Int32} {x y : Int32} (ho : zy_o2 ks M zF_X9_meets zF_X10_meets [.int a0, .int a1] [.int a0, .int a1] (.int x) (.int y) N1 N2) (f1 : zt_fr WX_meets (zm_sub2 [(0, 164)] M) N1) (f2 : zt_fr WM_meets (zm_sub2 [(165, 31)] (zm_mrg [(0, 164)] M N1)) N2) : zX ks (zy_2 M N1 N2) := ⟨zR_2 hR.1 f1 f2 (by decide +kernel), zX_2 (zX_con (zi_4020 0 zo_hd) rfl rfl (by decide) (zq_s1 zq_r0 (zq_s1 (zt_v_top a0) (zq_s1 (zt_v_top a1) zq_s0))) zh_no hI.1 hR.2 ho.1)⟩
theorem zr_ripe (hks : ks ∈ zK_all) (hI : zy_I ks M) (hR : zX ks M) {a0 : Int32} {x y : Int32} (ho : zy_o2 ks M zF_X9_ripe zF_X10_ripe [.int a0] [.int a0] (.int x) (.int y) N1 N2) (f1 : zt_fr WX_ripe (zm_sub2 [(0, 164)] M) N1) (f2 : zt_fr WM_ripe (zm_sub2 [(165, 31)] (zm_mrg [(0, 164)] M N1)) N2) : zX ks (zy_2 M N1 N2) := ⟨zR_2 hR.1 f1 f2 (by decide +kernel), zX_2 (zX_con (zi_4021 0 zo_hd) rfl rfl (by decide) (zq_s1 zq_r0 (zq_s1 (zt_v_top a0) zq_s0)) zh_no hI.1 hR.2 ho.1)⟩
theorem zr_window (hks : ks ∈ zK_all) (hI : zy_I ks M) (hR : zX ks M) {a0 : Int32} {x y : Int32} (ho : zy_o2 ks M zF_X9_window zF_X10_window [.int a0] [.int a0] (.int x) (.int y) N1 N2) (f1 : zt_fr WX_window (zm_sub2 [(0, 164)] M) N1) (f2 : zt_fr WM_window (zm_sub2 [(165, 31)] (zm_mrg [(0, 164)] M N1)) N2) : zX ks (zy_2 M N1 N2) := ⟨zR_2 hR.1 f1 f2 (by decide +kernel), zX_2 (zX_con (zi_4022 0 zo_hd) rfl rfl (by decide) (zq_s1 zq_r0 (zq_s1 (zt_v_top a0) zq_s0)) zh_no hI.1 hR.2 ho.1)⟩
theorem zr_misses (hks : ks ∈ zK_all) (hI : zy_I ks M) (hR : zX ks M) {a0 : Int32} {x y : Int32} (ho : zy_o2 ks M zF_X9_misses zF_X10_misses [.int a0] [.int a0] (.int x) (.int y) N1 N2) (f1 : zt_fr WX_misses (zm_sub2 [(0, 164)] M) N1) (f2 : zt_fr WM_misses (zm_sub2 [(165, 31)] (zm_mrg [(0, 164)] M N1)) N2) : zX ks (zy_2 M N1 N2) := ⟨zR_2 hR.1 f1 f2 (by decide +kernel), zX_2 (zX_con (zi_4023 0 zo_hd) rfl rfl (by decide) (zq_s1 zq_r0 (zq_s1 (zt_v_top a0) zq_s0)) zh_no hI.1 hR.2 ho.1)⟩
theorem zr_grown (hks : ks ∈ zK_all) (hI : zy_I ks M) (hR : zX ks M) {a0 : Int32} {x y : Int32} (ho : zy_o2 ks M zF_X9_grown zF_X10_grown [.int a0] [.int a0] (.int x) (.int y) N1 N2) (f1 : zt_fr WX_grown (zm_sub2 [(0, 164)] M) N1) (f2 : zt_fr WM_grown (zm_sub2 [(165, 31)] (zm_mrg [(0, 164)] M N1)) N2) : zX ks (zy_2 M N1 N2) := ⟨zR_2 hR.1 f1 f2 (by decide +kernel), zX_2 (zX_con (zi_4024 0 zo_hd) rfl rfl (by decide) (zq_s1 zq_r0 (zq_s1 (zt_v_top a0) zq_s0)) zh_no hI.1 hR.2 ho.1)⟩
theorem zr_beside (hks : ks ∈ zK_all) (hI : zy_I ks M) (hR : zX ks M) {a0 : Int32} {a1 : Int32} {x y : Int32} (ho : zy_o2 ks M zF_X9_beside zF_X10_beside [.int a0, .int a1] [.int a0, .int a1] (.int x) (.int y) N1 N2) (f1 : zt_fr WX_beside (zm_sub2 [(0, 164)] M) N1) (f2 : zt_fr WM_beside (zm_sub2 [(165, 31)] (zm_mrg [(0, 164)] M N1)) N2) : zX ks (zy_2 M N1 N2) := ⟨zR_2 hR.1 f1 f2 (by decide +kernel), zX_2 (zX_con (zi_4025 0 zo_hd) rfl rfl (by decide) (zq_s1 zq_r0 (zq_s1 (zt_v_top a0) (zq_s1 (zt_v_top a1) zq_s0))) zh_no hI.1 hR.2 ho.1)⟩
theorem zr_crowd (hks : ks ∈ zK_all) (hI : zy_I ks M) (hR : zX ks M) {x y : Int32} (ho : zy_o2 ks M zF_X9_crowd zF_X10_crowd [] [] (.int x) (.int y) N1 N2) (f1 : zt_fr WX_crowd (zm_sub2 [(0, 164)] M) N1) (f2 : zt_fr WM_crowd (zm_sub2 [(165, 31)] (zm_mrg [(0, 164)] M N1)) N2) : zX ks (zy_2 M N1 N2) := ⟨zR_2 hR.1 f1 f2 (by decide +kernel), zX_2 (zX_con (zi_4026 0 zo_hd) rfl rfl (by decide) (zq_s1 zq_r0 zq_s0) zh_no hI.1 hR.2 ho.1)⟩
theorem zr_next (hks : ks ∈ zK_all) (hI : zy_I ks M) (hR : zX ks M) {a0 : Int32} {x y : Int32} (ho : zy_o2 ks M zF_X9_next zF_X10_next_ [.int a0] [.int a0] (.int x) (.int y) N1 N2) (f1 : zt_fr WX_next (zm_sub2 [(0, 164)] M) N1) (f2 : zt_fr WM_next (zm_sub2 [(165, 31)] (zm_mrg [(0, 164)] M N1)) N2) : zX ks (zy_2 M N1 N2) := ⟨zR_2 hR.1 f1 f2 (by decide +kernel), zX_2 (zX_con (zi_4027 0 zo_hd) rfl rfl (by decide) (zq_s1 zq_r0 (zq_s1 (zt_v_top a0) zq_s0)) zh_no hI.1 hR.2 ho.1)⟩
theorem zr_years (hks : ks ∈ zK_all) (hI : zy_I ks M) (hR : zX ks M) {a0 : Int32} {x y : Int32} (ho : zy_o2 ks M zF_X9_years zF_X10_years [.int a0] [.int a0] (.int x) (.int y) N1 N2) (f1 : zt_fr WX_years (zm_sub2 [(0, 164)] M) N1) (f2 : zt_fr WM_years (zm_sub2 [(165, 31)] (zm_mrg [(0, 164)] M N1)) N2) : zX ks (zy_2 M N1 N2) := ⟨zR_2 hR.1 f1 f2 (by decide +kernel), zX_2 (zX_con (zi_4028 0 zo_hd) rfl rfl (by decide) (zq_s1 zq_r0 (zq_s1 (zt_v_top a0) zq_s0)) zh_no hI.1 hR.2 ho.1)⟩
theorem zr_last (hks : ks ∈ zK_all) (hI : zy_I ks M) (hR : zX ks M) {x y : Int32} (ho : zy_o2 ks M zF_X9_last zF_X10_last [] [] (.int x) (.int y) N1 N2) (f1 : zt_fr WX_last (zm_sub2 [(0, 164)] M) N1) (f2 : zt_fr WM_last (zm_sub2 [(165, 31)] (zm_mrg [(0, 164)] M N1)) N2) : zX ks (zy_2 M N1 N2) := ⟨zR_2 hR.1 f1 f2 (by decide +kernel), zX_2 (zX_con (zi_4029 0 zo_hd) rfl rfl (by decide) (zq_s1 zq_r0 zq_s0) zh_no hI.1 hR.2 ho.1)⟩
theorem zr_twins (hks : ks ∈ zK_all) (hI : zy_I ks M) (hR : zX ks M) {a0 : Int32} {x y : Int32} (ho : zy_o2 ks M zF_X9_twins zF_X10_twins [.int a0] [.int a0] (.int x) (.int y) N1 N2) (f1 : zt_fr WX_twins (zm_sub2 [(0, 164)] M) N1) (f2 : zt_fr WM_twins (zm_sub2 [(165, 31)] (zm_mrg [(0, 164)] M N1)) N2) : zX ks (zy_2 M N1 N2) := ⟨zR_2 hR.1 f1 f2 (by decide +kernel), zX_2 (zX_con (zi_4030 0 zo_hd) rfl rfl (by decide) (zq_s1 zq_r0 (zq_s1 (zt_v_top a0) zq_s0)) zh_no hI.1 hR.2 ho.1)⟩
theorem zr_opens (hks : ks ∈ zK_all) (hI : zy_I ks M) (hR : zX ks M) {a0 : Int32} {x y : Int32} (ho : zy_o2 ks M zF_X9_opens zF_X10_opens [.int a0] [.int a0] (.int x) (.int y) N1 N2) (f1 : zt_fr WX_opens (zm_sub2 [(0, 164)] M) N1) (f2 : zt_fr WM_opens (zm_sub2 [(165, 31)] (zm_mrg [(0, 164)] M N1)) N2) : zX ks (zy_2 M N1 N2) := ⟨zR_2 hR.1 f1 f2 (by decide +kernel), zX_2 (zX_con (zi_4031 0 zo_hd) rfl rfl (by decide) (zq_s1 zq_r0 (zq_s1 (zt_v_top a0) zq_s0)) zh_no hI.1 hR.2 ho.1)⟩
theorem zr_without (hks : ks ∈ zK_all) (hI : zy_I ks M) (hR : zX ks M) {a0 : Int32} {x y : Int32} (ho : zy_o2 ks M zF_X9_without zF_X10_without [.int a0] [.int a0] (.int x) (.int y) N1 N2) (f1 : zt_fr WX_without (zm_sub2 [(0, 164)] M) N1) (f2 : zt_fr WM_without (zm_sub2 [(165, 31)] (zm_mrg [(0, 164)] M N1)) N2) : zX ks (zy_2 M N1 N2) := ⟨zR_2 hR.1 f1 f2 (by decide +kernel), zX_2 (zX_fr hR.2 (by decide +kernel) f1)⟩
theorem zr_helps (hks : ks ∈ zK_all) (hI : zy_I ks M) (hR : zX ks M) {a0 : Int32} {x y : Int32} (ho : zy_o2 ks M zF_X9_helps zF_X10_helps [.int a0] [.int a0] (.int x) (.int y) N1 N2) (f1 : zt_fr WX_helps (zm_sub2 [(0, 164)] M) N1) (f2 : zt_fr WM_helps (zm_sub2 [(165, 31)] (zm_mrg [(0, 164)] M N1)) N2) : zX ks (zy_2 M N1 N2) := ⟨zR_2 hR.1 f1 f2 (by decide +kernel), zX_2 (zX_con (zi_4033 0 zo_hd) rfl rfl (by decide) (zq_s1 zq_r0 (zq_s1 (zt_v_top a0) zq_s0)) zh_no hI.1 hR.2 ho.1)⟩
theorem zr_less (hks : ks ∈ zK_all) (hI : zy_I ks M) (hR : zX ks M) {a0 : Int32} {x y : Int32} (ho : zy_o2 ks M zF_X9_less zF_X10_less [.int a0] [.int a0] (.int x) (.int y) N1 N2) (f1 : zt_fr WX_less (zm_sub2 [(0, 164)] M) N1) (f2 : zt_fr WM_less (zm_sub2 [(165, 31)] (zm_mrg [(0, 164)] M N1)) N2) : zX ks (zy_2 M N1 N2) := ⟨zR_2 hR.1 f1 f2 (by decide +kernel), zX_2 (zX_fr hR.2 (by decide +kernel) f1)⟩
theorem zr_tuned (hks : ks ∈ zK_all) (hI : zy_I ks M) (hR : zX ks M) {a0 : Int32} {x y : Int32} (ho : zy_o2 ks M zF_X9_tuned zF_X10_tuned [.int a0] [.int a0] (.int x) (.int y) N1 N2) (f1 : zt_fr WX_tuned (zm_sub2 [(0, 164)] M) N1) (f2 : zt_fr WM_tuned (zm_sub2 [(165, 31)] (zm_mrg [(0, 164)] M N1)) N2) : zX ks (zy_2 M N1 N2) := ⟨zR_2 hR.1 f1 f2 (by decide +kernel), zX_2 (zX_fr hR.2 (by decide +kernel) f1)⟩
theorem zr_moved (hks : ks ∈ zK_all) (hI : zy_I ks M) (hR : zX ks M) {a0 : Int32} {a1 : Int32} {x y : Int32} (ho : zy_o2 ks M zF_X9_moved zF_X10_moved [.int a0, .int a1] [.int a0, .int a1] (.int x) (.int y) N1 N2) (f1 : zt_fr WX_moved (zm_sub2 [(0, 164)] M) N1) (f2 : zt_fr WM_moved (zm_sub2 [(165, 31)] (zm_mrg [(0, 164)] M N1)) N2) : zX ks (zy_2 M N1 N2) := ⟨zR_2 hR.1 f1 f2 (by decide +kernel), zX_2 (zX_fr hR.2 (by decide +kernel) f1)⟩
theorem zr_suits (hks : ks ∈ zK_all) (hI : zy_I ks M) (hR : zX ks M) {a0 : Int32} {x y : Int32} (ho : zy_o2 ks M zF_X9_suits zF_X10_suits [.int a0] [.int a0] (.int x) (.int y) N1 N2) (f1 : zt_fr WX_suits (zm_sub2 [(0, 164)] M) N1) (f2 : zt_fr WM_suits (zm_sub2 [(165, 31)] (zm_mrg [(0, 164)] M N1)) N2) : zX ks (zy_2 M N1 N2) := ⟨zR_2 hR.1 f1 f2 (by decide +kernel), zX_2 (zX_fr hR.2 (by decide +kernel) f1)⟩
theorem zr_hour (hks : ks ∈ zK_all) (hI : zy_I ks M) (hR : zX ks M) {a0 : Int32} {x y : Int32} (ho : zy_o2 ks M zF_X9_hour zF_X10_hour [.int a0] [.int a0] (.int x) (.int y) N1 N2) (f1 : zt_fr WX_hour (zm_sub2 [(0, 164)] M) N1) (f2 : zt_fr WM_hour (zm_sub2 [(165, 31)] (zm_mrg [(0, 164)] M N1)) N2) : zX ks (zy_2 M N1 N2) := ⟨zR_2 hR.1 f1 f2 (by decide +kernel), zX_2 (zX_fr hR.2 (by decide +kernel) f1)⟩
theorem zr_youth (hks : ks ∈ zK_all) (hI : zy_I ks M) (hR : zX ks M) {a0 : Int32} {x y : Int32} (ho : zy_o2 ks M zF_X9_youth zF_X10_youth [.int a0] [.int a0] (.int x) (.int y) N1 N2) (f1 : zt_fr WX_youth (zm_sub2 [(0, 164)] M) N1) (f2 : zt_fr WM_youth (zm_sub2 [(165, 31)] (zm_mrg [(0, 164)] M N1)) N2) : zX ks (zy_2 M N1 N2) := ⟨zR_2 hR.1 f1 f2 (by decide +kernel), zX_2 (zX_fr hR.2 (by decide +kernel) f1)⟩
theorem zr_best (hks : ks ∈ zK_all) (hI : zy_I ks M) (hR : zX ks M) {x y : Int32} (ho : zy_o2 ks M zF_X9_best zF_X10_best [] [] (.int x) (.int y) N1 N2) (f1 : zt_fr WX_best (zm_sub2 [(0, 164)] M) N1) (f2 : zt_fr WM_best (zm_sub2 [(165, 31)] (zm_mrg [(0, 164)] M N1)) N2) : zX ks (zy_2 M N1 N2) := ⟨zR_2 hR.1 f1 f2 (by decide +kernel), zX_2 (zX_fr hR.2 (by decide +kernel) f1)⟩
theorem zr_plan (hks : ks ∈ zK_all) (hI : zy_I ks M) (hR : zX ks M) {a0 : Int32} {x y : Int32} (ho : zy_o2 ks M zF_X9_plan zF_X10_plan [.int a0] [.int a0] (.int x) (.int y) N1 N2) (f1 : zt_fr WX_plan (zm_sub2 [(0, 164)] M) N1) (f2 : zt_fr WM_plan (zm_sub2 [(165, 31)] (zm_mrg [(0, 164)] M N1)) N2) : zX ks (zy_2 M N1 N2) := ⟨zR_2 hR.1 f1 f2 (by decide +kernel), zX_2 (zX_fr hR.2 (by decide +kernel) f1)⟩
theorem zr_ways (hks : ks ∈ zK_all) (hI : zy_I ks M) (hR : zX ks M) {x y : Int32} (ho : zy_o2 ks M zF_X9_ways zF_X10_ways [] [] (.int x) (.int y) N1 N2) (f1 : zt_fr WX_ways (zm_sub2 [(0, 164)] M) N1) (f2 : zt_fr WM_ways (zm_sub2 [(165, 31)] (zm_mrg [(0, 164)] M N1)) N2) : zX ks (zy_2 M N1 N2) := ⟨zR_2 hR.1 f1 f2 (by decide +kernel), zX_2 (zX_fr hR.2 (by decide +kernel) f1)⟩
theorem zr_every (hks : ks ∈ zK_all) (hI : zy_I ks M) (hR : zX ks M) {x y : Int32} (ho : zy_o2 ks M zF_X9_every zF_X10_every [] [] (.int x) (.int y) N1 N2) (f1 : zt_fr WX_every (zm_sub2 [(0, 164)] M) N1) (f2 : zt_fr WM_every (zm_sub2 [(165, 31)] (zm_mrg [(0, 164)] M N1)) N2) : zX ks (zy_2 M N1 N2) := ⟨zR_2 hR.1 f1 f2 (by decide +kernel), zX_2 (zX_fr hR.2 (by decide +kernel) f1)⟩
theorem zr_calls (hks : ks ∈ zK_all) (hI : zy_I ks M) (hR : zX ks M) {x y : Int32} (ho : zy_o2 ks M zF_X9_calls zF_X10_calls [] [] (.int x) (.int y) N1 N2) (f1 : zt_fr WX_calls (zm_sub2 [(0, 164)] M) N1) (f2 : zt_fr WM_calls (zm_sub2 [(165, 31)] (zm_mrg [(0, 164)] M N1)) N2) : zX ks (zy_2 M N1 N2) := ⟨zR_2 hR.1 f1 f2 (by decide +kernel), zX_2 (zX_fr hR.2 (by decide +kernel) f1)⟩
theorem zr_none (hks : ks ∈ zK_all) (hI : zy_I ks M) (hR : zX ks M) {x y : Int32} (ho : zy_o2 ks M zF_X9_none zF_X10_none [] [] (.int x) (.int y) N1 N2) (f1 : zt_fr WX_none (zm_sub2 [(0, 164)] M) N1) (f2 : zt_fr WM_none (zm_sub2 [(165, 31)] (zm_mrg [(0, 164)] M N1)) N2) : zX ks (zy_2 M N1 N2) := ⟨zR_2 hR.1 f1 f2 (by decide +kernel), zX_2 (zX_fr hR.2 (by decide +kernel) f1)⟩
theorem zr_by (hks : ks ∈ zK_all) (hI : zy_I ks M) (hR : zX ks M) {a0 : Int32} {x y : Int32} (ho : zy_o2 ks M zF_X9_by zF_X10_by [.int a0] [.int a0] (.int x) (.int y) N1 N2) (f1 : zt_fr WX_by (zm_sub2 [(0, 164)] M) N1) (f2 : zt_fr WM_by (zm_sub2 [(165, 31)] (zm_mrg [(0, 164)] M N1)) N2) : zX ks (zy_2 M N1 N2) := ⟨zR_2 hR.1 f1 f2 (by decide +kernel), zX_2 (zX_fr hR.2 (by decide +kernel) f1)⟩
theorem zr_law (hks : ks ∈ zK_all) (hI : zy_I ks M) (hR : zX ks M) {x y : Int32} (ho : zy_o2 ks M zF_X9_law zF_X10_law [] [] (.int x) (.int y) N1 N2) (f1 : zt_fr WX_law (zm_sub2 [(0, 164)] M) N1) (f2 : zt_fr WM_law (zm_sub2 [(165, 31)] (zm_mrg [(0, 164)] M N1)) N2) : zX ks (zy_2 M N1 N2) := ⟨zR_2 hR.1 f1 f2 (by decide +kernel), zX_2 (zX_fr hR.2 (by decide +kernel) f1)⟩
theorem zr_laws (hks : ks ∈ zK_all) (hI : zy_I ks M) (hR : zX ks M) {a0 : Int32} {x y : Int32} (ho : zy_o2 ks M zF_X9_laws zF_X10_laws [.int a0] [.int a0] (.int x) (.int y) N1 N2) (f1 : zt_fr WX_laws (zm_sub2 [(0, 164)] M) N1) (f2 : zt_fr WM_laws (zm_sub2 [(165, 31)] (zm_mrg [(0, 164)] M N1)) N2) : zX ks (zy_2 M N1 N2) := ⟨zR_2 hR.1 f1 f2 (by decide +kernel), zX_2 (zX_fr hR.2 (by decide +kernel) f1)⟩
theorem zr_sat (hks : ks ∈ zK_all) (hI : zy_I ks M) (hR : zX ks M) {a0 : Int32} {a1 : Int32} {x y : Int32} (ho : zy_o2 ks M zF_X9_sat zF_X10_sat [.int a0, .int a1] [.int a0, .int a1] (.int x) (.int y) N1 N2) (f1 : zt_fr WX_sat (zm_sub2 [(0, 164)] M) N1) (f2 : zt_fr WM_sat (zm_sub2 [(165, 31)] (zm_mrg [(0, 164)] M N1)) N2) : zX ks (zy_2 M N1 N2) := ⟨zR_2 hR.1 f1 f2 (by decide +kernel), zX_2 (zX_fr hR.2 (by decide +kernel) f1)⟩
theorem zr_ask (hks : ks ∈ zK_all) (hI : zy_I ks M) (hR : zX ks M) {a0 : Int32} {a1 : Int32} {x y : Int32} (ho : zy_o2 ks M zF_X9_ask zF_X10_ask [.int a0, .int a1] [.int a0, .int a1] (.int x) (.int y) N1 N2) (f1 : zt_fr WX_ask (zm_sub2 [(0, 164)] M) N1) (f2 : zt_fr WM_ask (zm_sub2 [(165, 31)] (zm_mrg [(0, 164)] M N1)) N2) : zX ks (zy_2 M N1 N2) := ⟨zR_2 hR.1 f1 f2 (by decide +kernel), zX_2 (zX_fr hR.2 (by decide +kernel) f1)⟩
theorem zr_marks (hks : ks ∈ zK_all) (hI : zy_I ks M) (hR : zX ks M) {a0 : Int32} {x y : Int32} (ho : zy_o2 ks M zF_X9_marks zF_X10_marks [.int a0] [.int a0] (.int x) (.int y) N1 N2) (f1 : zt_fr WX_marks (zm_sub2 [(0, 164)] M) N1) (f2 : zt_fr WM_marks (zm_sub2 [(165, 31)] (zm_mrg [(0, 164)] M N1)) N2) : zX ks (zy_2 M N1 N2) := ⟨zR_2 hR.1 f1 f2 (by decide +kernel), zX_2 (zX_fr hR.2 (by decide +kernel) f1)⟩
theorem zr_mark (hks : ks ∈ zK_all) (hI : zy_I ks M) (hR : zX ks M) {a0 : Int32} {a1 : Int32} {x y : Int32} (ho : zy_o2 ks M zF_X9_mark zF_X10_mark [.int a0, .int a1] [.int a0, .int a1] (.int x) (.int y) N1 N2) (f1 : zt_fr WX_mark (zm_sub2 [(0, 164)] M) N1) (f2 : zt_fr WM_mark (zm_sub2 [(165, 31)] (zm_mrg [(0, 164)] M N1)) N2) : zX ks (zy_2 M N1 N2) := ⟨zR_2 hR.1 f1 f2 (by decide +kernel), zX_2 (zX_fr hR.2 (by decide +kernel) f1)⟩
theorem zr_under (hks : ks ∈ zK_all) (hI : zy_I ks M) (hR : zX ks M) {a0 : Int32} {a1 : Int32} {x y : Int32} (ho : zy_o2 ks M zF_X9_under zF_X10_under [.int a0, .int a1] [.int a0, .int a1] (.int x) (.int y) N1 N2) (f1 : zt_fr WX_under (zm_sub2 [(0, 164)] M) N1) (f2 : zt_fr WM_under (zm_sub2 [(165, 31)] (zm_mrg [(0, 164)] M N1)) N2) : zX ks (zy_2 M N1 N2) := ⟨zR_2 hR.1 f1 f2 (by decide +kernel), zX_2 (zX_fr hR.2 (by decide +kernel) f1)⟩
theorem zr_rests (hks : ks ∈ zK_all) (hI : zy_I ks M) (hR : zX ks M) {a0 : Int32} {a1 : Int32} {x y : Int32} (ho : zy_o2 ks M zF_X9_rests zF_X10_rests [.int a0, .int a1] [.int a0, .int a1] (.int x) (.int y) N1 N2) (f1 : zt_fr WX_rests (zm_sub2 [(0, 164)] M) N1) (f2 : zt_fr WM_rests (zm_sub2 [(165, 31)] (zm_mrg [(0, 164)] M N1)) N2) : zX ks (zy_2 M N1 N2) := ⟨zR_2 hR.1 f1 f2 (by decide +kernel), zX_2 (zX_fr hR.2 (by decide +kernel) f1)⟩
theorem zr_rest (hks : ks ∈ zK_all) (hI : zy_I ks M) (hR : zX ks M) {a0 : Int32} {a1 : Int32} {x y : Int32} (ho : zy_o2 ks M zF_X9_rest zF_X10_rest [.int a0, .int a1] [.int a0, .int a1] (.int x) (.int y) N1 N2) (f1 : zt_fr WX_rest (zm_sub2 [(0, 164)] M) N1) (f2 : zt_fr WM_rest (zm_sub2 [(165, 31)] (zm_mrg [(0, 164)] M N1)) N2) : zX ks (zy_2 M N1 N2) := ⟨zR_2 hR.1 f1 f2 (by decide +kernel), zX_2 (zX_fr hR.2 (by decide +kernel) f1)⟩
theorem zr_swaps (hks : ks ∈ zK_all) (hI : zy_I ks M) (hR : zX ks M) {x y : Int32} (ho : zy_o2 ks M zF_X9_swaps zF_X10_swaps [] [] (.int x) (.int y) N1 N2) (f1 : zt_fr WX_swaps (zm_sub2 [(0, 164)] M) N1) (f2 : zt_fr WM_swaps (zm_sub2 [(165, 31)] (zm_mrg [(0, 164)] M N1)) N2) : zX ks (zy_2 M N1 N2) := ⟨zR_2 hR.1 f1 f2 (by decide +kernel), zX_2 (zX_con (zi_4034 0 zo_hd) rfl rfl (by decide) (zq_s1 zq_r0 zq_s0) zh_no hI.1 hR.2 ho.1)⟩
theorem zr_swap (hks : ks ∈ zK_all) (hI : zy_I ks M) (hR : zX ks M) {x y : Int32} (ho : zy_o2 ks M zF_X9_swap zF_X10_swap [] [] (.int x) (.int y) N1 N2) (f1 : zt_fr WX_swap (zm_sub2 [(0, 164)] M) N1) (f2 : zt_fr WM_swap (zm_sub2 [(165, 31)] (zm_mrg [(0, 164)] M N1)) N2) : zX ks (zy_2 M N1 N2) := ⟨zR_2 hR.1 f1 f2 (by decide +kernel), zX_2 (zX_con (zi_4035 0 zo_hd) rfl rfl (by decide) (zq_s1 zq_r0 zq_s0) zh_no hI.1 hR.2 ho.1)⟩
theorem zr_chance (hks : ks ∈ zK_all) (hI : zy_I ks M) (hR : zX ks M) {a0 : Int32} {a1 : Int32} {a2 : Int32} {x y : Int64} (ho : zy_o2 ks M zF_X9_chance zF_X10_chance [.int a0, .int a1, .int a2] [.int a0, .int a1, .int a2] (.long x) (.long y) N1 N2) (f1 : zt_fr WX_chance (zm_sub2 [(0, 164)] M) N1) (f2 : zt_fr WM_chance (zm_sub2 [(165, 31)] (zm_mrg [(0, 164)] M N1)) N2) : zX ks (zy_2 M N1 N2) := ⟨zR_2 hR.1 f1 f2 (by decide +kernel), zX_2 (zX_fr hR.2 (by decide +kernel) f1)⟩
theorem zr_luckily (hks : ks ∈ zK_all) (hI : zy_I ks M) (hR : zX ks M) {a0 : Int32} {a1 : Int32} {a2 : Int32} {x y : Int64} (ho : zy_o2 ks M zF_X9_luckily zF_X10_luckily [.int a0, .int a1, .int a2] [.int a0, .int a1, .int a2] (.long x) (.long y) N1 N2) (f1 : zt_fr WX_luckily (zm_sub2 [(0, 164)] M) N1) (f2 : zt_fr WM_luckily (zm_sub2 [(165, 31)] (zm_mrg [(0, 164)] M N1)) N2) : zX ks (zy_2 M N1 N2) := ⟨zR_2 hR.1 f1 f2 (by decide +kernel), zX_2 (zX_fr hR.2 (by decide +kernel) f1)⟩
theorem zr_mean (hks : ks ∈ zK_all) (hI : zy_I ks M) (hR : zX ks M) {a0 : Int32} {a1 : Int32} {x y : Int64} (ho : zy_o2 ks M zF_X9_mean zF_X10_mean [.int a0, .int a1] [.int a0, .int a1] (.long x) (.long y) N1 N2) (f1 : zt_fr WX_mean (zm_sub2 [(0, 164)] M) N1) (f2 : zt_fr WM_mean (zm_sub2 [(165, 31)] (zm_mrg [(0, 164)] M N1)) N2) : zX ks (zy_2 M N1 N2) := ⟨zR_2 hR.1 f1 f2 (by decide +kernel), zX_2 (zX_fr hR.2 (by decide +kernel) f1)⟩
theorem zr_move (hks : ks ∈ zK_all) (hI : zy_I ks M) (hR : zX ks M) {a0 : Int32} {a1 : Int32} {a2 : Int32} {x y : Int32} (ho : zy_o2 ks M zF_X9_move zF_X10_move [.int a0, .int a1, .int a2] [.int a0, .int a1, .int a2] (.int x) (.int y) N1 N2) (f1 : zt_fr WX_move (zm_sub2 [(0, 164)] M) N1) (f2 : zt_fr WM_move (zm_sub2 [(165, 31)] (zm_mrg [(0, 164)] M N1)) N2) : zX ks (zy_2 M N1 N2) := ⟨zW_mv hI hR.1 ho f1 f2 (by decide +kernel), zX_2 (zX_con (zi_4036 0 zo_hd) rfl rfl (by decide) (zq_s1 zq_r0 (zq_s1 (zt_v_top a0) (zq_s1 (zt_v_top a1) (zq_s1 (zt_v_top a2) zq_s0)))) zh_no hI.1 hR.2 ho.1)⟩
theorem zr_undo (hks : ks ∈ zK_all) (hI : zy_I ks M) (hR : zX ks M) {x y : Int32} (ho : zy_o2 ks M zF_X9_undo zF_X10_undo [] [] (.int x) (.int y) N1 N2) (f1 : zt_fr WX_undo (zm_sub2 [(0, 164)] M) N1) (f2 : zt_fr WM_undo (zm_sub2 [(165, 31)] (zm_mrg [(0, 164)] M N1)) N2) : zX ks (zy_2 M N1 N2) := ⟨(zW_un hR.1 ho f1 f2 (by decide +kernel)).2, zX_2 (zX_con (zi_4038 0 zo_hd) rfl rfl (by decide) (zq_s1 zq_r0 zq_s0) zh_no hI.1 hR.2 ho.1)⟩
theorem zr_anew (hks : ks ∈ zK_all) (hI : zy_I ks M) (hR : zX ks M) {x y : Int32} (ho : zy_o2 ks M zF_X9_anew zF_X10_anew [] [] (.int x) (.int y) N1 N2) (f1 : zt_fr WX_anew (zm_sub2 [(0, 164)] M) N1) (f2 : zt_fr WM_anew (zm_sub2 [(165, 31)] (zm_mrg [(0, 164)] M N1)) N2) : zX ks (zy_2 M N1 N2) := ⟨(zW_an hR.1 ho f1 f2 (by decide +kernel)).2, zX_2 (zX_con (zi_4039 0 zo_hd) rfl rfl (by decide) (zq_s1 zq_r0 zq_s0) zh_no hI.1 hR.2 ho.1)⟩
theorem zr_drawn (hks : ks ∈ zK_all) (hI : zy_I ks M) (hR : zX ks M) {a0 : Int32} {a1 : Int32} {x y : Int32} (ho : zy_o2 ks M zF_X9_drawn zF_X10_drawn [.int a0, .int a1] [.int a0, .int a1] (.int x) (.int y) N1 N2) (f1 : zt_fr WX_drawn (zm_sub2 [(0, 164)] M) N1) (f2 : zt_fr WM_drawn (zm_sub2 [(165, 31)] (zm_mrg [(0, 164)] M N1)) N2) : zX ks (zy_2 M N1 N2) := ⟨zR_2 hR.1 f1 f2 (by decide +kernel), zX_2 (zX_fr hR.2 (by decide +kernel) f1)⟩
theorem zr_luck (hks : ks ∈ zK_all) (hI : zy_I ks M) (hR : zX ks M) {a0 : Int32} {a1 : Int32} {a2 : Int32} {x y : Int32} (ho : zy_o2 ks M zF_X9_luck zF_X10_luck [.int a0, .int a1, .int a2] [.int a0, .int a1, .int a2] (.int x) (.int y) N1 N2) (f1 : zt_fr WX_luck (zm_sub2 [(0, 164)] M) N1) (f2 : zt_fr WM_luck (zm_sub2 [(165, 31)] (zm_mrg [(0, 164)] M N1)) N2) : zX ks (zy_2 M N1 N2) := ⟨zR_2 hR.1 f1 f2 (by decide +kernel), zX_2 (zX_fr hR.2 (by decide +kernel) f1)⟩
theorem zr_rate (hks : ks ∈ zK_all) (hI : zy_I ks M) (hR : zX ks M) {a0 : Int32} {x y : Int32} (ho : zy_o2 ks M zF_X9_rate zF_X10_rate [.int a0] [.int a0] (.int x) (.int y) N1 N2) (f1 : zt_fr WX_rate (zm_sub2 [(0, 164)] M) N1) (f2 : zt_fr WM_rate (zm_sub2 [(165, 31)] (zm_mrg [(0, 164)] M N1)) N2) : zX ks (zy_2 M N1 N2) := ⟨(zW_ra hR.1 ho f1 f2 (by decide +kernel)).2, zX_2 (zX_con (zi_4040 0 zo_hd) rfl rfl (by decide) (zq_s1 zq_r0 (zq_s1 (zt_v_top a0) zq_s0)) zh_no hI.1 hR.2 ho.1)⟩
theorem zr_count (hks : ks ∈ zK_all) (hI : zy_I ks M) (hR : zX ks M) {a0 : Int32} {x y : Int32} (ho : zy_o2 ks M zF_X9_count zF_X10_count [.int a0] [.int a0] (.int x) (.int y) N1 N2) (f1 : zt_fr WX_count (zm_sub2 [(0, 164)] M) N1) (f2 : zt_fr WM_count (zm_sub2 [(165, 31)] (zm_mrg [(0, 164)] M N1)) N2) : zX ks (zy_2 M N1 N2) := ⟨zR_2 hR.1 f1 f2 (by decide +kernel), zX_2 (zX_fr hR.2 (by decide +kernel) f1)⟩
theorem zr_row (hks : ks ∈ zK_all) (hI : zy_I ks M) (hR : zX ks M) {a0 : Int32} {a1 : Int32} {a2 : Int32} {x y : Int32} (ho : zy_o2 ks M zF_X9_row zF_X10_row [.int a0, .int a1, .int a2] [.int a0, .int a1, .int a2] (.int x) (.int y) N1 N2) (f1 : zt_fr WX_row (zm_sub2 [(0, 164)] M) N1) (f2 : zt_fr WM_row (zm_sub2 [(165, 31)] (zm_mrg [(0, 164)] M N1)) N2) : zX ks (zy_2 M N1 N2) := ⟨zR_2 hR.1 f1 f2 (by decide +kernel), zX_2 (zX_fr hR.2 (by decide +kernel) f1)⟩
theorem zr_write (hks : ks ∈ zK_all) (hI : zy_I ks M) (hR : zX ks M) {a0 : Int32} {a1 : Int32} {a2 : Int64} {x y : Int32} (ho : zy_o2 ks M zF_X9_write zF_X10_write [.int a0, .int a1, .long a2] [.int a0, .int a1, .long a2] (.int x) (.int y) N1 N2) (f1 : zt_fr WX_write (zm_sub2 [(0, 164)] M) N1) (f2 : zt_fr WM_write (zm_sub2 [(165, 31)] (zm_mrg [(0, 164)] M N1)) N2) : zX ks (zy_2 M N1 N2) := ⟨zR_2 hR.1 f1 f2 (by decide +kernel), zX_2 (zX_fr hR.2 (by decide +kernel) f1)⟩
theorem zr_paste (hks : ks ∈ zK_all) (hI : zy_I ks M) (hR : zX ks M) {a0 : Int32} {a1 : Int32} {a2 : Int32} {a3 : Int32} {a4 : Int32} {x y : Int32} (ho : zy_o2 ks M zF_X9_paste zF_X10_paste [.int a0, .int a1, .int a2, .int a3, .int a4] [.int a0, .int a1, .int a2, .int a3, .int a4] (.int x) (.int y) N1 N2) (f1 : zt_fr WX_paste (zm_sub2 [(0, 164)] M) N1) (f2 : zt_fr WM_paste (zm_sub2 [(165, 31)] (zm_mrg [(0, 164)] M N1)) N2) : zX ks (zy_2 M N1 N2) := ⟨zR_2 hR.1 f1 f2 (by decide +kernel), zX_2 (zX_fr hR.2 (by decide +kernel) f1)⟩
theorem zr_sits (hks : ks ∈ zK_all) (hI : zy_I ks M) (hR : zX ks M) {a0 : Int32} {a1 : Int32} {x y : Int32} (ho : zy_o2 ks M zF_X9_sits zF_X10_sits [.int a0, .int a1] [.int a0, .int a1] (.int x) (.int y) N1 N2) (f1 : zt_fr WX_sits (zm_sub2 [(0, 164)] M) N1) (f2 : zt_fr WM_sits (zm_sub2 [(165, 31)] (zm_mrg [(0, 164)] M N1)) N2) : x = y ∧ zX ks (zy_2 M N1 N2) := ⟨zZ_sits (X := (zm_sub2 [(0, 164)] M).1) (Q := (zm_sub2 [(0, 164)] M).2) (I := (zm_sub2 [(165, 31)] (zm_mrg [(0, 164)] M N1)).1) (J := (zm_sub2 [(165, 31)] (zm_mrg [(0, 164)] M N1)).2) hI.1 hR.2 (zW_in hR.1) (zy_1G N1 hI.2.1) (zy_1P N1 hI.2.2.1) a0 a1 ho.1 ho.2, zR_2 hR.1 f1 f2 (by decide +kernel), zX_2 (zX_con (zi_4004 0 zo_hd) rfl rfl (by decide) (zq_s1 zq_r0 (zq_s1 (zt_v_top a0) (zq_s1 (zt_v_top a1) zq_s0))) zh_no hI.1 hR.2 ho.1)⟩
end ZRR
theorem zr_image {ks ks2 : List Nat} {M M1 N2 : zm_I} (hks : ks ∈ zK_all) (hI : zy_I ks M) (hI2 : zy_I ks2 M1) (hR : zX ks M) {a0 x y : Int32} (ho : zy_img ks M a0 x ks2 M1) (h2 : zF_X10_image zW_M [.ref 0, .int a0] (zm_sub2 [(165, 31)] M1) = some (some (.int y), N2)) (f2 : zt_fr WM_image (zm_sub2 [(165, 31)] M1) N2) : zX ks2 (zm_mrg [(165, 31)] M1 N2) := ⟨(zR_imK hks hI hR.1 ho h2).2, zX_m (zX_im hR.2 ho)⟩
theorem zr_back {ks : List Nat} {M M1 N2 : zm_I} (hks : ks ∈ zK_all) (hI : zy_I ks M) (hI2 : zy_I ks M1) (hR : zX ks M) {a0 x y : Int32} (ho : zy_bck ks M a0 x M1) (h2 : zF_X10_back zW_M [.ref 0, .int a0] (zm_sub2 [(165, 31)] M1) = some (some (.int y), N2)) (f2 : zt_fr WM_back (zm_sub2 [(165, 31)] M1) N2) : zX ks (zm_mrg [(165, 31)] M1 N2) := ⟨(zR_bk hks hI hR.1 ho h2).2, zX_m (zX_bk hR.2 ho)⟩
theorem zr_start0 : zR [] zL_M := by
  have x : ∀ n b, n < 164 → zL_M.1 n b = zc_I n b := fun n b hn => by rw [zl_fX hn]
  have m : ∀ n b, n < 31 → zR_M zL_M n b = zc_M n b := fun n b hn => by
    show zL_M.1 (165 + n) b = _
    rw [zl_fM hn]
  refine ⟨⟨?_, fun i hi => ?_, ?_, ?_⟩, ⟨⟨?_, ?_, ?_, ⟨?_, ?_, ?_⟩, fun j hj hl => ?_, fun c hc hl => ?_⟩, ⟨?_, ?_, ?_, ?_⟩, fun c hc hl => ?_, fun k hk hl => ?_⟩, fun k i hk hix => (by cases hix), fun k hk => ?_⟩
  · rw [x 51 1 (by decide), m 0 6 (by decide)]; decide
  · rw [x 51 1 (by decide), show (zc_I 51 1).toInt = 0 by decide] at hi
    omega
  · rw [x 51 2 (by decide), m 0 14 (by decide)]; decide
  · rw [x 51 3 (by decide), m 0 15 (by decide)]; decide
  · rw [x 1 0 (by decide), m 6 0 (by decide)]; decide
  · rw [x 1 5 (by decide), m 7 (7 * 0 + 4) (by decide)]; decide
  · rw [x 1 6 (by decide), m 7 (7 * 0 + 5) (by decide)]; decide
  · rw [x 1 1 (by decide), m 7 (7 * 0) (by decide)]; decide
  · rw [x 1 3 (by decide), m 7 (7 * 0 + 2) (by decide)]; decide
  · rw [x 1 4 (by decide), m 7 (7 * 0 + 3) (by decide)]; decide
  · rw [x 1 5 (by decide), show (zc_I 1 5).toInt = 0 by decide] at hl
    omega
  · rw [x 1 6 (by decide), show (zc_I 1 6).toInt = 0 by decide] at hl
    omega
  · rw [x 1 2 (by decide), m 7 (7 * 0 + 1) (by decide)]; decide
  · rw [x 1 7 (by decide), m 7 (7 * 0 + 6) (by decide)]; decide
  · rw [x 1 7 (by decide)]; decide
  · rw [x 1 7 (by decide)]; decide
  · rw [x 1 6 (by decide), show (zc_I 1 6).toInt = 0 by decide] at hl
    omega
  · rw [x 1 7 (by decide), show (zc_I 1 7).toInt = 0 by decide] at hl
    omega
  · have e : zL_M.1 176 k = zc_M 11 k := m 11 k (by decide)
    rw [e, zl_z (by decide)]
    rfl
theorem zr_start : zX [] zL_M := by
  refine ⟨zr_start0, Or.inl ?_⟩
  rw [(zX_s (M := zL_M) (by decide)).1, zl_fX (by decide)]
  decide
end
section
/-! THE LAW'S WALK (printed by program, wip/law/genloop.py) -/
/-- the law's end, over the claim's own room -/
def zf_Q (_ : Array Value) (s : State) (o : Outcome) (t : State) : Prop := o = .returned (some (.int 1)) ∧ Framed s o t [] room_1.cells room_1.slots
def zf_Z (below : List Frame) (a : Array Value) (s : State) : State → Prop := fun t => ∃ o, t.status = .running ∧ Ended t below o ∧ zf_Q a s o t
theorem zf_ret {p : Program} {l : Launch} {e : Env} {s : State} {m : MethodId} {below : List Frame} {meth : Method} {c : Code} {b : Nat} (hx : p.tables.exec = Jvm.exec) (hb : c.code = code) (hr : meth.sig.returnType = ret) (hlocks : meth.locks = false) {pc : Nat} {H : Heap} {ls : Array Slot} (hdg : decode code pc = .ok (.ireturn, 1)) : W p l e room_1 s m #[Value.ref b] below meth c H [] room_1.cells room_1.slots (zf_Z below #[Value.ref b] s) (F0 m pc ls [.int 1]) := by
  intro T hT X
  obtain ⟨fs, hret, hrun, hended, hW, hframe⟩ := X.leave (v := some (.int 1)) (hlocks := hlocks) (fun h => by rw [hr] at h; cases h)
  have hmeth' : T.vm.method? m = some meth := X.method'
  refine ⟨T.setFrames fs, ?_, .returned (some (.int 1)), hrun, hended, rfl, ⟨_, rfl⟩, hW, hframe⟩
  jvm_step X.here [X.here.top, hx, hb, hdg, hmeth', hr, ret, narrow_b1]
  (try refine ⟨rfl, ?_⟩); (try refine ⟨rfl, ?_⟩)
  first | (intro acts; rw [hret _ acts rfl rfl rfl]) | rw [hret _ _ rfl rfl rfl]
  exact Steps.refl _
def zf_B (p : Program) (s : State) (m : MethodId) (meth : Method) (c : Code) (b L : Nat) (xs : Nat → Int32) (D : va_G) (cA : FieldType → ClassId) (g : Nat → Nat) : Prop :=
  (∀ T : zm_T, T.2.2.2.1 = ret → (T.2.2.2.2 = none ∨ T.2.2.2.2 = some (L, xs)) → ∀ (h : Nat → Nat → Nat) (c0 s0 : Nat), (∀ n, h 1 n = g n) → c0 ≤ room_1.cells → s0 ≤ room_1.slots → zm_B p s m #[Value.ref b] meth c R_law code 4 T D cA h (fun q => s.heap.size ≤ q) room_1 c0 s0) ∧ zn_AO s
section ZFN
variable {p : Program} {l : Launch} {e : Env} {s : State} {m : MethodId} {below : List Frame} {meth : Method} {c : Code} {b L : Nat} {xs : Nat → Int32} {D : va_G} {cA : FieldType → ClassId} {g : Nat → Nat} {h : Nat → Nat → Nat} {wl : zm_L} {c0 s0 : Nat} {T : zm_T} {M0 M1 : zm_I} {S S' : zm_S}
theorem zf_end (hB : zf_B p s m meth c b L xs D cA g) (hg : ∀ n, h 1 n = g n) (hc : c0 ≤ room_1.cells) (hs : s0 ≤ room_1.slots) {ls : List (Option Value)} {M : zm_I} : zm_G p l e room_1 s m #[Value.ref b] below meth c (zf_Z below #[Value.ref b] s) D cA h wl (fun q => s.heap.size ≤ q) 4 c0 s0 (zp_end + 1, ls, [.int 1], M) := by
  intro H locs la hl hP hS'
  obtain ⟨hx, hb, hml, hown, hts, hK, hr, hlk, hZ, hcs, hsc⟩ := hB.1 ([], [], [], ret, none) rfl (Or.inl rfl) h 0 0 hg (Nat.zero_le _) (Nat.zero_le _)
  exact va_forget (fun q hq => hS'.2.2 q hq) (W.widen hc hs (zf_ret hx hb hr hlk zf_dend))
theorem zf_step (hB : zf_B p s m meth c b L xs D cA g) (hg : ∀ n, h 1 n = g n) (hT : zm_ok l room_1 R_law code T ∧ zl_nr T.1 = true) (h1 : T.2.2.2.1 = ret) (h2 : T.2.2.2.2 = some (L, xs)) (hD : va_D (fun q => s.heap.size ≤ q) (zm_ws cA h wl M0)) (hw : zm_wok wl) (hc : c0 ≤ room_1.cells) (hs : s0 ≤ room_1.slots) (hst : ∀ k : zm_S → zm_R, zm_step T wl k S = k S') (hG : zm_G p l e room_1 s m #[Value.ref b] below meth c (zf_Z below #[Value.ref b] s) D cA h wl (fun q => s.heap.size ≤ q) 4 c0 s0 S') : zm_G p l e room_1 s m #[Value.ref b] below meth c (zf_Z below #[Value.ref b] s) D cA h wl (fun q => s.heap.size ≤ q) 4 c0 s0 S :=
  zl_run_ok (k := zn_k S') (r := (none, S'.2.2.2)) (hB.1 T h1 (Or.inr h2) h c0 s0 hg hc hs) hT.1 hT.2 hD (fun q hq => hq) hw (fun S'' hq => by have := zn_k_inv hq; subst this; exact hG) 1 S ((hst _).trans (zn_k_self S'))
theorem zf_pop2 (hB : zf_B p s m meth c b L xs D cA g) (hg : ∀ n, h 1 n = g n) {pc : Nat} (hd : decode code pc = .ok (.pop2, 1)) {ls : List (Option Value)} {st : List Value} {x : Int64} {M : zm_I} (hG : zm_G p l e room_1 s m #[Value.ref b] below meth c (zf_Z below #[Value.ref b] s) D cA h wl (fun q => s.heap.size ≤ q) 4 c0 s0 (pc + 1, ls, st, M)) : zm_G p l e room_1 s m #[Value.ref b] below meth c (zf_Z below #[Value.ref b] s) D cA h wl (fun q => s.heap.size ≤ q) 4 c0 s0 (pc, ls, .long x :: st, M) := by
  intro H locs la hl hP hS
  obtain ⟨hx, hb, hml, hown, hts, hK, hr, hlk, hZ, hcs, hsc⟩ := hB.1 ([], [], [], ret, none) rfl (Or.inl rfl) h 0 0 hg (Nat.zero_le _) (Nat.zero_le _)
  exact lv_pop2_2 hx hb hd rfl (hG H locs la hl hP hS)
end ZFN
section ZFO
variable {p : Program} {l : Launch} {e : Env} {s : State} {m : MethodId} {below : List Frame} {meth : Method} {c : Code} {b L : Nat} {xs : Nat → Int32} {D : va_G} {cA : FieldType → ClassId} {g : Nat → Nat} {h : Nat → Nat → Nat} {c0 s0 : Nat} {T : zm_T} {M : zm_I} {ks : List Nat} {ls : List (Option Value)} {pc pc1 pc2 nX nM : Nat} {FX FM : zm_L → List Value → zm_I → zm_R} {aX aM : List Value} {WX WM : zt_W}
theorem zy_I2 (hks : ks ∈ zK_all) (hI : zy_I ks M) (hX : zt_Gs zo_g1 (zm_sub2 [(0, 164)] M) → ∃ (x : Int32) (N : zm_I), FX zW_X (.ref 0 :: aX) (zm_sub2 [(0, 164)] M) = some (some (.int x), N) ∧ zt_Gs zo_g1 N ∧ zt_fr WX (zm_sub2 [(0, 164)] M) N) (hM : ∀ {M' : zm_I}, zt_Gs zo_g22 M' → zq_P M' → ∃ (y : Int32) (N : zm_I), FM zW_M (.ref 0 :: aM) M' = some (some (.int y), N) ∧ zt_Gs zo_g22 N ∧ zq_P N ∧ zt_fr WM M' N) : ∃ (x y : Int32) (N1 N2 : zm_I), zy_o2 ks M FX FM aX aM (.int x) (.int y) N1 N2 ∧ zy_I ks (zy_2 M N1 N2) ∧ zt_fr WX (zm_sub2 [(0, 164)] M) N1 ∧ zt_fr WM (zm_sub2 [(165, 31)] (zm_mrg [(0, 164)] M N1)) N2 := by
  obtain ⟨x, N1, h1, g1, f1⟩ := hX hI.1
  obtain ⟨y, N2, h2, g2, p2, f2⟩ := hM (zy_1G N1 hI.2.1) (zy_1P N1 hI.2.2.1)
  exact ⟨x, y, N1, N2, ⟨h1, h2⟩, zy_2I hks hI g1 g2 p2, f1, f2⟩
theorem zy_J2 (hks : ks ∈ zK_all) (hI : zy_I ks M) (hX : zt_Gs zo_g1 (zm_sub2 [(0, 164)] M) → ∃ (x : Int64) (N : zm_I), FX zW_X (.ref 0 :: aX) (zm_sub2 [(0, 164)] M) = some (some (.long x), N) ∧ zt_Gs zo_g1 N ∧ zt_fr WX (zm_sub2 [(0, 164)] M) N) (hM : ∀ {M' : zm_I}, zt_Gs zo_g22 M' → zq_P M' → ∃ (y : Int64) (N : zm_I), FM zW_M (.ref 0 :: aM) M' = some (some (.long y), N) ∧ zt_Gs zo_g22 N ∧ zq_P N ∧ zt_fr WM M' N) : ∃ (x y : Int64) (N1 N2 : zm_I), zy_o2 ks M FX FM aX aM (.long x) (.long y) N1 N2 ∧ zy_I ks (zy_2 M N1 N2) ∧ zt_fr WX (zm_sub2 [(0, 164)] M) N1 ∧ zt_fr WM (zm_sub2 [(165, 31)] (zm_mrg [(0, 164)] M N1)) N2 := by
  obtain ⟨x, N1, h1, g1, f1⟩ := hX hI.1
  obtain ⟨y, N2, h2, g2, p2, f2⟩ := hM (zy_1G N1 hI.2.1) (zy_1P N1 hI.2.2.1)
  exact ⟨x, y, N1, N2, ⟨h1, h2⟩, zy_2I hks hI g1 g2 p2, f1, f2⟩
/-- a call whose answers aren't compared -/
theorem zy_opI (hB : zf_B p s m meth c b L xs D cA g) (hg : ∀ n, h 1 n = g n) (hks : ks ∈ zK_all) (hD : va_D (fun q => s.heap.size ≤ q) (zm_ws cA h (zL_w ks) M)) (hc : c0 ≤ room_1.cells) (hs : s0 ≤ room_1.slots) (hT : zm_ok l room_1 R_law code T ∧ zl_nr T.1 = true) (h1 : T.2.2.2.1 = ret) (h2 : T.2.2.2.2 = some (L, xs))
    (e1 : ∀ (k : zm_S → zm_R), zm_step T (zL_w ks) k (pc, ls, [], M) = zm_app (nX, some 9, false, [(0, 164)], FX) (zL_w ks) (.ref 0 :: aX) M (fun v N => k (pc1, ls, v.toList ++ [], N)))
    (e2 : ∀ (v : Int32) (M : zm_I) (k : zm_S → zm_R), zm_step T (zL_w ks) k (pc1, ls, [.int v], M) = zm_app (nM, some 10, false, [(0, 31)], FM) (zL_w ks) (.ref 165 :: aM) M (fun w N => k (pc2, ls, w.toList ++ [], N)))
    (e3 : ∀ (w : Int32) (M : zm_I) (k : zm_S → zm_R), zm_step T (zL_w ks) k (pc2, ls, [.int w], M) = k (zp_tail, ls, [], M))
    (tX : aX.map (zm_tr [(0, 164)]) = aX) (tM : aM.map (zm_tr [(165, 31)]) = aM) {x y : Int32} {N1 N2 : zm_I} (ho : zy_o2 ks M FX FM aX aM (.int x) (.int y) N1 N2)
    (hk : zm_G p l e room_1 s m #[Value.ref b] below meth c (zf_Z below #[Value.ref b] s) D cA h (zL_w ks) (fun q => s.heap.size ≤ q) 4 c0 s0 (zp_tail, ls, [], zy_2 M N1 N2)) : zm_G p l e room_1 s m #[Value.ref b] below meth c (zf_Z below #[Value.ref b] s) D cA h (zL_w ks) (fun q => s.heap.size ≤ q) 4 c0 s0 (pc, ls, [], M) := by
  have hw := (zK_w hks).2.2.2.1
  refine zf_step hB hg hT h1 h2 hD hw hc hs (S' := (pc1, ls, [.int x], zm_mrg [(0, 164)] M N1)) (fun k => (e1 k).trans (zy_callX hks ho.1 tX rfl _)) ?_
  refine zf_step hB hg hT h1 h2 (zm_D_any hD) hw hc hs (M0 := M) (S' := (pc2, ls, [.int y], zy_2 M N1 N2)) (fun k => (e2 x _ k).trans (zy_callM hks ho.2 tM rfl _)) ?_
  exact zf_step hB hg hT h1 h2 (zm_D_any hD) hw hc hs (M0 := M) (fun k => e3 y _ k) hk
theorem zy_opJ (hB : zf_B p s m meth c b L xs D cA g) (hg : ∀ n, h 1 n = g n) (hks : ks ∈ zK_all) (hD : va_D (fun q => s.heap.size ≤ q) (zm_ws cA h (zL_w ks) M)) (hc : c0 ≤ room_1.cells) (hs : s0 ≤ room_1.slots) (hT : zm_ok l room_1 R_law code T ∧ zl_nr T.1 = true) (h1 : T.2.2.2.1 = ret) (h2 : T.2.2.2.2 = some (L, xs))
    (e1 : ∀ (k : zm_S → zm_R), zm_step T (zL_w ks) k (pc, ls, [], M) = zm_app (nX, some 9, false, [(0, 164)], FX) (zL_w ks) (.ref 0 :: aX) M (fun v N => k (pc1, ls, v.toList ++ [], N)))
    (d1 : decode code pc1 = .ok (.pop2, 1))
    (e2 : ∀ (M : zm_I) (k : zm_S → zm_R), zm_step T (zL_w ks) k (pc1 + 1, ls, [], M) = zm_app (nM, some 10, false, [(0, 31)], FM) (zL_w ks) (.ref 165 :: aM) M (fun w N => k (pc2, ls, w.toList ++ [], N)))
    (d2 : decode code pc2 = .ok (.pop2, 1))
    (e3 : ∀ (M : zm_I) (k : zm_S → zm_R), zm_step T (zL_w ks) k (pc2 + 1, ls, [], M) = k (zp_tail, ls, [], M))
    (tX : aX.map (zm_tr [(0, 164)]) = aX) (tM : aM.map (zm_tr [(165, 31)]) = aM) {x y : Int64} {N1 N2 : zm_I} (ho : zy_o2 ks M FX FM aX aM (.long x) (.long y) N1 N2)
    (hk : zm_G p l e room_1 s m #[Value.ref b] below meth c (zf_Z below #[Value.ref b] s) D cA h (zL_w ks) (fun q => s.heap.size ≤ q) 4 c0 s0 (zp_tail, ls, [], zy_2 M N1 N2)) : zm_G p l e room_1 s m #[Value.ref b] below meth c (zf_Z below #[Value.ref b] s) D cA h (zL_w ks) (fun q => s.heap.size ≤ q) 4 c0 s0 (pc, ls, [], M) := by
  have hw := (zK_w hks).2.2.2.1
  refine zf_step hB hg hT h1 h2 hD hw hc hs (S' := (pc1, ls, [.long x], zm_mrg [(0, 164)] M N1)) (fun k => (e1 k).trans (zy_callX hks ho.1 tX rfl _)) ?_
  refine zf_pop2 hB hg d1 ?_
  refine zf_step hB hg hT h1 h2 (zm_D_any hD) hw hc hs (M0 := M) (S' := (pc2, ls, [.long y], zy_2 M N1 N2)) (fun k => (e2 _ k).trans (zy_callM hks ho.2 tM rfl _)) ?_
  refine zf_pop2 hB hg d2 ?_
  exact zf_step hB hg hT h1 h2 (zm_D_any hD) hw hc hs (M0 := M) (fun k => e3 _ k) hk
/-- the call whose answers are compared -/
theorem zy_opC (hB : zf_B p s m meth c b L xs D cA g) (hg : ∀ n, h 1 n = g n) (hks : ks ∈ zK_all) (hD : va_D (fun q => s.heap.size ≤ q) (zm_ws cA h (zL_w ks) M)) (hc : c0 ≤ room_1.cells) (hs : s0 ≤ room_1.slots) (hT : zm_ok l room_1 R_law code T ∧ zl_nr T.1 = true) (h1 : T.2.2.2.1 = ret) (h2 : T.2.2.2.2 = some (L, xs))
    (e1 : ∀ (k : zm_S → zm_R), zm_step T (zL_w ks) k (pc, ls, [], M) = zm_app (nX, some 9, false, [(0, 164)], FX) (zL_w ks) (.ref 0 :: aX) M (fun v N => k (pc1, ls, v.toList ++ [], N)))
    (e2 : ∀ (v : Int32) (M : zm_I) (k : zm_S → zm_R), zm_step T (zL_w ks) k (pc1, ls, [.int v], M) = zm_app (nM, some 10, false, [(0, 31)], FM) (zL_w ks) (.ref 165 :: aM) M (fun w N => k (pc2, ls, w.toList ++ [.int v], N))) {pcF : Nat}
    (e3 : ∀ (v w : Int32) (M : zm_I) (k : zm_S → zm_R), zm_step T (zL_w ks) k (pc2, ls, [.int w, .int v], M) = if v = w then k (zp_tail, ls, [], M) else k (pcF, ls, [], M))
    (tX : aX.map (zm_tr [(0, 164)]) = aX) (tM : aM.map (zm_tr [(165, 31)]) = aM) {x y : Int32} {N1 N2 : zm_I} (ho : zy_o2 ks M FX FM aX aM (.int x) (.int y) N1 N2) (hxy : x = y)
    (hk : zm_G p l e room_1 s m #[Value.ref b] below meth c (zf_Z below #[Value.ref b] s) D cA h (zL_w ks) (fun q => s.heap.size ≤ q) 4 c0 s0 (zp_tail, ls, [], zy_2 M N1 N2)) : zm_G p l e room_1 s m #[Value.ref b] below meth c (zf_Z below #[Value.ref b] s) D cA h (zL_w ks) (fun q => s.heap.size ≤ q) 4 c0 s0 (pc, ls, [], M) := by
  have hw := (zK_w hks).2.2.2.1
  refine zf_step hB hg hT h1 h2 hD hw hc hs (S' := (pc1, ls, [.int x], zm_mrg [(0, 164)] M N1)) (fun k => (e1 k).trans (zy_callX hks ho.1 tX rfl _)) ?_
  refine zf_step hB hg hT h1 h2 (zm_D_any hD) hw hc hs (M0 := M) (S' := (pc2, ls, [.int y, .int x], zy_2 M N1 N2)) (fun k => (e2 x _ k).trans (zy_callM hks ho.2 tM rfl _)) ?_
  exact zf_step hB hg hT h1 h2 (zm_D_any hD) hw hc hs (M0 := M) (fun k => (e3 x y _ k).trans (if_pos hxy)) hk
/-- the same of longs -/
theorem zy_opD (hB : zf_B p s m meth c b L xs D cA g) (hg : ∀ n, h 1 n = g n) (hks : ks ∈ zK_all) (hD : va_D (fun q => s.heap.size ≤ q) (zm_ws cA h (zL_w ks) M)) (hc : c0 ≤ room_1.cells) (hs : s0 ≤ room_1.slots) (hT : zm_ok l room_1 R_law code T ∧ zl_nr T.1 = true) (h1 : T.2.2.2.1 = ret) (h2 : T.2.2.2.2 = some (L, xs))
    (e1 : ∀ (k : zm_S → zm_R), zm_step T (zL_w ks) k (pc, ls, [], M) = zm_app (nX, some 9, false, [(0, 164)], FX) (zL_w ks) (.ref 0 :: aX) M (fun v N => k (pc1, ls, v.toList ++ [], N)))
    (e2 : ∀ (v : Int64) (M : zm_I) (k : zm_S → zm_R), zm_step T (zL_w ks) k (pc1, ls, [.long v], M) = zm_app (nM, some 10, false, [(0, 31)], FM) (zL_w ks) (.ref 165 :: aM) M (fun w N => k (pc2, ls, w.toList ++ [.long v], N))) {pcF : Nat}
    (e3 : ∀ (v w : Int64) (M : zm_I) (k : zm_S → zm_R), zm_step T (zL_w ks) k (pc2, ls, [.long w, .long v], M) = if lg_cmp v w = 0 then k (zp_tail, ls, [], M) else k (pcF, ls, [], M))
    (tX : aX.map (zm_tr [(0, 164)]) = aX) (tM : aM.map (zm_tr [(165, 31)]) = aM) {x y : Int64} {N1 N2 : zm_I} (ho : zy_o2 ks M FX FM aX aM (.long x) (.long y) N1 N2) (hxy : lg_cmp x y = 0)
    (hk : zm_G p l e room_1 s m #[Value.ref b] below meth c (zf_Z below #[Value.ref b] s) D cA h (zL_w ks) (fun q => s.heap.size ≤ q) 4 c0 s0 (zp_tail, ls, [], zy_2 M N1 N2)) : zm_G p l e room_1 s m #[Value.ref b] below meth c (zf_Z below #[Value.ref b] s) D cA h (zL_w ks) (fun q => s.heap.size ≤ q) 4 c0 s0 (pc, ls, [], M) := by
  have hw := (zK_w hks).2.2.2.1
  refine zf_step hB hg hT h1 h2 hD hw hc hs (S' := (pc1, ls, [.long x], zm_mrg [(0, 164)] M N1)) (fun k => (e1 k).trans (zy_callX hks ho.1 tX rfl _)) ?_
  refine zf_step hB hg hT h1 h2 (zm_D_any hD) hw hc hs (M0 := M) (S' := (pc2, ls, [.long y, .long x], zy_2 M N1 N2)) (fun k => (e2 x _ k).trans (zy_callM hks ho.2 tM rfl _)) ?_
  exact zf_step hB hg hT h1 h2 (zm_D_any hD) hw hc hs (M0 := M) (fun k => (e3 x y _ k).trans (if_pos hxy)) hk
end ZFO
end
section
/-! THE LAW'S WALK, op by op (printed by program, wip/law/genloop.py) -/
section ZFQ
variable {p : Program} {l : Launch} {e : Env} {s : State} {m : MethodId} {below : List Frame} {meth : Method} {c : Code} {b L : Nat} {xs : Nat → Int32} {D : va_G} {cA : FieldType → ClassId} {g : Nat → Nat}
/-- where the law's loop goes on: in any world that it may have come to -/
def zf_K (p : Program) (l : Launch) (e : Env) (s : State) (m : MethodId) (below : List Frame) (meth : Method) (c : Code) (b : Nat) (D : va_G) (cA : FieldType → ClassId) (g : Nat → Nat) (pc : Nat) (ls : List (Option Value)) : Prop := ∀ (ks : List Nat) (h : Nat → Nat → Nat) (M : zm_I) (c0 s0 : Nat), ks ∈ zK_all → (∀ n, h 1 n = g n) → va_D (fun q => s.heap.size ≤ q) (zm_ws cA h (zL_w ks) M) → c0 + 10 * (3 - ks.length) ≤ room_1.cells → s0 + 171 * (3 - ks.length) ≤ room_1.slots → zy_I ks M → zX ks M → zm_G p l e room_1 s m #[Value.ref b] below meth c (zf_Z below #[Value.ref b] s) D cA h (zL_w ks) (fun q => s.heap.size ≤ q) 4 c0 s0 (pc, ls, [], M)
theorem zy_feed (hB : zf_B p s m meth c b L xs D cA g) {j : Nat} (hj : 6 * j + 6 ≤ L ∧ L ≤ 3072) (hk : zf_K p l e s m below meth c b D cA g zp_tail (zl_lb (zl_i j))) : zf_K p l e s m below meth c b D cA g 348 (zl_lb (zl_i j)) := by
  intro ks h M c0 s0 hks hg hD hc hs hI hR
  obtain ⟨x, y, N1, N2, ho, hI2, f1, f2⟩ := zy_I2 hks hI (fun hG => zp_X9_feed hG (xs (6 * j + 1)) (xs (6 * j + 2)) (xs (6 * j + 3)) (xs (6 * j + 4)) (xs (6 * j + 5))) (fun hG hP => zp_X10_feed hG hP (xs (6 * j + 1)) (xs (6 * j + 2)) (xs (6 * j + 3)) (xs (6 * j + 4)) (xs (6 * j + 5)))
  have hR2 : zX ks (zy_2 M N1 N2) := zr_feed hks hI hR ho f1 f2
  exact zy_opI hB hg hks hD (by omega) (by omega) (zxo_feed l L xs) rfl rfl (zl1_feed hj xs (zL_w ks) M) (fun v M => zl2_feed hj xs (zL_w ks) v M) (fun w M => zl3_feed L xs _ (zL_w ks) w M) rfl rfl ho (hk ks h _ c0 s0 hks hg (zm_D_any hD) hc hs hI2 hR2)
theorem zy_end (hB : zf_B p s m meth c b L xs D cA g) {j : Nat} (hj : 6 * j + 6 ≤ L ∧ L ≤ 3072) (hk : zf_K p l e s m below meth c b D cA g zp_tail (zl_lb (zl_i j))) : zf_K p l e s m below meth c b D cA g 411 (zl_lb (zl_i j)) := by
  intro ks h M c0 s0 hks hg hD hc hs hI hR
  obtain ⟨x, y, N1, N2, ho, hI2, f1, f2⟩ := zy_I2 hks hI (fun hG => zp_X9_end hG (xs (6 * j + 1))) (fun hG hP => zp_X10_end hG hP (xs (6 * j + 1)))
  have hR2 : zX ks (zy_2 M N1 N2) := zr_end hks hI hR ho f1 f2
  exact zy_opI hB hg hks hD (by omega) (by omega) (zxo_end l L xs) rfl rfl (zl1_end hj xs (zL_w ks) M) (fun v M => zl2_end hj xs (zL_w ks) v M) (fun w M => zl3_end L xs _ (zL_w ks) w M) rfl rfl ho (hk ks h _ c0 s0 hks hg (zm_D_any hD) hc hs hI2 hR2)
theorem zy_bench (hB : zf_B p s m meth c b L xs D cA g) {j : Nat} (hj : 6 * j + 6 ≤ L ∧ L ≤ 3072) (hk : zf_K p l e s m below meth c b D cA g zp_tail (zl_lb (zl_i j))) : zf_K p l e s m below meth c b D cA g 434 (zl_lb (zl_i j)) := by
  intro ks h M c0 s0 hks hg hD hc hs hI hR
  obtain ⟨x, y, N1, N2, ho, hI2, f1, f2⟩ := zy_I2 hks hI (fun hG => zp_X9_bench hG ) (fun hG hP => zp_X10_bench hG hP )
  have hR2 : zX ks (zy_2 M N1 N2) := zr_bench hks hI hR ho f1 f2
  exact zy_opI hB hg hks hD (by omega) (by omega) (zxo_bench l L xs) rfl rfl (zl1_bench hj xs (zL_w ks) M) (fun v M => zl2_bench hj xs (zL_w ks) v M) (fun w M => zl3_bench L xs _ (zL_w ks) w M) rfl rfl ho (hk ks h _ c0 s0 hks hg (zm_D_any hD) hc hs hI2 hR2)
theorem zy_fault (hB : zf_B p s m meth c b L xs D cA g) {j : Nat} (hj : 6 * j + 6 ≤ L ∧ L ≤ 3072) (hk : zf_K p l e s m below meth c b D cA g zp_tail (zl_lb (zl_i j))) : zf_K p l e s m below meth c b D cA g 447 (zl_lb (zl_i j)) := by
  intro ks h M c0 s0 hks hg hD hc hs hI hR
  obtain ⟨x, y, N1, N2, ho, hI2, f1, f2⟩ := zy_I2 hks hI (fun hG => zp_X9_fault hG (xs (6 * j + 1))) (fun hG hP => zp_X10_fault hG hP (xs (6 * j + 1)))
  have hR2 : zX ks (zy_2 M N1 N2) := zr_fault hks hI hR ho f1 f2
  exact zy_opI hB hg hks hD (by omega) (by omega) (zxo_fault l L xs) rfl rfl (zl1_fault hj xs (zL_w ks) M) (fun v M => zl2_fault hj xs (zL_w ks) v M) (fun w M => zl3_fault L xs _ (zL_w ks) w M) rfl rfl ho (hk ks h _ c0 s0 hks hg (zm_D_any hD) hc hs hI2 hR2)
theorem zy_seat (hB : zf_B p s m meth c b L xs D cA g) {j : Nat} (hj : 6 * j + 6 ≤ L ∧ L ≤ 3072) (hk : zf_K p l e s m below meth c b D cA g zp_tail (zl_lb (zl_i j))) : zf_K p l e s m below meth c b D cA g 470 (zl_lb (zl_i j)) := by
  intro ks h M c0 s0 hks hg hD hc hs hI hR
  obtain ⟨x, y, N1, N2, ho, hI2, f1, f2⟩ := zy_I2 hks hI (fun hG => zp_X9_seat hG (xs (6 * j + 1))) (fun hG hP => zp_X10_seat hG hP (xs (6 * j + 1)))
  have hR2 : zX ks (zy_2 M N1 N2) := zr_seat hks hI hR ho f1 f2
  exact zy_opI hB hg hks hD (by omega) (by omega) (zxo_seat l L xs) rfl rfl (zl1_seat hj xs (zL_w ks) M) (fun v M => zl2_seat hj xs (zL_w ks) v M) (fun w M => zl3_seat L xs _ (zL_w ks) w M) rfl rfl ho (hk ks h _ c0 s0 hks hg (zm_D_any hD) hc hs hI2 hR2)
theorem zy_caller (hB : zf_B p s m meth c b L xs D cA g) {j : Nat} (hj : 6 * j + 6 ≤ L ∧ L ≤ 3072) (hk : zf_K p l e s m below meth c b D cA g zp_tail (zl_lb (zl_i j))) : zf_K p l e s m below meth c b D cA g 493 (zl_lb (zl_i j)) := by
  intro ks h M c0 s0 hks hg hD hc hs hI hR
  obtain ⟨x, y, N1, N2, ho, hI2, f1, f2⟩ := zy_I2 hks hI (fun hG => zp_X9_caller hG (xs (6 * j + 1)) (xs (6 * j + 2))) (fun hG hP => zp_X10_caller hG hP (xs (6 * j + 1)) (xs (6 * j + 2)))
  have hR2 : zX ks (zy_2 M N1 N2) := zr_caller hks hI hR ho f1 f2
  exact zy_opI hB hg hks hD (by omega) (by omega) (zxo_caller l L xs) rfl rfl (zl1_caller hj xs (zL_w ks) M) (fun v M => zl2_caller hj xs (zL_w ks) v M) (fun w M => zl3_caller L xs _ (zL_w ks) w M) rfl rfl ho (hk ks h _ c0 s0 hks hg (zm_D_any hD) hc hs hI2 hR2)
theorem zy_age (hB : zf_B p s m meth c b L xs D cA g) {j : Nat} (hj : 6 * j + 6 ≤ L ∧ L ≤ 3072) (hk : zf_K p l e s m below meth c b D cA g zp_tail (zl_lb (zl_i j))) : zf_K p l e s m below meth c b D cA g 526 (zl_lb (zl_i j)) := by
  intro ks h M c0 s0 hks hg hD hc hs hI hR
  obtain ⟨x, y, N1, N2, ho, hI2, f1, f2⟩ := zy_I2 hks hI (fun hG => zp_X9_age hG (xs (6 * j + 1)) (xs (6 * j + 2))) (fun hG hP => zp_X10_age hG hP (xs (6 * j + 1)) (xs (6 * j + 2)))
  have hR2 : zX ks (zy_2 M N1 N2) := zr_age hks hI hR ho f1 f2
  exact zy_opI hB hg hks hD (by omega) (by omega) (zxo_age l L xs) rfl rfl (zl1_age hj xs (zL_w ks) M) (fun v M => zl2_age hj xs (zL_w ks) v M) (fun w M => zl3_age L xs _ (zL_w ks) w M) rfl rfl ho (hk ks h _ c0 s0 hks hg (zm_D_any hD) hc hs hI2 hR2)
theorem zy_sits (hB : zf_B p s m meth c b L xs D cA g) {j : Nat} (hj : 6 * j + 6 ≤ L ∧ L ≤ 3072) (hk : zf_K p l e s m below meth c b D cA g zp_tail (zl_lb (zl_i j))) : zf_K p l e s m below meth c b D cA g 559 (zl_lb (zl_i j)) := by
  intro ks h M c0 s0 hks hg hD hc hs hI hR
  obtain ⟨x, y, N1, N2, ho, hI2, f1, f2⟩ := zy_I2 hks hI (fun hG => zp_X9_sits hG (xs (6 * j + 1)) (xs (6 * j + 2))) (fun hG hP => zp_X10_sits hG hP (xs (6 * j + 1)) (xs (6 * j + 2)))
  have hxy := zr_sits hks hI hR ho f1 f2
  exact zy_opC hB hg hks hD (by omega) (by omega) (zxo_sits l L xs) rfl rfl (zl1_sits hj xs (zL_w ks) M) (fun v M => zl2_sits hj xs (zL_w ks) v M) (fun v w M => zl3_sits L xs _ (zL_w ks) v w M) rfl rfl ho hxy.1 (hk ks h _ c0 s0 hks hg (zm_D_any hD) hc hs hI2 hxy.2)
theorem zy_stands (hB : zf_B p s m meth c b L xs D cA g) {j : Nat} (hj : 6 * j + 6 ≤ L ∧ L ≤ 3072) (hk : zf_K p l e s m below meth c b D cA g zp_tail (zl_lb (zl_i j))) : zf_K p l e s m below meth c b D cA g 592 (zl_lb (zl_i j)) := by
  intro ks h M c0 s0 hks hg hD hc hs hI hR
  obtain ⟨x, y, N1, N2, ho, hI2, f1, f2⟩ := zy_I2 hks hI (fun hG => zp_X9_stands hG (xs (6 * j + 1))) (fun hG hP => zp_X10_stands hG hP (xs (6 * j + 1)))
  have hR2 : zX ks (zy_2 M N1 N2) := zr_stands hks hI hR ho f1 f2
  exact zy_opI hB hg hks hD (by omega) (by omega) (zxo_stands l L xs) rfl rfl (zl1_stands hj xs (zL_w ks) M) (fun v M => zl2_stands hj xs (zL_w ks) v M) (fun w M => zl3_stands L xs _ (zL_w ks) w M) rfl rfl ho (hk ks h _ c0 s0 hks hg (zm_D_any hD) hc hs hI2 hR2)
theorem zy_free (hB : zf_B p s m meth c b L xs D cA g) {j : Nat} (hj : 6 * j + 6 ≤ L ∧ L ≤ 3072) (hk : zf_K p l e s m below meth c b D cA g zp_tail (zl_lb (zl_i j))) : zf_K p l e s m below meth c b D cA g 615 (zl_lb (zl_i j)) := by
  intro ks h M c0 s0 hks hg hD hc hs hI hR
  obtain ⟨x, y, N1, N2, ho, hI2, f1, f2⟩ := zy_I2 hks hI (fun hG => zp_X9_free hG (xs (6 * j + 1))) (fun hG hP => zp_X10_free hG hP (xs (6 * j + 1)))
  have hR2 : zX ks (zy_2 M N1 N2) := zr_free hks hI hR ho f1 f2
  exact zy_opI hB hg hks hD (by omega) (by omega) (zxo_free l L xs) rfl rfl (zl1_free hj xs (zL_w ks) M) (fun v M => zl2_free hj xs (zL_w ks) v M) (fun w M => zl3_free L xs _ (zL_w ks) w M) rfl rfl ho (hk ks h _ c0 s0 hks hg (zm_D_any hD) hc hs hI2 hR2)
theorem zy_goes (hB : zf_B p s m meth c b L xs D cA g) {j : Nat} (hj : 6 * j + 6 ≤ L ∧ L ≤ 3072) (hk : zf_K p l e s m below meth c b D cA g zp_tail (zl_lb (zl_i j))) : zf_K p l e s m below meth c b D cA g 638 (zl_lb (zl_i j)) := by
  intro ks h M c0 s0 hks hg hD hc hs hI hR
  obtain ⟨x, y, N1, N2, ho, hI2, f1, f2⟩ := zy_I2 hks hI (fun hG => zp_X9_goes hG (xs (6 * j + 1))) (fun hG hP => zp_X10_goes hG hP (xs (6 * j + 1)))
  have hR2 : zX ks (zy_2 M N1 N2) := zr_goes hks hI hR ho f1 f2
  exact zy_opI hB hg hks hD (by omega) (by omega) (zxo_goes l L xs) rfl rfl (zl1_goes hj xs (zL_w ks) M) (fun v M => zl2_goes hj xs (zL_w ks) v M) (fun w M => zl3_goes L xs _ (zL_w ks) w M) rfl rfl ho (hk ks h _ c0 s0 hks hg (zm_D_any hD) hc hs hI2 hR2)
theorem zy_called (hB : zf_B p s m meth c b L xs D cA g) {j : Nat} (hj : 6 * j + 6 ≤ L ∧ L ≤ 3072) (hk : zf_K p l e s m below meth c b D cA g zp_tail (zl_lb (zl_i j))) : zf_K p l e s m below meth c b D cA g 661 (zl_lb (zl_i j)) := by
  intro ks h M c0 s0 hks hg hD hc hs hI hR
  obtain ⟨x, y, N1, N2, ho, hI2, f1, f2⟩ := zy_I2 hks hI (fun hG => zp_X9_called hG (xs (6 * j + 1))) (fun hG hP => zp_X10_called hG hP (xs (6 * j + 1)))
  have hR2 : zX ks (zy_2 M N1 N2) := zr_called hks hI hR ho f1 f2
  exact zy_opI hB hg hks hD (by omega) (by omega) (zxo_called l L xs) rfl rfl (zl1_called hj xs (zL_w ks) M) (fun v M => zl2_called hj xs (zL_w ks) v M) (fun w M => zl3_called L xs _ (zL_w ks) w M) rfl rfl ho (hk ks h _ c0 s0 hks hg (zm_D_any hD) hc hs hI2 hR2)
theorem zy_ends (hB : zf_B p s m meth c b L xs D cA g) {j : Nat} (hj : 6 * j + 6 ≤ L ∧ L ≤ 3072) (hk : zf_K p l e s m below meth c b D cA g zp_tail (zl_lb (zl_i j))) : zf_K p l e s m below meth c b D cA g 684 (zl_lb (zl_i j)) := by
  intro ks h M c0 s0 hks hg hD hc hs hI hR
  obtain ⟨x, y, N1, N2, ho, hI2, f1, f2⟩ := zy_I2 hks hI (fun hG => zp_X9_ends hG (xs (6 * j + 1))) (fun hG hP => zp_X10_ends_ hG hP (xs (6 * j + 1)))
  have hR2 : zX ks (zy_2 M N1 N2) := zr_ends hks hI hR ho f1 f2
  exact zy_opI hB hg hks hD (by omega) (by omega) (zxo_ends l L xs) rfl rfl (zl1_ends hj xs (zL_w ks) M) (fun v M => zl2_ends hj xs (zL_w ks) v M) (fun w M => zl3_ends L xs _ (zL_w ks) w M) rfl rfl ho (hk ks h _ c0 s0 hks hg (zm_D_any hD) hc hs hI2 hR2)
theorem zy_told (hB : zf_B p s m meth c b L xs D cA g) {j : Nat} (hj : 6 * j + 6 ≤ L ∧ L ≤ 3072) (hk : zf_K p l e s m below meth c b D cA g zp_tail (zl_lb (zl_i j))) : zf_K p l e s m below meth c b D cA g 707 (zl_lb (zl_i j)) := by
  intro ks h M c0 s0 hks hg hD hc hs hI hR
  obtain ⟨x, y, N1, N2, ho, hI2, f1, f2⟩ := zy_I2 hks hI (fun hG => zp_X9_told hG ) (fun hG hP => zp_X10_told hG hP )
  have hR2 : zX ks (zy_2 M N1 N2) := zr_told hks hI hR ho f1 f2
  exact zy_opI hB hg hks hD (by omega) (by omega) (zxo_told l L xs) rfl rfl (zl1_told hj xs (zL_w ks) M) (fun v M => zl2_told hj xs (zL_w ks) v M) (fun w M => zl3_told L xs _ (zL_w ks) w M) rfl rfl ho (hk ks h _ c0 s0 hks hg (zm_D_any hD) hc hs hI2 hR2)
theorem zy_forgotten (hB : zf_B p s m meth c b L xs D cA g) {j : Nat} (hj : 6 * j + 6 ≤ L ∧ L ≤ 3072) (hk : zf_K p l e s m below meth c b D cA g zp_tail (zl_lb (zl_i j))) : zf_K p l e s m below meth c b D cA g 720 (zl_lb (zl_i j)) := by
  intro ks h M c0 s0 hks hg hD hc hs hI hR
  obtain ⟨x, y, N1, N2, ho, hI2, f1, f2⟩ := zy_I2 hks hI (fun hG => zp_X9_forgotten hG ) (fun hG hP => zp_X10_forgotten hG hP )
  have hR2 : zX ks (zy_2 M N1 N2) := zr_forgotten hks hI hR ho f1 f2
  exact zy_opI hB hg hks hD (by omega) (by omega) (zxo_forgotten l L xs) rfl rfl (zl1_forgotten hj xs (zL_w ks) M) (fun v M => zl2_forgotten hj xs (zL_w ks) v M) (fun w M => zl3_forgotten L xs _ (zL_w ks) w M) rfl rfl ho (hk ks h _ c0 s0 hks hg (zm_D_any hD) hc hs hI2 hR2)
theorem zy_gun (hB : zf_B p s m meth c b L xs D cA g) {j : Nat} (hj : 6 * j + 6 ≤ L ∧ L ≤ 3072) (hk : zf_K p l e s m below meth c b D cA g zp_tail (zl_lb (zl_i j))) : zf_K p l e s m below meth c b D cA g 733 (zl_lb (zl_i j)) := by
  intro ks h M c0 s0 hks hg hD hc hs hI hR
  obtain ⟨x, y, N1, N2, ho, hI2, f1, f2⟩ := zy_I2 hks hI (fun hG => zp_X9_gun hG ) (fun hG hP => zp_X10_gun hG hP )
  have hR2 : zX ks (zy_2 M N1 N2) := zr_gun hks hI hR ho f1 f2
  exact zy_opI hB hg hks hD (by omega) (by omega) (zxo_gun l L xs) rfl rfl (zl1_gun hj xs (zL_w ks) M) (fun v M => zl2_gun hj xs (zL_w ks) v M) (fun w M => zl3_gun L xs _ (zL_w ks) w M) rfl rfl ho (hk ks h _ c0 s0 hks hg (zm_D_any hD) hc hs hI2 hR2)
theorem zy_waits (hB : zf_B p s m meth c b L xs D cA g) {j : Nat} (hj : 6 * j + 6 ≤ L ∧ L ≤ 3072) (hk : zf_K p l e s m below meth c b D cA g zp_tail (zl_lb (zl_i j))) : zf_K p l e s m below meth c b D cA g 746 (zl_lb (zl_i j)) := by
  intro ks h M c0 s0 hks hg hD hc hs hI hR
  obtain ⟨x, y, N1, N2, ho, hI2, f1, f2⟩ := zy_I2 hks hI (fun hG => zp_X9_waits hG (xs (6 * j + 1))) (fun hG hP => zp_X10_waits hG hP (xs (6 * j + 1)))
  have hR2 : zX ks (zy_2 M N1 N2) := zr_waits hks hI hR ho f1 f2
  exact zy_opI hB hg hks hD (by omega) (by omega) (zxo_waits l L xs) rfl rfl (zl1_waits hj xs (zL_w ks) M) (fun v M => zl2_waits hj xs (zL_w ks) v M) (fun w M => zl3_waits L xs _ (zL_w ks) w M) rfl rfl ho (hk ks h _ c0 s0 hks hg (zm_D_any hD) hc hs hI2 hR2)
theorem zy_worn (hB : zf_B p s m meth c b L xs D cA g) {j : Nat} (hj : 6 * j + 6 ≤ L ∧ L ≤ 3072) (hk : zf_K p l e s m below meth c b D cA g zp_tail (zl_lb (zl_i j))) : zf_K p l e s m below meth c b D cA g 769 (zl_lb (zl_i j)) := by
  intro ks h M c0 s0 hks hg hD hc hs hI hR
  obtain ⟨x, y, N1, N2, ho, hI2, f1, f2⟩ := zy_I2 hks hI (fun hG => zp_X9_worn hG (xs (6 * j + 1)) (xs (6 * j + 2))) (fun hG hP => zp_X10_worn hG hP (xs (6 * j + 1)) (xs (6 * j + 2)))
  have hR2 : zX ks (zy_2 M N1 N2) := zr_worn hks hI hR ho f1 f2
  exact zy_opI hB hg hks hD (by omega) (by omega) (zxo_worn l L xs) rfl rfl (zl1_worn hj xs (zL_w ks) M) (fun v M => zl2_worn hj xs (zL_w ks) v M) (fun w M => zl3_worn L xs _ (zL_w ks) w M) rfl rfl ho (hk ks h _ c0 s0 hks hg (zm_D_any hD) hc hs hI2 hR2)
theorem zy_dip (hB : zf_B p s m meth c b L xs D cA g) {j : Nat} (hj : 6 * j + 6 ≤ L ∧ L ≤ 3072) (hk : zf_K p l e s m below meth c b D cA g zp_tail (zl_lb (zl_i j))) : zf_K p l e s m below meth c b D cA g 802 (zl_lb (zl_i j)) := by
  intro ks h M c0 s0 hks hg hD hc hs hI hR
  obtain ⟨x, y, N1, N2, ho, hI2, f1, f2⟩ := zy_I2 hks hI (fun hG => zp_X9_dip hG (xs (6 * j + 1))) (fun hG hP => zp_X10_dip hG hP (xs (6 * j + 1)))
  have hR2 : zX ks (zy_2 M N1 N2) := zr_dip hks hI hR ho f1 f2
  exact zy_opI hB hg hks hD (by omega) (by omega) (zxo_dip l L xs) rfl rfl (zl1_dip hj xs (zL_w ks) M) (fun v M => zl2_dip hj xs (zL_w ks) v M) (fun w M => zl3_dip L xs _ (zL_w ks) w M) rfl rfl ho (hk ks h _ c0 s0 hks hg (zm_D_any hD) hc hs hI2 hR2)
theorem zy_deepest (hB : zf_B p s m meth c b L xs D cA g) {j : Nat} (hj : 6 * j + 6 ≤ L ∧ L ≤ 3072) (hk : zf_K p l e s m below meth c b D cA g zp_tail (zl_lb (zl_i j))) : zf_K p l e s m below meth c b D cA g 825 (zl_lb (zl_i j)) := by
  intro ks h M c0 s0 hks hg hD hc hs hI hR
  obtain ⟨x, y, N1, N2, ho, hI2, f1, f2⟩ := zy_I2 hks hI (fun hG => zp_X9_deepest hG ) (fun hG hP => zp_X10_deepest hG hP )
  have hR2 : zX ks (zy_2 M N1 N2) := zr_deepest hks hI hR ho f1 f2
  exact zy_opI hB hg hks hD (by omega) (by omega) (zxo_deepest l L xs) rfl rfl (zl1_deepest hj xs (zL_w ks) M) (fun v M => zl2_deepest hj xs (zL_w ks) v M) (fun w M => zl3_deepest L xs _ (zL_w ks) w M) rfl rfl ho (hk ks h _ c0 s0 hks hg (zm_D_any hD) hc hs hI2 hR2)
theorem zy_youngest (hB : zf_B p s m meth c b L xs D cA g) {j : Nat} (hj : 6 * j + 6 ≤ L ∧ L ≤ 3072) (hk : zf_K p l e s m below meth c b D cA g zp_tail (zl_lb (zl_i j))) : zf_K p l e s m below meth c b D cA g 838 (zl_lb (zl_i j)) := by
  intro ks h M c0 s0 hks hg hD hc hs hI hR
  obtain ⟨x, y, N1, N2, ho, hI2, f1, f2⟩ := zy_I2 hks hI (fun hG => zp_X9_youngest hG (xs (6 * j + 1))) (fun hG hP => zp_X10_youngest hG hP (xs (6 * j + 1)))
  have hR2 : zX ks (zy_2 M N1 N2) := zr_youngest hks hI hR ho f1 f2
  exact zy_opI hB hg hks hD (by omega) (by omega) (zxo_youngest l L xs) rfl rfl (zl1_youngest hj xs (zL_w ks) M) (fun v M => zl2_youngest hj xs (zL_w ks) v M) (fun w M => zl3_youngest L xs _ (zL_w ks) w M) rfl rfl ho (hk ks h _ c0 s0 hks hg (zm_D_any hD) hc hs hI2 hR2)
theorem zy_oldest (hB : zf_B p s m meth c b L xs D cA g) {j : Nat} (hj : 6 * j + 6 ≤ L ∧ L ≤ 3072) (hk : zf_K p l e s m below meth c b D cA g zp_tail (zl_lb (zl_i j))) : zf_K p l e s m below meth c b D cA g 861 (zl_lb (zl_i j)) := by
  intro ks h M c0 s0 hks hg hD hc hs hI hR
  obtain ⟨x, y, N1, N2, ho, hI2, f1, f2⟩ := zy_I2 hks hI (fun hG => zp_X9_oldest hG (xs (6 * j + 1))) (fun hG hP => zp_X10_oldest hG hP (xs (6 * j + 1)))
  have hR2 : zX ks (zy_2 M N1 N2) := zr_oldest hks hI hR ho f1 f2
  exact zy_opI hB hg hks hD (by omega) (by omega) (zxo_oldest l L xs) rfl rfl (zl1_oldest hj xs (zL_w ks) M) (fun v M => zl2_oldest hj xs (zL_w ks) v M) (fun w M => zl3_oldest L xs _ (zL_w ks) w M) rfl rfl ho (hk ks h _ c0 s0 hks hg (zm_D_any hD) hc hs hI2 hR2)
theorem zy_meets (hB : zf_B p s m meth c b L xs D cA g) {j : Nat} (hj : 6 * j + 6 ≤ L ∧ L ≤ 3072) (hk : zf_K p l e s m below meth c b D cA g zp_tail (zl_lb (zl_i j))) : zf_K p l e s m below meth c b D cA g 884 (zl_lb (zl_i j)) := by
  intro ks h M c0 s0 hks hg hD hc hs hI hR
  obtain ⟨x, y, N1, N2, ho, hI2, f1, f2⟩ := zy_I2 hks hI (fun hG => zp_X9_meets hG (xs (6 * j + 1)) (xs (6 * j + 2))) (fun hG hP => zp_X10_meets hG hP (xs (6 * j + 1)) (xs (6 * j + 2)))
  have hR2 : zX ks (zy_2 M N1 N2) := zr_meets hks hI hR ho f1 f2
  exact zy_opI hB hg hks hD (by omega) (by omega) (zxo_meets l L xs) rfl rfl (zl1_meets hj xs (zL_w ks) M) (fun v M => zl2_meets hj xs (zL_w ks) v M) (fun w M => zl3_meets L xs _ (zL_w ks) w M) rfl rfl ho (hk ks h _ c0 s0 hks hg (zm_D_any hD) hc hs hI2 hR2)
theorem zy_ripe (hB : zf_B p s m meth c b L xs D cA g) {j : Nat} (hj : 6 * j + 6 ≤ L ∧ L ≤ 3072) (hk : zf_K p l e s m below meth c b D cA g zp_tail (zl_lb (zl_i j))) : zf_K p l e s m below meth c b D cA g 917 (zl_lb (zl_i j)) := by
  intro ks h M c0 s0 hks hg hD hc hs hI hR
  obtain ⟨x, y, N1, N2, ho, hI2, f1, f2⟩ := zy_I2 hks hI (fun hG => zp_X9_ripe hG (xs (6 * j + 1))) (fun hG hP => zp_X10_ripe hG hP (xs (6 * j + 1)))
  have hR2 : zX ks (zy_2 M N1 N2) := zr_ripe hks hI hR ho f1 f2
  exact zy_opI hB hg hks hD (by omega) (by omega) (zxo_ripe l L xs) rfl rfl (zl1_ripe hj xs (zL_w ks) M) (fun v M => zl2_ripe hj xs (zL_w ks) v M) (fun w M => zl3_ripe L xs _ (zL_w ks) w M) rfl rfl ho (hk ks h _ c0 s0 hks hg (zm_D_any hD) hc hs hI2 hR2)
theorem zy_window (hB : zf_B p s m meth c b L xs D cA g) {j : Nat} (hj : 6 * j + 6 ≤ L ∧ L ≤ 3072) (hk : zf_K p l e s m below meth c b D cA g zp_tail (zl_lb (zl_i j))) : zf_K p l e s m below meth c b D cA g 940 (zl_lb (zl_i j)) := by
  intro ks h M c0 s0 hks hg hD hc hs hI hR
  obtain ⟨x, y, N1, N2, ho, hI2, f1, f2⟩ := zy_I2 hks hI (fun hG => zp_X9_window hG (xs (6 * j + 1))) (fun hG hP => zp_X10_window hG hP (xs (6 * j + 1)))
  have hR2 : zX ks (zy_2 M N1 N2) := zr_window hks hI hR ho f1 f2
  exact zy_opI hB hg hks hD (by omega) (by omega) (zxo_window l L xs) rfl rfl (zl1_window hj xs (zL_w ks) M) (fun v M => zl2_window hj xs (zL_w ks) v M) (fun w M => zl3_window L xs _ (zL_w ks) w M) rfl rfl ho (hk ks h _ c0 s0 hks hg (zm_D_any hD) hc hs hI2 hR2)
theorem zy_misses (hB : zf_B p s m meth c b L xs D cA g) {j : Nat} (hj : 6 * j + 6 ≤ L ∧ L ≤ 3072) (hk : zf_K p l e s m below meth c b D cA g zp_tail (zl_lb (zl_i j))) : zf_K p l e s m below meth c b D cA g 963 (zl_lb (zl_i j)) := by
  intro ks h M c0 s0 hks hg hD hc hs hI hR
  obtain ⟨x, y, N1, N2, ho, hI2, f1, f2⟩ := zy_I2 hks hI (fun hG => zp_X9_misses hG (xs (6 * j + 1))) (fun hG hP => zp_X10_misses hG hP (xs (6 * j + 1)))
  have hR2 : zX ks (zy_2 M N1 N2) := zr_misses hks hI hR ho f1 f2
  exact zy_opI hB hg hks hD (by omega) (by omega) (zxo_misses l L xs) rfl rfl (zl1_misses hj xs (zL_w ks) M) (fun v M => zl2_misses hj xs (zL_w ks) v M) (fun w M => zl3_misses L xs _ (zL_w ks) w M) rfl rfl ho (hk ks h _ c0 s0 hks hg (zm_D_any hD) hc hs hI2 hR2)
theorem zy_grown (hB : zf_B p s m meth c b L xs D cA g) {j : Nat} (hj : 6 * j + 6 ≤ L ∧ L ≤ 3072) (hk : zf_K p l e s m below meth c b D cA g zp_tail (zl_lb (zl_i j))) : zf_K p l e s m below meth c b D cA g 986 (zl_lb (zl_i j)) := by
  intro ks h M c0 s0 hks hg hD hc hs hI hR
  obtain ⟨x, y, N1, N2, ho, hI2, f1, f2⟩ := zy_I2 hks hI (fun hG => zp_X9_grown hG (xs (6 * j + 1))) (fun hG hP => zp_X10_grown hG hP (xs (6 * j + 1)))
  have hR2 : zX ks (zy_2 M N1 N2) := zr_grown hks hI hR ho f1 f2
  exact zy_opI hB hg hks hD (by omega) (by omega) (zxo_grown l L xs) rfl rfl (zl1_grown hj xs (zL_w ks) M) (fun v M => zl2_grown hj xs (zL_w ks) v M) (fun w M => zl3_grown L xs _ (zL_w ks) w M) rfl rfl ho (hk ks h _ c0 s0 hks hg (zm_D_any hD) hc hs hI2 hR2)
theorem zy_beside (hB : zf_B p s m meth c b L xs D cA g) {j : Nat} (hj : 6 * j + 6 ≤ L ∧ L ≤ 3072) (hk : zf_K p l e s m below meth c b D cA g zp_tail (zl_lb (zl_i j))) : zf_K p l e s m below meth c b D cA g 1009 (zl_lb (zl_i j)) := by
  intro ks h M c0 s0 hks hg hD hc hs hI hR
  obtain ⟨x, y, N1, N2, ho, hI2, f1, f2⟩ := zy_I2 hks hI (fun hG => zp_X9_beside hG (xs (6 * j + 1)) (xs (6 * j + 2))) (fun hG hP => zp_X10_beside hG hP (xs (6 * j + 1)) (xs (6 * j + 2)))
  have hR2 : zX ks (zy_2 M N1 N2) := zr_beside hks hI hR ho f1 f2
  exact zy_opI hB hg hks hD (by omega) (by omega) (zxo_beside l L xs) rfl rfl (zl1_beside hj xs (zL_w ks) M) (fun v M => zl2_beside hj xs (zL_w ks) v M) (fun w M => zl3_beside L xs _ (zL_w ks) w M) rfl rfl ho (hk ks h _ c0 s0 hks hg (zm_D_any hD) hc hs hI2 hR2)
theorem zy_crowd (hB : zf_B p s m meth c b L xs D cA g) {j : Nat} (hj : 6 * j + 6 ≤ L ∧ L ≤ 3072) (hk : zf_K p l e s m below meth c b D cA g zp_tail (zl_lb (zl_i j))) : zf_K p l e s m below meth c b D cA g 1042 (zl_lb (zl_i j)) := by
  intro ks h M c0 s0 hks hg hD hc hs hI hR
  obtain ⟨x, y, N1, N2, ho, hI2, f1, f2⟩ := zy_I2 hks hI (fun hG => zp_X9_crowd hG ) (fun hG hP => zp_X10_crowd hG hP )
  have hR2 : zX ks (zy_2 M N1 N2) := zr_crowd hks hI hR ho f1 f2
  exact zy_opI hB hg hks hD (by omega) (by omega) (zxo_crowd l L xs) rfl rfl (zl1_crowd hj xs (zL_w ks) M) (fun v M => zl2_crowd hj xs (zL_w ks) v M) (fun w M => zl3_crowd L xs _ (zL_w ks) w M) rfl rfl ho (hk ks h _ c0 s0 hks hg (zm_D_any hD) hc hs hI2 hR2)
theorem zy_next (hB : zf_B p s m meth c b L xs D cA g) {j : Nat} (hj : 6 * j + 6 ≤ L ∧ L ≤ 3072) (hk : zf_K p l e s m below meth c b D cA g zp_tail (zl_lb (zl_i j))) : zf_K p l e s m below meth c b D cA g 1055 (zl_lb (zl_i j)) := by
  intro ks h M c0 s0 hks hg hD hc hs hI hR
  obtain ⟨x, y, N1, N2, ho, hI2, f1, f2⟩ := zy_I2 hks hI (fun hG => zp_X9_next hG (xs (6 * j + 1))) (fun hG hP => zp_X10_next_ hG hP (xs (6 * j + 1)))
  have hR2 : zX ks (zy_2 M N1 N2) := zr_next hks hI hR ho f1 f2
  exact zy_opI hB hg hks hD (by omega) (by omega) (zxo_next l L xs) rfl rfl (zl1_next hj xs (zL_w ks) M) (fun v M => zl2_next hj xs (zL_w ks) v M) (fun w M => zl3_next L xs _ (zL_w ks) w M) rfl rfl ho (hk ks h _ c0 s0 hks hg (zm_D_any hD) hc hs hI2 hR2)
theorem zy_years (hB : zf_B p s m meth c b L xs D cA g) {j : Nat} (hj : 6 * j + 6 ≤ L ∧ L ≤ 3072) (hk : zf_K p l e s m below meth c b D cA g zp_tail (zl_lb (zl_i j))) : zf_K p l e s m below meth c b D cA g 1078 (zl_lb (zl_i j)) := by
  intro ks h M c0 s0 hks hg hD hc hs hI hR
  obtain ⟨x, y, N1, N2, ho, hI2, f1, f2⟩ := zy_I2 hks hI (fun hG => zp_X9_years hG (xs (6 * j + 1))) (fun hG hP => zp_X10_years hG hP (xs (6 * j + 1)))
  have hR2 : zX ks (zy_2 M N1 N2) := zr_years hks hI hR ho f1 f2
  exact zy_opI hB hg hks hD (by omega) (by omega) (zxo_years l L xs) rfl rfl (zl1_years hj xs (zL_w ks) M) (fun v M => zl2_years hj xs (zL_w ks) v M) (fun w M => zl3_years L xs _ (zL_w ks) w M) rfl rfl ho (hk ks h _ c0 s0 hks hg (zm_D_any hD) hc hs hI2 hR2)
theorem zy_last (hB : zf_B p s m meth c b L xs D cA g) {j : Nat} (hj : 6 * j + 6 ≤ L ∧ L ≤ 3072) (hk : zf_K p l e s m below meth c b D cA g zp_tail (zl_lb (zl_i j))) : zf_K p l e s m below meth c b D cA g 1101 (zl_lb (zl_i j)) := by
  intro ks h M c0 s0 hks hg hD hc hs hI hR
  obtain ⟨x, y, N1, N2, ho, hI2, f1, f2⟩ := zy_I2 hks hI (fun hG => zp_X9_last hG ) (fun hG hP => zp_X10_last hG hP )
  have hR2 : zX ks (zy_2 M N1 N2) := zr_last hks hI hR ho f1 f2
  exact zy_opI hB hg hks hD (by omega) (by omega) (zxo_last l L xs) rfl rfl (zl1_last hj xs (zL_w ks) M) (fun v M => zl2_last hj xs (zL_w ks) v M) (fun w M => zl3_last L xs _ (zL_w ks) w M) rfl rfl ho (hk ks h _ c0 s0 hks hg (zm_D_any hD) hc hs hI2 hR2)
theorem zy_twins (hB : zf_B p s m meth c b L xs D cA g) {j : Nat} (hj : 6 * j + 6 ≤ L ∧ L ≤ 3072) (hk : zf_K p l e s m below meth c b D cA g zp_tail (zl_lb (zl_i j))) : zf_K p l e s m below meth c b D cA g 1114 (zl_lb (zl_i j)) := by
  intro ks h M c0 s0 hks hg hD hc hs hI hR
  obtain ⟨x, y, N1, N2, ho, hI2, f1, f2⟩ := zy_I2 hks hI (fun hG => zp_X9_twins hG (xs (6 * j + 1))) (fun hG hP => zp_X10_twins hG hP (xs (6 * j + 1)))
  have hR2 : zX ks (zy_2 M N1 N2) := zr_twins hks hI hR ho f1 f2
  exact zy_opI hB hg hks hD (by omega) (by omega) (zxo_twins l L xs) rfl rfl (zl1_twins hj xs (zL_w ks) M) (fun v M => zl2_twins hj xs (zL_w ks) v M) (fun w M => zl3_twins L xs _ (zL_w ks) w M) rfl rfl ho (hk ks h _ c0 s0 hks hg (zm_D_any hD) hc hs hI2 hR2)
theorem zy_opens (hB : zf_B p s m meth c b L xs D cA g) {j : Nat} (hj : 6 * j + 6 ≤ L ∧ L ≤ 3072) (hk : zf_K p l e s m below meth c b D cA g zp_tail (zl_lb (zl_i j))) : zf_K p l e s m below meth c b D cA g 1137 (zl_lb (zl_i j)) := by
  intro ks h M c0 s0 hks hg hD hc hs hI hR
  obtain ⟨x, y, N1, N2, ho, hI2, f1, f2⟩ := zy_I2 hks hI (fun hG => zp_X9_opens hG (xs (6 * j + 1))) (fun hG hP => zp_X10_opens hG hP (xs (6 * j + 1)))
  have hR2 : zX ks (zy_2 M N1 N2) := zr_opens hks hI hR ho f1 f2
  exact zy_opI hB hg hks hD (by omega) (by omega) (zxo_opens l L xs) rfl rfl (zl1_opens hj xs (zL_w ks) M) (fun v M => zl2_opens hj xs (zL_w ks) v M) (fun w M => zl3_opens L xs _ (zL_w ks) w M) rfl rfl ho (hk ks h _ c0 s0 hks hg (zm_D_any hD) hc hs hI2 hR2)
theorem zy_without (hB : zf_B p s m meth c b L xs D cA g) {j : Nat} (hj : 6 * j + 6 ≤ L ∧ L ≤ 3072) (hk : zf_K p l e s m below meth c b D cA g zp_tail (zl_lb (zl_i j))) : zf_K p l e s m below meth c b D cA g 1160 (zl_lb (zl_i j)) := by
  intro ks h M c0 s0 hks hg hD hc hs hI hR
  obtain ⟨x, y, N1, N2, ho, hI2, f1, f2⟩ := zy_I2 hks hI (fun hG => zp_X9_without hG (xs (6 * j + 1))) (fun hG hP => zp_X10_without hG hP (xs (6 * j + 1)))
  have hR2 : zX ks (zy_2 M N1 N2) := zr_without hks hI hR ho f1 f2
  exact zy_opI hB hg hks hD (by omega) (by omega) (zxo_without l L xs) rfl rfl (zl1_without hj xs (zL_w ks) M) (fun v M => zl2_without hj xs (zL_w ks) v M) (fun w M => zl3_without L xs _ (zL_w ks) w M) rfl rfl ho (hk ks h _ c0 s0 hks hg (zm_D_any hD) hc hs hI2 hR2)
theorem zy_helps (hB : zf_B p s m meth c b L xs D cA g) {j : Nat} (hj : 6 * j + 6 ≤ L ∧ L ≤ 3072) (hk : zf_K p l e s m below meth c b D cA g zp_tail (zl_lb (zl_i j))) : zf_K p l e s m below meth c b D cA g 1183 (zl_lb (zl_i j)) := by
  intro ks h M c0 s0 hks hg hD hc hs hI hR
  obtain ⟨x, y, N1, N2, ho, hI2, f1, f2⟩ := zy_I2 hks hI (fun hG => zp_X9_helps hG (xs (6 * j + 1))) (fun hG hP => zp_X10_helps hG hP (xs (6 * j + 1)))
  have hR2 : zX ks (zy_2 M N1 N2) := zr_helps hks hI hR ho f1 f2
  exact zy_opI hB hg hks hD (by omega) (by omega) (zxo_helps l L xs) rfl rfl (zl1_helps hj xs (zL_w ks) M) (fun v M => zl2_helps hj xs (zL_w ks) v M) (fun w M => zl3_helps L xs _ (zL_w ks) w M) rfl rfl ho (hk ks h _ c0 s0 hks hg (zm_D_any hD) hc hs hI2 hR2)
theorem zy_less (hB : zf_B p s m meth c b L xs D cA g) {j : Nat} (hj : 6 * j + 6 ≤ L ∧ L ≤ 3072) (hk : zf_K p l e s m below meth c b D cA g zp_tail (zl_lb (zl_i j))) : zf_K p l e s m below meth c b D cA g 1206 (zl_lb (zl_i j)) := by
  intro ks h M c0 s0 hks hg hD hc hs hI hR
  obtain ⟨x, y, N1, N2, ho, hI2, f1, f2⟩ := zy_I2 hks hI (fun hG => zp_X9_less hG (xs (6 * j + 1))) (fun hG hP => zp_X10_less hG hP (xs (6 * j + 1)))
  have hR2 : zX ks (zy_2 M N1 N2) := zr_less hks hI hR ho f1 f2
  exact zy_opI hB hg hks hD (by omega) (by omega) (zxo_less l L xs) rfl rfl (zl1_less hj xs (zL_w ks) M) (fun v M => zl2_less hj xs (zL_w ks) v M) (fun w M => zl3_less L xs _ (zL_w ks) w M) rfl rfl ho (hk ks h _ c0 s0 hks hg (zm_D_any hD) hc hs hI2 hR2)
theorem zy_tuned (hB : zf_B p s m meth c b L xs D cA g) {j : Nat} (hj : 6 * j + 6 ≤ L ∧ L ≤ 3072) (hk : zf_K p l e s m below meth c b D cA g zp_tail (zl_lb (zl_i j))) : zf_K p l e s m below meth c b D cA g 1229 (zl_lb (zl_i j)) := by
  intro ks h M c0 s0 hks hg hD hc hs hI hR
  obtain ⟨x, y, N1, N2, ho, hI2, f1, f2⟩ := zy_I2 hks hI (fun hG => zp_X9_tuned hG (xs (6 * j + 1))) (fun hG hP => zp_X10_tuned hG hP (xs (6 * j + 1)))
  have hR2 : zX ks (zy_2 M N1 N2) := zr_tuned hks hI hR ho f1 f2
  exact zy_opI hB hg hks hD (by omega) (by omega) (zxo_tuned l L xs) rfl rfl (zl1_tuned hj xs (zL_w ks) M) (fun v M => zl2_tuned hj xs (zL_w ks) v M) (fun w M => zl3_tuned L xs _ (zL_w ks) w M) rfl rfl ho (hk ks h _ c0 s0 hks hg (zm_D_any hD) hc hs hI2 hR2)
theorem zy_moved (hB : zf_B p s m meth c b L xs D cA g) {j : Nat} (hj : 6 * j + 6 ≤ L ∧ L ≤ 3072) (hk : zf_K p l e s m below meth c b D cA g zp_tail (zl_lb (zl_i j))) : zf_K p l e s m below meth c b D cA g 1252 (zl_lb (zl_i j)) := by
  intro ks h M c0 s0 hks hg hD hc hs hI hR
  obtain ⟨x, y, N1, N2, ho, hI2, f1, f2⟩ := zy_I2 hks hI (fun hG => zp_X9_moved hG (xs (6 * j + 1)) (xs (6 * j + 2))) (fun hG hP => zp_X10_moved hG hP (xs (6 * j + 1)) (xs (6 * j + 2)))
  have hR2 : zX ks (zy_2 M N1 N2) := zr_moved hks hI hR ho f1 f2
  exact zy_opI hB hg hks hD (by omega) (by omega) (zxo_moved l L xs) rfl rfl (zl1_moved hj xs (zL_w ks) M) (fun v M => zl2_moved hj xs (zL_w ks) v M) (fun w M => zl3_moved L xs _ (zL_w ks) w M) rfl rfl ho (hk ks h _ c0 s0 hks hg (zm_D_any hD) hc hs hI2 hR2)
theorem zy_suits (hB : zf_B p s m meth c b L xs D cA g) {j : Nat} (hj : 6 * j + 6 ≤ L ∧ L ≤ 3072) (hk : zf_K p l e s m below meth c b D cA g zp_tail (zl_lb (zl_i j))) : zf_K p l e s m below meth c b D cA g 1285 (zl_lb (zl_i j)) := by
  intro ks h M c0 s0 hks hg hD hc hs hI hR
  obtain ⟨x, y, N1, N2, ho, hI2, f1, f2⟩ := zy_I2 hks hI (fun hG => zp_X9_suits hG (xs (6 * j + 1))) (fun hG hP => zp_X10_suits hG hP (xs (6 * j + 1)))
  have hR2 : zX ks (zy_2 M N1 N2) := zr_suits hks hI hR ho f1 f2
  exact zy_opI hB hg hks hD (by omega) (by omega) (zxo_suits l L xs) rfl rfl (zl1_suits hj xs (zL_w ks) M) (fun v M => zl2_suits hj xs (zL_w ks) v M) (fun w M => zl3_suits L xs _ (zL_w ks) w M) rfl rfl ho (hk ks h _ c0 s0 hks hg (zm_D_any hD) hc hs hI2 hR2)
theorem zy_hour (hB : zf_B p s m meth c b L xs D cA g) {j : Nat} (hj : 6 * j + 6 ≤ L ∧ L ≤ 3072) (hk : zf_K p l e s m below meth c b D cA g zp_tail (zl_lb (zl_i j))) : zf_K p l e s m below meth c b D cA g 1308 (zl_lb (zl_i j)) := by
  intro ks h M c0 s0 hks hg hD hc hs hI hR
  obtain ⟨x, y, N1, N2, ho, hI2, f1, f2⟩ := zy_I2 hks hI (fun hG => zp_X9_hour hG (xs (6 * j + 1))) (fun hG hP => zp_X10_hour hG hP (xs (6 * j + 1)))
  have hR2 : zX ks (zy_2 M N1 N2) := zr_hour hks hI hR ho f1 f2
  exact zy_opI hB hg hks hD (by omega) (by omega) (zxo_hour l L xs) rfl rfl (zl1_hour hj xs (zL_w ks) M) (fun v M => zl2_hour hj xs (zL_w ks) v M) (fun w M => zl3_hour L xs _ (zL_w ks) w M) rfl rfl ho (hk ks h _ c0 s0 hks hg (zm_D_any hD) hc hs hI2 hR2)
theorem zy_youth (hB : zf_B p s m meth c b L xs D cA g) {j : Nat} (hj : 6 * j + 6 ≤ L ∧ L ≤ 3072) (hk : zf_K p l e s m below meth c b D cA g zp_tail (zl_lb (zl_i j))) : zf_K p l e s m below meth c b D cA g 1331 (zl_lb (zl_i j)) := by
  intro ks h M c0 s0 hks hg hD hc hs hI hR
  obtain ⟨x, y, N1, N2, ho, hI2, f1, f2⟩ := zy_I2 hks hI (fun hG => zp_X9_youth hG (xs (6 * j + 1))) (fun hG hP => zp_X10_youth hG hP (xs (6 * j + 1)))
  have hR2 : zX ks (zy_2 M N1 N2) := zr_youth hks hI hR ho f1 f2
  exact zy_opI hB hg hks hD (by omega) (by omega) (zxo_youth l L xs) rfl rfl (zl1_youth hj xs (zL_w ks) M) (fun v M => zl2_youth hj xs (zL_w ks) v M) (fun w M => zl3_youth L xs _ (zL_w ks) w M) rfl rfl ho (hk ks h _ c0 s0 hks hg (zm_D_any hD) hc hs hI2 hR2)
theorem zy_best (hB : zf_B p s m meth c b L xs D cA g) {j : Nat} (hj : 6 * j + 6 ≤ L ∧ L ≤ 3072) (hk : zf_K p l e s m below meth c b D cA g zp_tail (zl_lb (zl_i j))) : zf_K p l e s m below meth c b D cA g 1354 (zl_lb (zl_i j)) := by
  intro ks h M c0 s0 hks hg hD hc hs hI hR
  obtain ⟨x, y, N1, N2, ho, hI2, f1, f2⟩ := zy_I2 hks hI (fun hG => zp_X9_best hG ) (fun hG hP => zp_X10_best hG hP )
  have hR2 : zX ks (zy_2 M N1 N2) := zr_best hks hI hR ho f1 f2
  exact zy_opI hB hg hks hD (by omega) (by omega) (zxo_best l L xs) rfl rfl (zl1_best hj xs (zL_w ks) M) (fun v M => zl2_best hj xs (zL_w ks) v M) (fun w M => zl3_best L xs _ (zL_w ks) w M) rfl rfl ho (hk ks h _ c0 s0 hks hg (zm_D_any hD) hc hs hI2 hR2)
theorem zy_plan (hB : zf_B p s m meth c b L xs D cA g) {j : Nat} (hj : 6 * j + 6 ≤ L ∧ L ≤ 3072) (hk : zf_K p l e s m below meth c b D cA g zp_tail (zl_lb (zl_i j))) : zf_K p l e s m below meth c b D cA g 1367 (zl_lb (zl_i j)) := by
  intro ks h M c0 s0 hks hg hD hc hs hI hR
  obtain ⟨x, y, N1, N2, ho, hI2, f1, f2⟩ := zy_I2 hks hI (fun hG => zp_X9_plan hG (xs (6 * j + 1))) (fun hG hP => zp_X10_plan hG hP (xs (6 * j + 1)))
  have hR2 : zX ks (zy_2 M N1 N2) := zr_plan hks hI hR ho f1 f2
  exact zy_opI hB hg hks hD (by omega) (by omega) (zxo_plan l L xs) rfl rfl (zl1_plan hj xs (zL_w ks) M) (fun v M => zl2_plan hj xs (zL_w ks) v M) (fun w M => zl3_plan L xs _ (zL_w ks) w M) rfl rfl ho (hk ks h _ c0 s0 hks hg (zm_D_any hD) hc hs hI2 hR2)
theorem zy_ways (hB : zf_B p s m meth c b L xs D cA g) {j : Nat} (hj : 6 * j + 6 ≤ L ∧ L ≤ 3072) (hk : zf_K p l e s m below meth c b D cA g zp_tail (zl_lb (zl_i j))) : zf_K p l e s m below meth c b D cA g 1390 (zl_lb (zl_i j)) := by
  intro ks h M c0 s0 hks hg hD hc hs hI hR
  obtain ⟨x, y, N1, N2, ho, hI2, f1, f2⟩ := zy_I2 hks hI (fun hG => zp_X9_ways hG ) (fun hG hP => zp_X10_ways hG hP )
  have hR2 : zX ks (zy_2 M N1 N2) := zr_ways hks hI hR ho f1 f2
  exact zy_opI hB hg hks hD (by omega) (by omega) (zxo_ways l L xs) rfl rfl (zl1_ways hj xs (zL_w ks) M) (fun v M => zl2_ways hj xs (zL_w ks) v M) (fun w M => zl3_ways L xs _ (zL_w ks) w M) rfl rfl ho (hk ks h _ c0 s0 hks hg (zm_D_any hD) hc hs hI2 hR2)
theorem zy_every (hB : zf_B p s m meth c b L xs D cA g) {j : Nat} (hj : 6 * j + 6 ≤ L ∧ L ≤ 3072) (hk : zf_K p l e s m below meth c b D cA g zp_tail (zl_lb (zl_i j))) : zf_K p l e s m below meth c b D cA g 1403 (zl_lb (zl_i j)) := by
  intro ks h M c0 s0 hks hg hD hc hs hI hR
  obtain ⟨x, y, N1, N2, ho, hI2, f1, f2⟩ := zy_I2 hks hI (fun hG => zp_X9_every hG ) (fun hG hP => zp_X10_every hG hP )
  have hR2 : zX ks (zy_2 M N1 N2) := zr_every hks hI hR ho f1 f2
  exact zy_opI hB hg hks hD (by omega) (by omega) (zxo_every l L xs) rfl rfl (zl1_every hj xs (zL_w ks) M) (fun v M => zl2_every hj xs (zL_w ks) v M) (fun w M => zl3_every L xs _ (zL_w ks) w M) rfl rfl ho (hk ks h _ c0 s0 hks hg (zm_D_any hD) hc hs hI2 hR2)
theorem zy_calls (hB : zf_B p s m meth c b L xs D cA g) {j : Nat} (hj : 6 * j + 6 ≤ L ∧ L ≤ 3072) (hk : zf_K p l e s m below meth c b D cA g zp_tail (zl_lb (zl_i j))) : zf_K p l e s m below meth c b D cA g 1416 (zl_lb (zl_i j)) := by
  intro ks h M c0 s0 hks hg hD hc hs hI hR
  obtain ⟨x, y, N1, N2, ho, hI2, f1, f2⟩ := zy_I2 hks hI (fun hG => zp_X9_calls hG ) (fun hG hP => zp_X10_calls hG hP )
  have hR2 : zX ks (zy_2 M N1 N2) := zr_calls hks hI hR ho f1 f2
  exact zy_opI hB hg hks hD (by omega) (by omega) (zxo_calls l L xs) rfl rfl (zl1_calls hj xs (zL_w ks) M) (fun v M => zl2_calls hj xs (zL_w ks) v M) (fun w M => zl3_calls L xs _ (zL_w ks) w M) rfl rfl ho (hk ks h _ c0 s0 hks hg (zm_D_any hD) hc hs hI2 hR2)
theorem zy_none (hB : zf_B p s m meth c b L xs D cA g) {j : Nat} (hj : 6 * j + 6 ≤ L ∧ L ≤ 3072) (hk : zf_K p l e s m below meth c b D cA g zp_tail (zl_lb (zl_i j))) : zf_K p l e s m below meth c b D cA g 1429 (zl_lb (zl_i j)) := by
  intro ks h M c0 s0 hks hg hD hc hs hI hR
  obtain ⟨x, y, N1, N2, ho, hI2, f1, f2⟩ := zy_I2 hks hI (fun hG => zp_X9_none hG ) (fun hG hP => zp_X10_none hG hP )
  have hR2 : zX ks (zy_2 M N1 N2) := zr_none hks hI hR ho f1 f2
  exact zy_opI hB hg hks hD (by omega) (by omega) (zxo_none l L xs) rfl rfl (zl1_none hj xs (zL_w ks) M) (fun v M => zl2_none hj xs (zL_w ks) v M) (fun w M => zl3_none L xs _ (zL_w ks) w M) rfl rfl ho (hk ks h _ c0 s0 hks hg (zm_D_any hD) hc hs hI2 hR2)
theorem zy_by (hB : zf_B p s m meth c b L xs D cA g) {j : Nat} (hj : 6 * j + 6 ≤ L ∧ L ≤ 3072) (hk : zf_K p l e s m below meth c b D cA g zp_tail (zl_lb (zl_i j))) : zf_K p l e s m below meth c b D cA g 1442 (zl_lb (zl_i j)) := by
  intro ks h M c0 s0 hks hg hD hc hs hI hR
  obtain ⟨x, y, N1, N2, ho, hI2, f1, f2⟩ := zy_I2 hks hI (fun hG => zp_X9_by hG (xs (6 * j + 1))) (fun hG hP => zp_X10_by hG hP (xs (6 * j + 1)))
  have hR2 : zX ks (zy_2 M N1 N2) := zr_by hks hI hR ho f1 f2
  exact zy_opI hB hg hks hD (by omega) (by omega) (zxo_by l L xs) rfl rfl (zl1_by hj xs (zL_w ks) M) (fun v M => zl2_by hj xs (zL_w ks) v M) (fun w M => zl3_by L xs _ (zL_w ks) w M) rfl rfl ho (hk ks h _ c0 s0 hks hg (zm_D_any hD) hc hs hI2 hR2)
theorem zy_law (hB : zf_B p s m meth c b L xs D cA g) {j : Nat} (hj : 6 * j + 6 ≤ L ∧ L ≤ 3072) (hk : zf_K p l e s m below meth c b D cA g zp_tail (zl_lb (zl_i j))) : zf_K p l e s m below meth c b D cA g 1465 (zl_lb (zl_i j)) := by
  intro ks h M c0 s0 hks hg hD hc hs hI hR
  obtain ⟨x, y, N1, N2, ho, hI2, f1, f2⟩ := zy_I2 hks hI (fun hG => zp_X9_law hG ) (fun hG hP => zp_X10_law hG hP )
  have hR2 : zX ks (zy_2 M N1 N2) := zr_law hks hI hR ho f1 f2
  exact zy_opI hB hg hks hD (by omega) (by omega) (zxo_law l L xs) rfl rfl (zl1_law hj xs (zL_w ks) M) (fun v M => zl2_law hj xs (zL_w ks) v M) (fun w M => zl3_law L xs _ (zL_w ks) w M) rfl rfl ho (hk ks h _ c0 s0 hks hg (zm_D_any hD) hc hs hI2 hR2)
theorem zy_laws (hB : zf_B p s m meth c b L xs D cA g) {j : Nat} (hj : 6 * j + 6 ≤ L ∧ L ≤ 3072) (hk : zf_K p l e s m below meth c b D cA g zp_tail (zl_lb (zl_i j))) : zf_K p l e s m below meth c b D cA g 1478 (zl_lb (zl_i j)) := by
  intro ks h M c0 s0 hks hg hD hc hs hI hR
  obtain ⟨x, y, N1, N2, ho, hI2, f1, f2⟩ := zy_I2 hks hI (fun hG => zp_X9_laws hG (xs (6 * j + 1))) (fun hG hP => zp_X10_laws hG hP (xs (6 * j + 1)))
  have hR2 : zX ks (zy_2 M N1 N2) := zr_laws hks hI hR ho f1 f2
  exact zy_opI hB hg hks hD (by omega) (by omega) (zxo_laws l L xs) rfl rfl (zl1_laws hj xs (zL_w ks) M) (fun v M => zl2_laws hj xs (zL_w ks) v M) (fun w M => zl3_laws L xs _ (zL_w ks) w M) rfl rfl ho (hk ks h _ c0 s0 hks hg (zm_D_any hD) hc hs hI2 hR2)
theorem zy_sat (hB : zf_B p s m meth c b L xs D cA g) {j : Nat} (hj : 6 * j + 6 ≤ L ∧ L ≤ 3072) (hk : zf_K p l e s m below meth c b D cA g zp_tail (zl_lb (zl_i j))) : zf_K p l e s m below meth c b D cA g 1501 (zl_lb (zl_i j)) := by
  intro ks h M c0 s0 hks hg hD hc hs hI hR
  obtain ⟨x, y, N1, N2, ho, hI2, f1, f2⟩ := zy_I2 hks hI (fun hG => zp_X9_sat hG (xs (6 * j + 1)) (xs (6 * j + 2))) (fun hG hP => zp_X10_sat hG hP (xs (6 * j + 1)) (xs (6 * j + 2)))
  have hR2 : zX ks (zy_2 M N1 N2) := zr_sat hks hI hR ho f1 f2
  exact zy_opI hB hg hks hD (by omega) (by omega) (zxo_sat l L xs) rfl rfl (zl1_sat hj xs (zL_w ks) M) (fun v M => zl2_sat hj xs (zL_w ks) v M) (fun w M => zl3_sat L xs _ (zL_w ks) w M) rfl rfl ho (hk ks h _ c0 s0 hks hg (zm_D_any hD) hc hs hI2 hR2)
theorem zy_ask (hB : zf_B p s m meth c b L xs D cA g) {j : Nat} (hj : 6 * j + 6 ≤ L ∧ L ≤ 3072) (hk : zf_K p l e s m below meth c b D cA g zp_tail (zl_lb (zl_i j))) : zf_K p l e s m below meth c b D cA g 1534 (zl_lb (zl_i j)) := by
  intro ks h M c0 s0 hks hg hD hc hs hI hR
  obtain ⟨x, y, N1, N2, ho, hI2, f1, f2⟩ := zy_I2 hks hI (fun hG => zp_X9_ask hG (xs (6 * j + 1)) (xs (6 * j + 2))) (fun hG hP => zp_X10_ask hG hP (xs (6 * j + 1)) (xs (6 * j + 2)))
  have hR2 : zX ks (zy_2 M N1 N2) := zr_ask hks hI hR ho f1 f2
  exact zy_opI hB hg hks hD (by omega) (by omega) (zxo_ask l L xs) rfl rfl (zl1_ask hj xs (zL_w ks) M) (fun v M => zl2_ask hj xs (zL_w ks) v M) (fun w M => zl3_ask L xs _ (zL_w ks) w M) rfl rfl ho (hk ks h _ c0 s0 hks hg (zm_D_any hD) hc hs hI2 hR2)
theorem zy_marks (hB : zf_B p s m meth c b L xs D cA g) {j : Nat} (hj : 6 * j + 6 ≤ L ∧ L ≤ 3072) (hk : zf_K p l e s m below meth c b D cA g zp_tail (zl_lb (zl_i j))) : zf_K p l e s m below meth c b D cA g 1567 (zl_lb (zl_i j)) := by
  intro ks h M c0 s0 hks hg hD hc hs hI hR
  obtain ⟨x, y, N1, N2, ho, hI2, f1, f2⟩ := zy_I2 hks hI (fun hG => zp_X9_marks hG (xs (6 * j + 1))) (fun hG hP => zp_X10_marks hG hP (xs (6 * j + 1)))
  have hR2 : zX ks (zy_2 M N1 N2) := zr_marks hks hI hR ho f1 f2
  exact zy_opI hB hg hks hD (by omega) (by omega) (zxo_marks l L xs) rfl rfl (zl1_marks hj xs (zL_w ks) M) (fun v M => zl2_marks hj xs (zL_w ks) v M) (fun w M => zl3_marks L xs _ (zL_w ks) w M) rfl rfl ho (hk ks h _ c0 s0 hks hg (zm_D_any hD) hc hs hI2 hR2)
theorem zy_mark (hB : zf_B p s m meth c b L xs D cA g) {j : Nat} (hj : 6 * j + 6 ≤ L ∧ L ≤ 3072) (hk : zf_K p l e s m below meth c b D cA g zp_tail (zl_lb (zl_i j))) : zf_K p l e s m below meth c b D cA g 1590 (zl_lb (zl_i j)) := by
  intro ks h M c0 s0 hks hg hD hc hs hI hR
  obtain ⟨x, y, N1, N2, ho, hI2, f1, f2⟩ := zy_I2 hks hI (fun hG => zp_X9_mark hG (xs (6 * j + 1)) (xs (6 * j + 2))) (fun hG hP => zp_X10_mark hG hP (xs (6 * j + 1)) (xs (6 * j + 2)))
  have hR2 : zX ks (zy_2 M N1 N2) := zr_mark hks hI hR ho f1 f2
  exact zy_opI hB hg hks hD (by omega) (by omega) (zxo_mark l L xs) rfl rfl (zl1_mark hj xs (zL_w ks) M) (fun v M => zl2_mark hj xs (zL_w ks) v M) (fun w M => zl3_mark L xs _ (zL_w ks) w M) rfl rfl ho (hk ks h _ c0 s0 hks hg (zm_D_any hD) hc hs hI2 hR2)
theorem zy_under (hB : zf_B p s m meth c b L xs D cA g) {j : Nat} (hj : 6 * j + 6 ≤ L ∧ L ≤ 3072) (hk : zf_K p l e s m below meth c b D cA g zp_tail (zl_lb (zl_i j))) : zf_K p l e s m below meth c b D cA g 1623 (zl_lb (zl_i j)) := by
  intro ks h M c0 s0 hks hg hD hc hs hI hR
  obtain ⟨x, y, N1, N2, ho, hI2, f1, f2⟩ := zy_I2 hks hI (fun hG => zp_X9_under hG (xs (6 * j + 1)) (xs (6 * j + 2))) (fun hG hP => zp_X10_under hG hP (xs (6 * j + 1)) (xs (6 * j + 2)))
  have hR2 : zX ks (zy_2 M N1 N2) := zr_under hks hI hR ho f1 f2
  exact zy_opI hB hg hks hD (by omega) (by omega) (zxo_under l L xs) rfl rfl (zl1_under hj xs (zL_w ks) M) (fun v M => zl2_under hj xs (zL_w ks) v M) (fun w M => zl3_under L xs _ (zL_w ks) w M) rfl rfl ho (hk ks h _ c0 s0 hks hg (zm_D_any hD) hc hs hI2 hR2)
theorem zy_rests (hB : zf_B p s m meth c b L xs D cA g) {j : Nat} (hj : 6 * j + 6 ≤ L ∧ L ≤ 3072) (hk : zf_K p l e s m below meth c b D cA g zp_tail (zl_lb (zl_i j))) : zf_K p l e s m below meth c b D cA g 1656 (zl_lb (zl_i j)) := by
  intro ks h M c0 s0 hks hg hD hc hs hI hR
  obtain ⟨x, y, N1, N2, ho, hI2, f1, f2⟩ := zy_I2 hks hI (fun hG => zp_X9_rests hG (xs (6 * j + 1)) (xs (6 * j + 2))) (fun hG hP => zp_X10_rests hG hP (xs (6 * j + 1)) (xs (6 * j + 2)))
  have hR2 : zX ks (zy_2 M N1 N2) := zr_rests hks hI hR ho f1 f2
  exact zy_opI hB hg hks hD (by omega) (by omega) (zxo_rests l L xs) rfl rfl (zl1_rests hj xs (zL_w ks) M) (fun v M => zl2_rests hj xs (zL_w ks) v M) (fun w M => zl3_rests L xs _ (zL_w ks) w M) rfl rfl ho (hk ks h _ c0 s0 hks hg (zm_D_any hD) hc hs hI2 hR2)
theorem zy_rest (hB : zf_B p s m meth c b L xs D cA g) {j : Nat} (hj : 6 * j + 6 ≤ L ∧ L ≤ 3072) (hk : zf_K p l e s m below meth c b D cA g zp_tail (zl_lb (zl_i j))) : zf_K p l e s m below meth c b D cA g 1689 (zl_lb (zl_i j)) := by
  intro ks h M c0 s0 hks hg hD hc hs hI hR
  obtain ⟨x, y, N1, N2, ho, hI2, f1, f2⟩ := zy_I2 hks hI (fun hG => zp_X9_rest hG (xs (6 * j + 1)) (xs (6 * j + 2))) (fun hG hP => zp_X10_rest hG hP (xs (6 * j + 1)) (xs (6 * j + 2)))
  have hR2 : zX ks (zy_2 M N1 N2) := zr_rest hks hI hR ho f1 f2
  exact zy_opI hB hg hks hD (by omega) (by omega) (zxo_rest l L xs) rfl rfl (zl1_rest hj xs (zL_w ks) M) (fun v M => zl2_rest hj xs (zL_w ks) v M) (fun w M => zl3_rest L xs _ (zL_w ks) w M) rfl rfl ho (hk ks h _ c0 s0 hks hg (zm_D_any hD) hc hs hI2 hR2)
theorem zy_swaps (hB : zf_B p s m meth c b L xs D cA g) {j : Nat} (hj : 6 * j + 6 ≤ L ∧ L ≤ 3072) (hk : zf_K p l e s m below meth c b D cA g zp_tail (zl_lb (zl_i j))) : zf_K p l e s m below meth c b D cA g 1722 (zl_lb (zl_i j)) := by
  intro ks h M c0 s0 hks hg hD hc hs hI hR
  obtain ⟨x, y, N1, N2, ho, hI2, f1, f2⟩ := zy_I2 hks hI (fun hG => zp_X9_swaps hG ) (fun hG hP => zp_X10_swaps hG hP )
  have hR2 : zX ks (zy_2 M N1 N2) := zr_swaps hks hI hR ho f1 f2
  exact zy_opI hB hg hks hD (by omega) (by omega) (zxo_swaps l L xs) rfl rfl (zl1_swaps hj xs (zL_w ks) M) (fun v M => zl2_swaps hj xs (zL_w ks) v M) (fun w M => zl3_swaps L xs _ (zL_w ks) w M) rfl rfl ho (hk ks h _ c0 s0 hks hg (zm_D_any hD) hc hs hI2 hR2)
theorem zy_swap (hB : zf_B p s m meth c b L xs D cA g) {j : Nat} (hj : 6 * j + 6 ≤ L ∧ L ≤ 3072) (hk : zf_K p l e s m below meth c b D cA g zp_tail (zl_lb (zl_i j))) : zf_K p l e s m below meth c b D cA g 1735 (zl_lb (zl_i j)) := by
  intro ks h M c0 s0 hks hg hD hc hs hI hR
  obtain ⟨x, y, N1, N2, ho, hI2, f1, f2⟩ := zy_I2 hks hI (fun hG => zp_X9_swap hG ) (fun hG hP => zp_X10_swap hG hP )
  have hR2 : zX ks (zy_2 M N1 N2) := zr_swap hks hI hR ho f1 f2
  exact zy_opI hB hg hks hD (by omega) (by omega) (zxo_swap l L xs) rfl rfl (zl1_swap hj xs (zL_w ks) M) (fun v M => zl2_swap hj xs (zL_w ks) v M) (fun w M => zl3_swap L xs _ (zL_w ks) w M) rfl rfl ho (hk ks h _ c0 s0 hks hg (zm_D_any hD) hc hs hI2 hR2)
theorem zy_chance (hB : zf_B p s m meth c b L xs D cA g) {j : Nat} (hj : 6 * j + 6 ≤ L ∧ L ≤ 3072) (hk : zf_K p l e s m below meth c b D cA g zp_tail (zl_lb (zl_i j))) : zf_K p l e s m below meth c b D cA g 1748 (zl_lb (zl_i j)) := by
  intro ks h M c0 s0 hks hg hD hc hs hI hR
  obtain ⟨x, y, N1, N2, ho, hI2, f1, f2⟩ := zy_J2 hks hI (fun hG => zp_X9_chance hG (xs (6 * j + 1)) (xs (6 * j + 2)) (xs (6 * j + 3))) (fun hG hP => zp_X10_chance hG hP (xs (6 * j + 1)) (xs (6 * j + 2)) (xs (6 * j + 3)))
  have hR2 : zX ks (zy_2 M N1 N2) := zr_chance hks hI hR ho f1 f2
  exact zy_opJ hB hg hks hD (by omega) (by omega) (zxo_chance l L xs) rfl rfl (zl1_chance hj xs (zL_w ks) M) zf_d1767 (fun M => zl2_chance hj xs (zL_w ks) M) zf_d1787 (fun M => zl3_chance L xs _ (zL_w ks) M) rfl rfl ho (hk ks h _ c0 s0 hks hg (zm_D_any hD) hc hs hI2 hR2)
theorem zy_luckily (hB : zf_B p s m meth c b L xs D cA g) {j : Nat} (hj : 6 * j + 6 ≤ L ∧ L ≤ 3072) (hk : zf_K p l e s m below meth c b D cA g zp_tail (zl_lb (zl_i j))) : zf_K p l e s m below meth c b D cA g 1791 (zl_lb (zl_i j)) := by
  intro ks h M c0 s0 hks hg hD hc hs hI hR
  obtain ⟨x, y, N1, N2, ho, hI2, f1, f2⟩ := zy_J2 hks hI (fun hG => zp_X9_luckily hG (xs (6 * j + 1)) (xs (6 * j + 2)) (xs (6 * j + 3))) (fun hG hP => zp_X10_luckily hG hP (xs (6 * j + 1)) (xs (6 * j + 2)) (xs (6 * j + 3)))
  have hR2 : zX ks (zy_2 M N1 N2) := zr_luckily hks hI hR ho f1 f2
  exact zy_opJ hB hg hks hD (by omega) (by omega) (zxo_luckily l L xs) rfl rfl (zl1_luckily hj xs (zL_w ks) M) zf_d1810 (fun M => zl2_luckily hj xs (zL_w ks) M) zf_d1830 (fun M => zl3_luckily L xs _ (zL_w ks) M) rfl rfl ho (hk ks h _ c0 s0 hks hg (zm_D_any hD) hc hs hI2 hR2)
theorem zy_mean (hB : zf_B p s m meth c b L xs D cA g) {j : Nat} (hj : 6 * j + 6 ≤ L ∧ L ≤ 3072) (hk : zf_K p l e s m below meth c b D cA g zp_tail (zl_lb (zl_i j))) : zf_K p l e s m below meth c b D cA g 1834 (zl_lb (zl_i j)) := by
  intro ks h M c0 s0 hks hg hD hc hs hI hR
  obtain ⟨x, y, N1, N2, ho, hI2, f1, f2⟩ := zy_J2 hks hI (fun hG => zp_X9_mean hG (xs (6 * j + 1)) (xs (6 * j + 2))) (fun hG hP => zp_X10_mean hG hP (xs (6 * j + 1)) (xs (6 * j + 2)))
  have hR2 : zX ks (zy_2 M N1 N2) := zr_mean hks hI hR ho f1 f2
  exact zy_opJ hB hg hks hD (by omega) (by omega) (zxo_mean l L xs) rfl rfl (zl1_mean hj xs (zL_w ks) M) zf_d1848 (fun M => zl2_mean hj xs (zL_w ks) M) zf_d1863 (fun M => zl3_mean L xs _ (zL_w ks) M) rfl rfl ho (hk ks h _ c0 s0 hks hg (zm_D_any hD) hc hs hI2 hR2)
theorem zy_move (hB : zf_B p s m meth c b L xs D cA g) {j : Nat} (hj : 6 * j + 6 ≤ L ∧ L ≤ 3072) (hk : zf_K p l e s m below meth c b D cA g zp_tail (zl_lb (zl_i j))) : zf_K p l e s m below meth c b D cA g 1867 (zl_lb (zl_i j)) := by
  intro ks h M c0 s0 hks hg hD hc hs hI hR
  obtain ⟨x, y, N1, N2, ho, hI2, f1, f2⟩ := zy_I2 hks hI (fun hG => zp_X9_move hG (xs (6 * j + 1)) (xs (6 * j + 2)) (xs (6 * j + 3))) (fun hG hP => zp_X10_move hG hP (xs (6 * j + 1)) (xs (6 * j + 2)) (xs (6 * j + 3)))
  have hR2 : zX ks (zy_2 M N1 N2) := zr_move hks hI hR ho f1 f2
  exact zy_opI hB hg hks hD (by omega) (by omega) (zxo_move l L xs) rfl rfl (zl1_move hj xs (zL_w ks) M) (fun v M => zl2_move hj xs (zL_w ks) v M) (fun w M => zl3_move L xs _ (zL_w ks) w M) rfl rfl ho (hk ks h _ c0 s0 hks hg (zm_D_any hD) hc hs hI2 hR2)
theorem zy_undo (hB : zf_B p s m meth c b L xs D cA g) {j : Nat} (hj : 6 * j + 6 ≤ L ∧ L ≤ 3072) (hk : zf_K p l e s m below meth c b D cA g zp_tail (zl_lb (zl_i j))) : zf_K p l e s m below meth c b D cA g 1910 (zl_lb (zl_i j)) := by
  intro ks h M c0 s0 hks hg hD hc hs hI hR
  obtain ⟨x, y, N1, N2, ho, hI2, f1, f2⟩ := zy_I2 hks hI (fun hG => zp_X9_undo hG ) (fun hG hP => zp_X10_undo hG hP )
  have hR2 : zX ks (zy_2 M N1 N2) := zr_undo hks hI hR ho f1 f2
  exact zy_opI hB hg hks hD (by omega) (by omega) (zxo_undo l L xs) rfl rfl (zl1_undo hj xs (zL_w ks) M) (fun v M => zl2_undo hj xs (zL_w ks) v M) (fun w M => zl3_undo L xs _ (zL_w ks) w M) rfl rfl ho (hk ks h _ c0 s0 hks hg (zm_D_any hD) hc hs hI2 hR2)
theorem zy_anew (hB : zf_B p s m meth c b L xs D cA g) {j : Nat} (hj : 6 * j + 6 ≤ L ∧ L ≤ 3072) (hk : zf_K p l e s m below meth c b D cA g zp_tail (zl_lb (zl_i j))) : zf_K p l e s m below meth c b D cA g 1923 (zl_lb (zl_i j)) := by
  intro ks h M c0 s0 hks hg hD hc hs hI hR
  obtain ⟨x, y, N1, N2, ho, hI2, f1, f2⟩ := zy_I2 hks hI (fun hG => zp_X9_anew hG ) (fun hG hP => zp_X10_anew hG hP )
  have hR2 : zX ks (zy_2 M N1 N2) := zr_anew hks hI hR ho f1 f2
  exact zy_opI hB hg hks hD (by omega) (by omega) (zxo_anew l L xs) rfl rfl (zl1_anew hj xs (zL_w ks) M) (fun v M => zl2_anew hj xs (zL_w ks) v M) (fun w M => zl3_anew L xs _ (zL_w ks) w M) rfl rfl ho (hk ks h _ c0 s0 hks hg (zm_D_any hD) hc hs hI2 hR2)
theorem zy_drawn (hB : zf_B p s m meth c b L xs D cA g) {j : Nat} (hj : 6 * j + 6 ≤ L ∧ L ≤ 3072) (hk : zf_K p l e s m below meth c b D cA g zp_tail (zl_lb (zl_i j))) : zf_K p l e s m below meth c b D cA g 1936 (zl_lb (zl_i j)) := by
  intro ks h M c0 s0 hks hg hD hc hs hI hR
  obtain ⟨x, y, N1, N2, ho, hI2, f1, f2⟩ := zy_I2 hks hI (fun hG => zp_X9_drawn hG (xs (6 * j + 1)) (xs (6 * j + 2))) (fun hG hP => zp_X10_drawn hG hP (xs (6 * j + 1)) (xs (6 * j + 2)))
  have hR2 : zX ks (zy_2 M N1 N2) := zr_drawn hks hI hR ho f1 f2
  exact zy_opI hB hg hks hD (by omega) (by omega) (zxo_drawn l L xs) rfl rfl (zl1_drawn hj xs (zL_w ks) M) (fun v M => zl2_drawn hj xs (zL_w ks) v M) (fun w M => zl3_drawn L xs _ (zL_w ks) w M) rfl rfl ho (hk ks h _ c0 s0 hks hg (zm_D_any hD) hc hs hI2 hR2)
theorem zy_luck (hB : zf_B p s m meth c b L xs D cA g) {j : Nat} (hj : 6 * j + 6 ≤ L ∧ L ≤ 3072) (hk : zf_K p l e s m below meth c b D cA g zp_tail (zl_lb (zl_i j))) : zf_K p l e s m below meth c b D cA g 1969 (zl_lb (zl_i j)) := by
  intro ks h M c0 s0 hks hg hD hc hs hI hR
  obtain ⟨x, y, N1, N2, ho, hI2, f1, f2⟩ := zy_I2 hks hI (fun hG => zp_X9_luck hG (xs (6 * j + 1)) (xs (6 * j + 2)) (xs (6 * j + 3))) (fun hG hP => zp_X10_luck hG hP (xs (6 * j + 1)) (xs (6 * j + 2)) (xs (6 * j + 3)))
  have hR2 : zX ks (zy_2 M N1 N2) := zr_luck hks hI hR ho f1 f2
  exact zy_opI hB hg hks hD (by omega) (by omega) (zxo_luck l L xs) rfl rfl (zl1_luck hj xs (zL_w ks) M) (fun v M => zl2_luck hj xs (zL_w ks) v M) (fun w M => zl3_luck L xs _ (zL_w ks) w M) rfl rfl ho (hk ks h _ c0 s0 hks hg (zm_D_any hD) hc hs hI2 hR2)
theorem zy_rate (hB : zf_B p s m meth c b L xs D cA g) {j : Nat} (hj : 6 * j + 6 ≤ L ∧ L ≤ 3072) (hk : zf_K p l e s m below meth c b D cA g zp_tail (zl_lb (zl_i j))) : zf_K p l e s m below meth c b D cA g 2012 (zl_lb (zl_i j)) := by
  intro ks h M c0 s0 hks hg hD hc hs hI hR
  obtain ⟨x, y, N1, N2, ho, hI2, f1, f2⟩ := zy_I2 hks hI (fun hG => zp_X9_rate hG (xs (6 * j + 1))) (fun hG hP => zp_X10_rate hG hP (xs (6 * j + 1)))
  have hR2 : zX ks (zy_2 M N1 N2) := zr_rate hks hI hR ho f1 f2
  exact zy_opI hB hg hks hD (by omega) (by omega) (zxo_rate l L xs) rfl rfl (zl1_rate hj xs (zL_w ks) M) (fun v M => zl2_rate hj xs (zL_w ks) v M) (fun w M => zl3_rate L xs _ (zL_w ks) w M) rfl rfl ho (hk ks h _ c0 s0 hks hg (zm_D_any hD) hc hs hI2 hR2)
theorem zy_count (hB : zf_B p s m meth c b L xs D cA g) {j : Nat} (hj : 6 * j + 6 ≤ L ∧ L ≤ 3072) (hk : zf_K p l e s m below meth c b D cA g zp_tail (zl_lb (zl_i j))) : zf_K p l e s m below meth c b D cA g 2035 (zl_lb (zl_i j)) := by
  intro ks h M c0 s0 hks hg hD hc hs hI hR
  obtain ⟨x, y, N1, N2, ho, hI2, f1, f2⟩ := zy_I2 hks hI (fun hG => zp_X9_count hG (xs (6 * j + 1))) (fun hG hP => zp_X10_count hG hP (xs (6 * j + 1)))
  have hR2 : zX ks (zy_2 M N1 N2) := zr_count hks hI hR ho f1 f2
  exact zy_opI hB hg hks hD (by omega) (by omega) (zxo_count l L xs) rfl rfl (zl1_count hj xs (zL_w ks) M) (fun v M => zl2_count hj xs (zL_w ks) v M) (fun w M => zl3_count L xs _ (zL_w ks) w M) rfl rfl ho (hk ks h _ c0 s0 hks hg (zm_D_any hD) hc hs hI2 hR2)
theorem zy_row (hB : zf_B p s m meth c b L xs D cA g) {j : Nat} (hj : 6 * j + 6 ≤ L ∧ L ≤ 3072) (hk : zf_K p l e s m below meth c b D cA g zp_tail (zl_lb (zl_i j))) : zf_K p l e s m below meth c b D cA g 2104 (zl_lb (zl_i j)) := by
  intro ks h M c0 s0 hks hg hD hc hs hI hR
  obtain ⟨x, y, N1, N2, ho, hI2, f1, f2⟩ := zy_I2 hks hI (fun hG => zp_X9_row hG (xs (6 * j + 1)) (xs (6 * j + 2)) (xs (6 * j + 3))) (fun hG hP => zp_X10_row hG hP (xs (6 * j + 1)) (xs (6 * j + 2)) (xs (6 * j + 3)))
  have hR2 : zX ks (zy_2 M N1 N2) := zr_row hks hI hR ho f1 f2
  exact zy_opI hB hg hks hD (by omega) (by omega) (zxo_row l L xs) rfl rfl (zl1_row hj xs (zL_w ks) M) (fun v M => zl2_row hj xs (zL_w ks) v M) (fun w M => zl3_row L xs _ (zL_w ks) w M) rfl rfl ho (hk ks h _ c0 s0 hks hg (zm_D_any hD) hc hs hI2 hR2)
theorem zy_write (hB : zf_B p s m meth c b L xs D cA g) {j : Nat} (hj : 6 * j + 6 ≤ L ∧ L ≤ 3072) (hk : zf_K p l e s m below meth c b D cA g zp_tail (zl_lb (zl_i j))) : zf_K p l e s m below meth c b D cA g 2147 (zl_lb (zl_i j)) := by
  intro ks h M c0 s0 hks hg hD hc hs hI hR
  obtain ⟨x, y, N1, N2, ho, hI2, f1, f2⟩ := zy_I2 hks hI (fun hG => zp_X9_write hG (xs (6 * j + 1)) (xs (6 * j + 2)) (((Int32.toInt64 (xs (6 * j + 3))) <<< (Int32.toInt64 32 &&& 63)) ||| ((Int32.toInt64 (xs (6 * j + 4))) &&& 4294967295))) (fun hG hP => zp_X10_write hG hP (xs (6 * j + 1)) (xs (6 * j + 2)) (((Int32.toInt64 (xs (6 * j + 3))) <<< (Int32.toInt64 32 &&& 63)) ||| ((Int32.toInt64 (xs (6 * j + 4))) &&& 4294967295)))
  have hR2 : zX ks (zy_2 M N1 N2) := zr_write hks hI hR ho f1 f2
  exact zy_opI hB hg hks hD (by omega) (by omega) (zxo_write l L xs) rfl rfl (zl1_write hj xs (zL_w ks) M) (fun v M => zl2_write hj xs (zL_w ks) v M) (fun w M => zl3_write L xs _ (zL_w ks) w M) rfl rfl ho (hk ks h _ c0 s0 hks hg (zm_D_any hD) hc hs hI2 hR2)
theorem zy_paste (hB : zf_B p s m meth c b L xs D cA g) {j : Nat} (hj : 6 * j + 6 ≤ L ∧ L ≤ 3072) (hk : zf_K p l e s m below meth c b D cA g zp_tail (zl_lb (zl_i j))) : zf_K p l e s m below meth c b D cA g 2220 (zl_lb (zl_i j)) := by
  intro ks h M c0 s0 hks hg hD hc hs hI hR
  obtain ⟨x, y, N1, N2, ho, hI2, f1, f2⟩ := zy_I2 hks hI (fun hG => zp_X9_paste hG (xs (6 * j + 1)) (xs (6 * j + 2)) (xs (6 * j + 3)) (xs (6 * j + 4)) (xs (6 * j + 5))) (fun hG hP => zp_X10_paste hG hP (xs (6 * j + 1)) (xs (6 * j + 2)) (xs (6 * j + 3)) (xs (6 * j + 4)) (xs (6 * j + 5)))
  have hR2 : zX ks (zy_2 M N1 N2) := zr_paste hks hI hR ho f1 f2
  exact zy_opI hB hg hks hD (by omega) (by omega) (zxo_paste l L xs) rfl rfl (zl1_paste hj xs (zL_w ks) M) (fun v M => zl2_paste hj xs (zL_w ks) v M) (fun w M => zl3_paste L xs _ (zL_w ks) w M) rfl rfl ho (hk ks h _ c0 s0 hks hg (zm_D_any hD) hc hs hI2 hR2)
end ZFQ
end
section
/-! IMAGE, BACK: the law's cases of them -/
def zi_Q (D : va_G) (cA : FieldType → ClassId) (h : Nat → Nat → Nat) (A : Nat → Prop) (ks : List Nat) (k : Nat) (M : zm_I) : Array Value → State → Outcome → State → Prop := fun _ st o t =>
  o = .returned (some (.int 0)) ∧ (∃ (h1 : Nat → Nat → Nat) (N : zm_I), zn_ext (196 + 10 * ks.length) h h1 ∧ va_P D zm_cl (zm_ws cA h1 (zL_w (ks ++ [k])) (zm_mrg [(196 + 10 * ks.length, 10), (1, 10)] M N)) t.heap ∧ va_D A (zm_ws cA h1 (zL_w (ks ++ [k])) (zm_mrg [(196 + 10 * ks.length, 10), (1, 10)] M N)) ∧ zy_cpy (196 + 10 * ks.length) 1 M N) ∧ va_F A st t
theorem zi_mono {p : Program} {l : Launch} {e : Env} {R : Room} {s : State} {m : MethodId} {args : Array Value} {below : List Frame} {meth : Method} {c : Code} {H : Heap} {locs : List Loc} {c0 s0 : Nat} {Q Q' : State → Prop} {gf : JFrame} (h : W p l e R s m args below meth c H locs c0 s0 Q gf) (hq : ∀ t, Q t → Q' t) : W p l e R s m args below meth c H locs c0 s0 Q' gf := fun T hT X => by
  obtain ⟨t, a, b⟩ := h T hT X
  exact ⟨t, a, hq t b⟩
theorem zi_met (l : Launch) (D : va_G) (cA : FieldType → ClassId) (h : Nat → Nat → Nat) (A : Nat → Prop) {ks : List Nat} (hks : ks ∈ zK_all) {k : Nat} (hk : k < 3) (hx : zK_ix ks k = none) {M : zm_I} (hI : zy_I ks M) : Met l yX9_image (.code yX9_image cX9_image 3 (some .int) :: zm_tbl) zR_img (zn_Pc D cA h A (zL_w ks) [.ref 0, .int (Int32.ofNat k)] M) (zi_Q D cA h A ks k M) 10 171 A := by
  refine Met.ofW (cc := cX9_image) (maxL := 3) (ret := some .int) (by decide) rfl ?_
  intro p e s m args below meth c s₁ B hml hv
  obtain ⟨rfl, hP, hK, hD, hA, hw, hfr, hZ, hAO⟩ := hv
  have hts := atoms_spec (ws := Jvm.Cond.code yX9_image cX9_image 3 (some .int) :: zm_tbl) B.pre
  have hown : s.vm.findClass RX9 = some m.cls := findClass_of_methodNamed B.named
  have hB0 : ∀ T0 : zm_T, T0.2.2.2.1 = some .int → T0.2.2.2.2 = none → ∀ (h' : Nat → Nat → Nat) (c0 s0 : Nat), (∀ n, h' 1 n = h 1 n) → c0 ≤ zR_img.cells → s0 ≤ zR_img.slots → zm_B p s m (([.ref 0, .int (Int32.ofNat k)] : List Value).map (zm_cv h)).toArray meth c RX9 cX9_image 3 T0 D cA h' A zR_img c0 s0 := fun T0 hr hn h' c0 s0 hg hc0 hs0 => ⟨B.exec, B.bytes, hml, hown, fun w hw9 => hts w (List.mem_cons_of_mem _ hw9), hK, by rw [hr]; exact B.returns, B.notSynchronized, by rw [show h' 1 = h 1 from funext hg]; exact hZ, ⟨hc0, hs0⟩, fun x hx9 => by rw [hn] at hx9; cases hx9⟩
  have hB : zn_B p s m (([.ref 0, .int (Int32.ofNat k)] : List Value).map (zm_cv h)).toArray meth c RX9 cX9_image 3 ([], [], [], some .int, none) D cA (h 1) A zR_img := ⟨hB0 _ rfl rfl, hA, hAO⟩
  have hnp : ∀ (pc idx a b : Nat), zm_look zU_img.1 pc ≠ some (.putfield idx, a, b) := fun pc idx a b hq => by
    have := List.all_eq_true.mp (show zA_img.all (fun q => match q.2.1 with
      | .putfield _ => false
      | _ => true) = true by decide +kernel) _ (zm_look_mem hq)
    cases this
  rw [lg_entry_eq]
  have hl := lv_entry (([.ref 0, .int (Int32.ofNat k)] : List Value).map (zm_cv h)) (n := 3) (by simp [lg_sl, zm_cv, Value.category])
  have hgo2 := zn_go_ok (l := l) (e := e) (below := below) (Q := MQ below (zi_Q D cA h A ks k M) (([.ref 0, .int (Int32.ofNat k)] : List Value).map (zm_cv h)).toArray s 10 171 A) hB (Or.inr hnp) ⟨rfl, rfl⟩ (zx_img l) 60 h (zi_S0 ks k M) (zi_S1 ks k M) (fun _ => rfl) (Nat.zero_le _) (Nat.zero_le _) (zi_goM hks hk hx M)
  refine hgo2.2 (fun h1 hx1 => ?_) hD hfr hw s.heap [] _ ⟨rfl, hl.1, hl.2.1, fun q v hq => ?_⟩ hP va_S.rf
  · intro hD1 hfr1 hw1
    obtain ⟨g1, g2, -, -⟩ := zK_new hks hk hx
    have hlt : ks.length < (ks ++ [k]).length := by rw [List.length_append, List.length_singleton]; omega
    obtain ⟨N, hV, hcp⟩ := zi_copy g1 hlt (zy_newI hks hk hx hI) (Int32.ofNat k)
    obtain ⟨n, hn⟩ := zm_V_run hV
    have hG := zm_run_ok (l := l) (e := e) (below := below) (hB0 zT_im rfl rfl h1 10 171 (fun n => hx1.2 n) (Nat.le_refl _) (Nat.le_refl _)) (zx_im l) (M0 := M) hD1 hA hw1 n _ hn
    intro H locs la hl1 hP1 hS1
    refine zi_mono (hG H locs la hl1 hP1 hS1) (fun t ht => ?_)
    obtain ⟨o, t1, t2, ⟨t3, t4, t5⟩, t6⟩ := ht
    have hx2 : zn_ext (196 + 10 * ks.length) h h1 := by
      have := hx1
      unfold zi_S0 at this
      rw [(zK_w hks).2.2.1] at this
      exact this
    exact ⟨o, t1, t2, ⟨t3, ⟨h1, N, hx2, t4, zm_D_any hD1, hcp⟩, t5⟩, t6⟩
  · match q, hq with
    | 0, hq => cases hq; rfl
    | 1, hq => cases hq; rfl
    | 2, hq => cases hq
    | q + 3, hq => cases hq
theorem zy_MI {ks : List Nat} (hks : ks ∈ zK_all) {M N : zm_I} (hI : zy_I ks M) (g2 : zt_Gs zo_g22 N) (p2 : zq_P N) : zy_I ks (zm_mrg [(165, 31)] M N) := by
  obtain ⟨h1, h2, h3, h4, h5⟩ := hI
  have hin : ∀ {n : Nat}, n < 31 → (zm_mrg [(165, 31)] M N).1 (165 + n) = N.1 n := fun {n} hn => by
    have e := (zy_m1 (a := 165) (z := 31) (n := 165 + n) (by omega) (by omega) M N).1
    rw [Nat.add_sub_cancel_left] at e
    exact e
  refine ⟨zy_Gs zo_l1 (fun n hn => (zy_m0 (by omega) M N).1.trans (zy_s1 hn M).1.symm) h1, zy_Gs zo_l22 (fun n hn => hin hn) g2, zy_P ((zy_s1 (by decide) _).1.trans (hin (by decide))) ((zy_s1 (by decide) _).1.trans (hin (by decide))) p2, fun i hi => zy_Gs zo_l2 (fun n hn => (zy_m0 (by omega) M N).1.trans (zy_s1 hn M).1.symm) (h4 i hi), fun a ha => ?_⟩
  have hl := (zK_w hks).2.2.1
  have e := zy_m0 (a := 165) (z := 31) (n := a) (by omega) M N
  rw [e.1, e.2]
  exact h5 a ha
section ZFI
variable {p : Program} {l : Launch} {e : Env} {s : State} {m : MethodId} {below : List Frame} {meth : Method} {c : Code} {b L : Nat} {xs : Nat → Int32} {D : va_G} {cA : FieldType → ClassId} {g : Nat → Nat} {h : Nat → Nat → Nat} {c0 s0 : Nat} {T : zm_T} {M : zm_I} {ks : List Nat} {ls : List (Option Value)} {pc pc1 pc2 nM : Nat} {FM : zm_L → List Value → zm_I → zm_R} {aM : List Value}
/-- the reference's call alone, its answer not compared -/
theorem zy_midI (hB : zf_B p s m meth c b L xs D cA g) (hg : ∀ n, h 1 n = g n) (hks : ks ∈ zK_all) (hD : va_D (fun q => s.heap.size ≤ q) (zm_ws cA h (zL_w ks) M)) (hc : c0 ≤ room_1.cells) (hs : s0 ≤ room_1.slots) (hT : zm_ok l room_1 R_law code T ∧ zl_nr T.1 = true) (h1 : T.2.2.2.1 = ret) (h2 : T.2.2.2.2 = some (L, xs)) {v : Int32}
    (e2 : ∀ (k : zm_S → zm_R), zm_step T (zL_w ks) k (pc1, ls, [.int v], M) = zm_app (nM, some 10, false, [(0, 31)], FM) (zL_w ks) (.ref 165 :: aM) M (fun w N => k (pc2, ls, w.toList ++ [], N)))
    (e3 : ∀ (w : Int32) (M : zm_I) (k : zm_S → zm_R), zm_step T (zL_w ks) k (pc2, ls, [.int w], M) = k (zp_tail, ls, [], M))
    (tM : aM.map (zm_tr [(165, 31)]) = aM) {y : Int32} {N2 : zm_I} (ho : FM zW_M (.ref 0 :: aM) (zm_sub2 [(165, 31)] M) = some (some (.int y), N2))
    (hk : zm_G p l e room_1 s m #[Value.ref b] below meth c (zf_Z below #[Value.ref b] s) D cA h (zL_w ks) (fun q => s.heap.size ≤ q) 4 c0 s0 (zp_tail, ls, [], zm_mrg [(165, 31)] M N2)) : zm_G p l e room_1 s m #[Value.ref b] below meth c (zf_Z below #[Value.ref b] s) D cA h (zL_w ks) (fun q => s.heap.size ≤ q) 4 c0 s0 (pc1, ls, [.int v], M) := by
  have hw := (zK_w hks).2.2.2.1
  refine zf_step hB hg hT h1 h2 hD hw hc hs (S' := (pc2, ls, [.int y], zm_mrg [(165, 31)] M N2)) (fun k => (e2 k).trans (zy_callM hks ho tM rfl _)) ?_
  exact zf_step hB hg hT h1 h2 (zm_D_any hD) hw hc hs (M0 := M) (fun k => e3 y _ k) hk
/-- the reference's call alone, its answer compared -/
theorem zy_midC (hB : zf_B p s m meth c b L xs D cA g) (hg : ∀ n, h 1 n = g n) (hks : ks ∈ zK_all) (hD : va_D (fun q => s.heap.size ≤ q) (zm_ws cA h (zL_w ks) M)) (hc : c0 ≤ room_1.cells) (hs : s0 ≤ room_1.slots) (hT : zm_ok l room_1 R_law code T ∧ zl_nr T.1 = true) (h1 : T.2.2.2.1 = ret) (h2 : T.2.2.2.2 = some (L, xs)) {v : Int32}
    (e2 : ∀ (k : zm_S → zm_R), zm_step T (zL_w ks) k (pc1, ls, [.int v], M) = zm_app (nM, some 10, false, [(0, 31)], FM) (zL_w ks) (.ref 165 :: aM) M (fun w N => k (pc2, ls, w.toList ++ [.int v], N))) {pcF : Nat}
    (e3 : ∀ (v w : Int32) (M : zm_I) (k : zm_S → zm_R), zm_step T (zL_w ks) k (pc2, ls, [.int w, .int v], M) = if v = w then k (zp_tail, ls, [], M) else k (pcF, ls, [], M))
    (tM : aM.map (zm_tr [(165, 31)]) = aM) {y : Int32} {N2 : zm_I} (ho : FM zW_M (.ref 0 :: aM) (zm_sub2 [(165, 31)] M) = some (some (.int y), N2)) (hxy : v = y)
    (hk : zm_G p l e room_1 s m #[Value.ref b] below meth c (zf_Z below #[Value.ref b] s) D cA h (zL_w ks) (fun q => s.heap.size ≤ q) 4 c0 s0 (zp_tail, ls, [], zm_mrg [(165, 31)] M N2)) : zm_G p l e room_1 s m #[Value.ref b] below meth c (zf_Z below #[Value.ref b] s) D cA h (zL_w ks) (fun q => s.heap.size ≤ q) 4 c0 s0 (pc1, ls, [.int v], M) := by
  have hw := (zK_w hks).2.2.2.1
  refine zf_step hB hg hT h1 h2 hD hw hc hs (S' := (pc2, ls, [.int y, .int v], zm_mrg [(165, 31)] M N2)) (fun k => (e2 k).trans (zy_callM hks ho tM rfl _)) ?_
  exact zf_step hB hg hT h1 h2 (zm_D_any hD) hw hc hs (M0 := M) (fun k => (e3 v y _ k).trans (if_pos hxy)) hk
theorem zy_rec9 (ks : List Nat) (as : List Value) : zm_recv (zL_w ks) (.ref 0 :: as) (some 9) = true := by
  show zm_isO (zL_w ks) 9 (.ref 0) = true
  simp only [zm_isO, zK_0]
  rfl
theorem zy_own {nn : Nat} {F : zm_L → List Value → zm_I → zm_R} {as : List Value} {v : Value} {N : zm_I} (h : F (zL_w ks) (.ref 0 :: as) M = some (some v, N)) (k : Option Value → zm_I → zm_R) : zm_app (nn, some 9, true, [], F) (zL_w ks) (.ref 0 :: as) M k = k (some v) N := zm_app_s (C := (nn, some 9, true, [], F)) (zy_rec9 ks as) rfl h
/-- the class's image where it makes a bench -/
theorem zf_call (hB : zf_B p s m meth c b L xs D cA g) (hg : ∀ n, h 1 n = g n) (hks : ks ∈ zK_all) (hD : va_D (fun q => s.heap.size ≤ q) (zm_ws cA h (zL_w ks) M)) (hc : c0 + 10 ≤ room_1.cells) (hs : s0 + 171 ≤ room_1.slots) {k : Nat} (hk : k < 3) (hx : zK_ix ks k = none) (hI : zy_I ks M) {j : Nat}
    (hG : ∀ (h1 : Nat → Nat → Nat) (N : zm_I), (∀ n, h1 1 n = g n) → va_D (fun q => s.heap.size ≤ q) (zm_ws cA h1 (zL_w (ks ++ [k])) (zm_mrg [(196 + 10 * ks.length, 10), (1, 10)] M N)) → zy_cpy (196 + 10 * ks.length) 1 M N → zm_G p l e room_1 s m #[Value.ref b] below meth c (zf_Z below #[Value.ref b] s) D cA h1 (zL_w (ks ++ [k])) (fun q => s.heap.size ≤ q) 4 (c0 + 10) (s0 + 171) (zp_im1, zl_lb (zl_i j), [.int 0], zm_mrg [(196 + 10 * ks.length, 10), (1, 10)] M N)) :
    zm_G p l e room_1 s m #[Value.ref b] below meth c (zf_Z below #[Value.ref b] s) D cA h (zL_w ks) (fun q => s.heap.size ≤ q) 4 c0 s0 (zp_imc, zl_lb (zl_i j), [.int (Int32.ofNat k), .ref 0], M) := by
  intro H locs la hl hP hS
  obtain ⟨hx0, hb, hml, hown, hts, hK, hr, hlk, hZ, hcs, hsc⟩ := hB.1 ([], [], [], ret, none) rfl (Or.inl rfl) h 0 0 hg (Nat.zero_le _) (Nat.zero_le _)
  have hM := zi_met l D cA h (fun q => s.heap.size ≤ q) hks hk hx hI
  have hrec : ∃ cellB : Cell, H[h 0 0]? = some cellB ∧ cellB.vm.isStatics = false ∧ s.vm.findClass RX9 = some cellB.cls := by
    obtain ⟨r0, g1, cell, q1, q2, q3, -⟩ := hP 0 _ (zm_ws_at (zK_0 ks))
    refine ⟨cell, q1, by rw [q3]; rfl, ?_⟩
    have e9 : r0 = (RX9, TX9, 13) := Option.some.inj (g1.symm.trans rfl)
    subst e9
    rw [q2]
    exact (hK.1 9 _ rfl).2.1
  have hGV : GoodIn zm_tbl (wsV R_law zp_imi RX9 yX9_image (Jvm.Cond.code yX9_image cX9_image 3 (some .int) :: zm_tbl)) := by
    intro w hw
    unfold wsV at hw
    rcases List.mem_append.mp hw with hw | hw
    · simp only [List.mem_cons, List.not_mem_nil, or_false] at hw
      rcases hw with rfl | rfl | rfl | rfl
      · exact zm_good _ zw_imL
      · exact zm_good _ zw_imW.2.2.1
      · exact zm_good _ zw_imW.2.2.2
      · exact zm_good _ zw_imW.2.1
    · rcases List.mem_cons.mp hw with rfl | hw
      · exact zm_good _ zw_imW.1
      · exact zm_good _ hw
  have hpc : ∀ U : State, U.heap = H → s.WarmedH U.vm → zn_Pc D cA h (fun q => s.heap.size ≤ q) (zL_w ks) [.ref 0, .int (Int32.ofNat k)] M ([Value.ref (h 0 0), Value.int (Int32.ofNat k)] : List Value).toArray U := fun U hU hW => ⟨rfl, by rw [hU]; exact hP, va_K.moved hW.alike hK, hD, fun q9 h9 => Nat.le_trans hS.1 (by rw [hU] at h9; exact h9), (zK_w hks).2.2.2.1, hI.2.2.2.2, by rw [hU]; exact zm_Z_go hZ hS hW (fun _ z => z), zn_AO_warm hW hB.2⟩
  have hrun : va_Run p l e room_1 s m #[Value.ref b] below meth c H locs c0 s0 10 171 (F0 m zp_imc la [Value.int (Int32.ofNat k), Value.ref (h 0 0)]) [] (zi_Q D cA h (fun q => s.heap.size ≤ q) ks k M ([Value.ref (h 0 0), Value.int (Int32.ofNat k)] : List Value).toArray) (fun q => s.heap.size ≤ q) :=
    va_runV (b := h 0 0) (As := [Value.int (Int32.ofNat k)]) ⟨hx0, hb, hml, hown, hts⟩ hM (cwV 1 hts hGV rfl rfl rfl ⟨rfl, by decide, by decide, by decide +kernel⟩ ⟨Nat.le_of_ble_eq_true rfl, Nat.le_of_ble_eq_true rfl⟩) ⟨zn_blind, hrec, hpc⟩ rfl rfl hl.2.1 rfl (lv_room (by simp)) zf_dimg ⟨hc, hs⟩
  show W p l e room_1 s m #[Value.ref b] below meth c H locs c0 s0 (zf_Z below #[Value.ref b] s) (F0 m zp_imc la [Value.int (Int32.ofNat k), Value.ref (h 0 0)])
  intro Tn hT X
  obtain ⟨v, st₀, t, T', Lc, h0, X', hL, e1, e2, ⟨hv, ⟨h1, N, hx2, hP1, hD1, hcp⟩, hz, hkk⟩, stp⟩ := hrun Tn hT X
  cases hv
  rw [h0] at hz hkk
  have hG := hG h1 N (fun n => (hx2.2 n).trans (hg n)) hD1 hcp
  obtain ⟨t2, a1, b1⟩ := hG T'.heap (locs ++ Lc) la (zn_lok hx2 hl (by
      have hb0 : Nat.ble (0 + 1) (196 + 10 * ks.length) = true := Nat.ble_eq_true_of_le (by omega)
      have hb1 : Nat.ble (165 + 1) (196 + 10 * ks.length) = true := Nat.ble_eq_true_of_le (by omega)
      simp only [zl_lb, List.all_cons, List.all_nil, zn_clO, zn_clV, hb0, hb1, Bool.and_true])) (by rw [e1]; exact hP1)
    ⟨Nat.le_trans hS.1 (by rw [e1]; exact hz), fun q9 g1 g2 => by rw [e1, hkk q9 (Nat.lt_of_lt_of_le g1 hS.1) g2]; exact hS.2.1 q9 g1 g2, fun q9 hq9 => by
      rcases List.mem_append.mp hq9 with h9 | h9
      · exact hS.2.2 q9 h9
      · exact hL q9 h9⟩ T' rfl X'
  exact ⟨t2, stp t2 a1, b1⟩
theorem zy_image (hB : zf_B p s m meth c b L xs D cA g) {j : Nat} (hj : 6 * j + 6 ≤ L ∧ L ≤ 3072) (hk : zf_K p l e s m below meth c b D cA g zp_tail (zl_lb (zl_i j))) : zf_K p l e s m below meth c b D cA g zp_img (zl_lb (zl_i j)) := by
  intro ks h M c0 s0 hks hg hD hc hs hI hR
  have hw := (zK_w hks).2.2.2.1
  generalize hx1 : xs (6 * j + 1) = x
  have mid : ∀ {ks2 : List Nat} {h2 : Nat → Nat → Nat} {M1 : zm_I} {v : Int32} {c1 s1 : Nat}, ks2 ∈ zK_all → (∀ n, h2 1 n = g n) → va_D (fun q => s.heap.size ≤ q) (zm_ws cA h2 (zL_w ks2) M1) → c1 + 10 * (3 - ks2.length) ≤ room_1.cells → s1 + 171 * (3 - ks2.length) ≤ room_1.slots → zy_I ks2 M1 → zy_img ks M x v ks2 M1 → zm_G p l e room_1 s m #[Value.ref b] below meth c (zf_Z below #[Value.ref b] s) D cA h2 (zL_w ks2) (fun q => s.heap.size ≤ q) 4 c1 s1 (zp_im1, zl_lb (zl_i j), [.int v], M1) := by
    intro ks2 h2 M1 v c1 s1 hks2 hg2 hD2 hc2 hs2 hI2 ho
    obtain ⟨y, N2, q1, q2, q3, q4⟩ := zp_X10_image hI2.2.1 hI2.2.2.1 x
    exact zy_midI hB hg2 hks2 hD2 (by omega) (by omega) (zxo_image l L xs) rfl rfl (fun k => (zl2_image hj xs (zL_w ks2) v M1 k).trans (by rw [hx1])) (fun w M => zl3_image L xs _ (zL_w ks2) w M) rfl q1 (hk ks2 h2 _ c1 s1 hks2 hg2 (zm_D_any hD2) hc2 hs2 (zy_MI hks2 hI2 q2 q3) (zr_image hks hI hI2 hR ho q1 q4))
  have e1 : ∀ k : zm_S → zm_R, zm_step (zTo_i2 L xs) (zL_w ks) k (zp_img, zl_lb (zl_i j), [], M) = zm_app (2, some 9, true, [], zF_im) (zL_w ks) [.ref 0, .int x] M (fun v N => k (zp_im1, zl_lb (zl_i j), v.toList ++ [], N)) := fun k => (zl1_i2 hj xs (zL_w ks) M k).trans (by rw [hx1])
  by_cases hr : x < 0 ∨ ¬ x < 3
  · exact zf_step hB hg (zxo_i2 l L xs) rfl rfl hD hw (by omega) (by omega) (S' := (zp_im1, zl_lb (zl_i j), [.int (-2)], M)) (fun k => (e1 k).trans (zy_own (zi_imR hr) _)) (mid hks hg hD hc hs hI (Or.inl ⟨hr, rfl, rfl, rfl⟩))
  · obtain ⟨q, hq, hxq⟩ := zi_three (fun z => hr (Or.inl z)) (Decidable.not_not.mp (fun z => hr (Or.inr z)))
    cases hix : zK_ix ks q with
    | some i =>
      have hi := zK_old hks hq hix
      obtain ⟨N, hV, hcp⟩ := zi_copy hks hi hI (Int32.ofNat q)
      have hF : zF_im (zL_w ks) [.ref 0, .int x] M = some (some (.int 0), zm_mrg [(196 + 10 * i, 10), (1, 10)] M N) := by rw [hxq]; exact (zi_imK hq hix).trans hV
      exact zf_step hB hg (zxo_i2 l L xs) rfl rfl hD hw (by omega) (by omega) (S' := (zp_im1, zl_lb (zl_i j), [.int 0], zm_mrg [(196 + 10 * i, 10), (1, 10)] M N)) (fun k => (e1 k).trans (zy_own hF _)) (mid hks hg (zm_D_any hD) hc hs (zy_imI hks hi hI hcp) (Or.inr ⟨q, i, N, hq, hxq, rfl, hks, hix, Or.inl ⟨hix, rfl⟩, rfl, hcp⟩))
    | none =>
      obtain ⟨g1, g2, g3, g4⟩ := zK_new hks hq hix
      have hl2 : (ks ++ [q]).length = ks.length + 1 := by rw [List.length_append, List.length_singleton]
      refine zf_step hB hg (zxo_i1 l L xs) rfl rfl hD hw (by omega) (by omega) (fun k => (zl1_i1 hj xs (zL_w ks) M k).trans (by rw [hx1, hxq])) ?_
      refine zf_call hB hg hks hD (by omega) (by omega) hq hix hI (fun h1 N hg1 hD1 hcp => ?_)
      exact mid g1 hg1 hD1 (by rw [hl2]; omega) (by rw [hl2]; omega) (zy_imI g1 (by rw [hl2]; omega) (zy_newI hks hq hix hI) hcp) (Or.inr ⟨q, ks.length, N, hq, hxq, rfl, g1, g2, Or.inr ⟨hix, rfl⟩, rfl, hcp⟩)
theorem zy_backL (hB : zf_B p s m meth c b L xs D cA g) {j : Nat} (hj : 6 * j + 6 ≤ L ∧ L ≤ 3072) (hk : zf_K p l e s m below meth c b D cA g zp_tail (zl_lb (zl_i j))) : zf_K p l e s m below meth c b D cA g zp_back (zl_lb (zl_i j)) := by
  intro ks h M c0 s0 hks hg hD hc hs hI hR
  have hw := (zK_w hks).2.2.2.1
  generalize hx1 : xs (6 * j + 1) = x
  obtain ⟨v, M1, hF, hI1, ho⟩ := zy_back hks hI x
  obtain ⟨y, N2, q1, q2, q3, q4⟩ := zp_X10_back hI1.2.1 hI1.2.2.1 x
  refine zf_step hB hg (zxo_back l L xs) rfl rfl hD hw (by omega) (by omega) (S' := (zp_bk1, zl_lb (zl_i j), [.int v], M1)) (fun k => (zl1_back hj xs (zL_w ks) M k).trans (zy_own (by rw [hx1]; exact hF) _)) ?_
  exact zy_midI hB hg hks (zm_D_any hD) (by omega) (by omega) (zxo_back l L xs) rfl rfl (fun k => (zl2_back hj xs (zL_w ks) v M1 k).trans (by rw [hx1])) (fun w M => zl3_back L xs _ (zL_w ks) w M) rfl q1 (hk ks h _ c0 s0 hks hg (zm_D_any hD) hc hs (zy_MI hks hI1 q2 q3) (zr_back hks hI hI1 hR ho q1 q4))
end ZFI
end
section
/-! THE LAW'S WALK: its loop, its start -/
section ZFW
variable {p : Program} {l : Launch} {e : Env} {s : State} {m : MethodId} {below : List Frame} {meth : Method} {c : Code} {b L : Nat} {xs : Nat → Int32} {D : va_G} {cA : FieldType → ClassId} {g : Nat → Nat}
theorem zf_case (hB : zf_B p s m meth c b L xs D cA g) {j : Nat} (hj : 6 * j + 6 ≤ L ∧ L ≤ 3072) (hk : zf_K p l e s m below meth c b D cA g zp_tail (zl_lb (zl_i j))) : ∀ n, n < 75 → zf_K p l e s m below meth c b D cA g (zf_pc n) (zl_lb (zl_i j)) := by
  intro n hn
  match n, hn with
  | 0, _ => exact (show zf_pc 0 = 348 by decide) ▸ zy_feed hB hj hk
  | 1, _ => exact (show zf_pc 1 = 411 by decide) ▸ zy_end hB hj hk
  | 2, _ => exact (show zf_pc 2 = 434 by decide) ▸ zy_bench hB hj hk
  | 3, _ => exact (show zf_pc 3 = 447 by decide) ▸ zy_fault hB hj hk
  | 4, _ => exact (show zf_pc 4 = 470 by decide) ▸ zy_seat hB hj hk
  | 5, _ => exact (show zf_pc 5 = 493 by decide) ▸ zy_caller hB hj hk
  | 6, _ => exact (show zf_pc 6 = 526 by decide) ▸ zy_age hB hj hk
  | 7, _ => exact (show zf_pc 7 = 559 by decide) ▸ zy_sits hB hj hk
  | 8, _ => exact (show zf_pc 8 = 592 by decide) ▸ zy_stands hB hj hk
  | 9, _ => exact (show zf_pc 9 = 615 by decide) ▸ zy_free hB hj hk
  | 10, _ => exact (show zf_pc 10 = 638 by decide) ▸ zy_goes hB hj hk
  | 11, _ => exact (show zf_pc 11 = 661 by decide) ▸ zy_called hB hj hk
  | 12, _ => exact (show zf_pc 12 = 684 by decide) ▸ zy_ends hB hj hk
  | 13, _ => exact (show zf_pc 13 = 707 by decide) ▸ zy_told hB hj hk
  | 14, _ => exact (show zf_pc 14 = 720 by decide) ▸ zy_forgotten hB hj hk
  | 15, _ => exact (show zf_pc 15 = 733 by decide) ▸ zy_gun hB hj hk
  | 16, _ => exact (show zf_pc 16 = 746 by decide) ▸ zy_waits hB hj hk
  | 17, _ => exact (show zf_pc 17 = 769 by decide) ▸ zy_worn hB hj hk
  | 18, _ => exact (show zf_pc 18 = 802 by decide) ▸ zy_dip hB hj hk
  | 19, _ => exact (show zf_pc 19 = 825 by decide) ▸ zy_deepest hB hj hk
  | 20, _ => exact (show zf_pc 20 = 838 by decide) ▸ zy_youngest hB hj hk
  | 21, _ => exact (show zf_pc 21 = 861 by decide) ▸ zy_oldest hB hj hk
  | 22, _ => exact (show zf_pc 22 = 884 by decide) ▸ zy_meets hB hj hk
  | 23, _ => exact (show zf_pc 23 = 917 by decide) ▸ zy_ripe hB hj hk
  | 24, _ => exact (show zf_pc 24 = 940 by decide) ▸ zy_window hB hj hk
  | 25, _ => exact (show zf_pc 25 = 963 by decide) ▸ zy_misses hB hj hk
  | 26, _ => exact (show zf_pc 26 = 986 by decide) ▸ zy_grown hB hj hk
  | 27, _ => exact (show zf_pc 27 = 1009 by decide) ▸ zy_beside hB hj hk
  | 28, _ => exact (show zf_pc 28 = 1042 by decide) ▸ zy_crowd hB hj hk
  | 29, _ => exact (show zf_pc 29 = 1055 by decide) ▸ zy_next hB hj hk
  | 30, _ => exact (show zf_pc 30 = 1078 by decide) ▸ zy_years hB hj hk
  | 31, _ => exact (show zf_pc 31 = 1101 by decide) ▸ zy_last hB hj hk
  | 32, _ => exact (show zf_pc 32 = 1114 by decide) ▸ zy_twins hB hj hk
  | 33, _ => exact (show zf_pc 33 = 1137 by decide) ▸ zy_opens hB hj hk
  | 34, _ => exact (show zf_pc 34 = 1160 by decide) ▸ zy_without hB hj hk
  | 35, _ => exact (show zf_pc 35 = 1183 by decide) ▸ zy_helps hB hj hk
  | 36, _ => exact (show zf_pc 36 = 1206 by decide) ▸ zy_less hB hj hk
  | 37, _ => exact (show zf_pc 37 = 1229 by decide) ▸ zy_tuned hB hj hk
  | 38, _ => exact (show zf_pc 38 = 1252 by decide) ▸ zy_moved hB hj hk
  | 39, _ => exact (show zf_pc 39 = 1285 by decide) ▸ zy_suits hB hj hk
  | 40, _ => exact (show zf_pc 40 = 1308 by decide) ▸ zy_hour hB hj hk
  | 41, _ => exact (show zf_pc 41 = 1331 by decide) ▸ zy_youth hB hj hk
  | 42, _ => exact (show zf_pc 42 = 1354 by decide) ▸ zy_best hB hj hk
  | 43, _ => exact (show zf_pc 43 = 1367 by decide) ▸ zy_plan hB hj hk
  | 44, _ => exact (show zf_pc 44 = 1390 by decide) ▸ zy_ways hB hj hk
  | 45, _ => exact (show zf_pc 45 = 1403 by decide) ▸ zy_every hB hj hk
  | 46, _ => exact (show zf_pc 46 = 1416 by decide) ▸ zy_calls hB hj hk
  | 47, _ => exact (show zf_pc 47 = 1429 by decide) ▸ zy_none hB hj hk
  | 48, _ => exact (show zf_pc 48 = 1442 by decide) ▸ zy_by hB hj hk
  | 49, _ => exact (show zf_pc 49 = 1465 by decide) ▸ zy_law hB hj hk
  | 50, _ => exact (show zf_pc 50 = 1478 by decide) ▸ zy_laws hB hj hk
  | 51, _ => exact (show zf_pc 51 = 1501 by decide) ▸ zy_sat hB hj hk
  | 52, _ => exact (show zf_pc 52 = 1534 by decide) ▸ zy_ask hB hj hk
  | 53, _ => exact (show zf_pc 53 = 1567 by decide) ▸ zy_marks hB hj hk
  | 54, _ => exact (show zf_pc 54 = 1590 by decide) ▸ zy_mark hB hj hk
  | 55, _ => exact (show zf_pc 55 = 1623 by decide) ▸ zy_under hB hj hk
  | 56, _ => exact (show zf_pc 56 = 1656 by decide) ▸ zy_rests hB hj hk
  | 57, _ => exact (show zf_pc 57 = 1689 by decide) ▸ zy_rest hB hj hk
  | 58, _ => exact (show zf_pc 58 = 1722 by decide) ▸ zy_swaps hB hj hk
  | 59, _ => exact (show zf_pc 59 = 1735 by decide) ▸ zy_swap hB hj hk
  | 60, _ => exact (show zf_pc 60 = 1748 by decide) ▸ zy_chance hB hj hk
  | 61, _ => exact (show zf_pc 61 = 1791 by decide) ▸ zy_luckily hB hj hk
  | 62, _ => exact (show zf_pc 62 = 1834 by decide) ▸ zy_mean hB hj hk
  | 63, _ => exact (show zf_pc 63 = 1867 by decide) ▸ zy_move hB hj hk
  | 64, _ => exact (show zf_pc 64 = 1910 by decide) ▸ zy_undo hB hj hk
  | 65, _ => exact (show zf_pc 65 = 1923 by decide) ▸ zy_anew hB hj hk
  | 66, _ => exact (show zf_pc 66 = 1936 by decide) ▸ zy_drawn hB hj hk
  | 67, _ => exact (show zf_pc 67 = 1969 by decide) ▸ zy_luck hB hj hk
  | 68, _ => exact (show zf_pc 68 = 2012 by decide) ▸ zy_rate hB hj hk
  | 69, _ => exact (show zf_pc 69 = 2035 by decide) ▸ zy_count hB hj hk
  | 70, _ => exact (show zf_pc 70 = zp_img by decide) ▸ zy_image hB hj hk
  | 71, _ => exact (show zf_pc 71 = zp_back by decide) ▸ zy_backL hB hj hk
  | 72, _ => exact (show zf_pc 72 = 2104 by decide) ▸ zy_row hB hj hk
  | 73, _ => exact (show zf_pc 73 = 2147 by decide) ▸ zy_write hB hj hk
  | 74, _ => exact (show zf_pc 74 = 2220 by decide) ▸ zy_paste hB hj hk
  | n + 75, h => omega
theorem zf_27 (hB : zf_B p s m meth c b L xs D cA g) {j : Nat} (hj : 6 * j + 6 ≤ L ∧ L ≤ 3072) (hk : zf_K p l e s m below meth c b D cA g zp_tail (zl_lb (zl_i j))) : zf_K p l e s m below meth c b D cA g 27 (zl_lb (zl_i j)) := by
  intro ks h M c0 s0 hks hg hD hc hs hI hR
  have hw := (zK_w hks).2.2.2.1
  generalize hx : (xs (6 * j) &&& 127) = x
  by_cases hr : x.toInt < 0 ∨ 74 < x.toInt
  · refine zf_step (S' := (zp_tail, zl_lb (zl_i j), [], M)) hB hg (zx_sw l L xs) rfl rfl hD hw (by omega) (by omega) (fun k => (zl_e27 hj xs (zL_w ks) M k).trans ?_) (hk ks h M c0 s0 hks hg hD hc hs hI hR)
    rw [hx]
    unfold zm_sw
    simp only []
    rw [if_pos hr]
    rfl
  · have hn : ∃ n : Nat, n < 75 ∧ x.toInt = (n : Int) := ⟨x.toInt.toNat, by omega, by omega⟩
    obtain ⟨n, hn, hxn⟩ := hn
    refine zf_step (S' := (zf_pc n, zl_lb (zl_i j), [], M)) hB hg (zx_sw l L xs) rfl rfl hD hw (by omega) (by omega) (fun k => (zl_e27 hj xs (zL_w ks) M k).trans ?_) (zf_case hB hj hk n hn ks h M c0 s0 hks hg hD hc hs hI hR)
    rw [hx]
    have hsz : zf_os.size = 75 := by decide +kernel
    have ho : zf_os[n]? = some zf_os[n] := Array.getElem?_eq_getElem (by omega)
    unfold zm_sw
    simp only []
    rw [if_neg hr, show (x.toInt - 0).toNat = n by omega, ho]
    unfold zf_pc
    rw [ho]
    rfl
theorem zf_out (hB : zf_B p s m meth c b L xs D cA g) (hL : L ≤ 3072) {j : Nat} (hj : 6 * j ≤ L) (hn : L < 6 * j + 6) : zf_K p l e s m below meth c b D cA g 18 (zl_lb (zl_i j)) := by
  intro ks h M c0 s0 hks hg hD hc hs hI hR
  have hw := (zK_w hks).2.2.2.1
  refine zf_step hB hg (zx_sw l L xs) rfl rfl hD hw (by omega) (by omega) (S' := (zp_end, zl_lb (zl_i j), [], M)) (fun k => (zl_e18 L xs (zl_i j) (zL_w ks) M k).trans (if_pos ((zl_lim hj hL).mpr hn))) ?_
  refine zf_step hB hg (zx_sw l L xs) rfl rfl hD hw (by omega) (by omega) (S' := (zp_end + 1, zl_lb (zl_i j), [.int 1], M)) (fun k => zl_ee L xs _ _ M k) ?_
  exact zf_end hB hg (by omega) (by omega)
theorem zf_loop (hB : zf_B p s m meth c b L xs D cA g) (hL : L ≤ 3072) : ∀ (n j : Nat), L < 6 * j + 6 * n + 6 → 6 * j ≤ L → zf_K p l e s m below meth c b D cA g 18 (zl_lb (zl_i j))
  | 0, j, hn, hj => zf_out hB hL hj (by omega)
  | n + 1, j, hn, hj => by
    by_cases hn6 : L < 6 * j + 6
    · exact zf_out hB hL hj hn6
    · have hj6 : 6 * j + 6 ≤ L ∧ L ≤ 3072 := ⟨by omega, hL⟩
      intro ks h M c0 s0 hks hg hD hc hs hI hR
      have hw := (zK_w hks).2.2.2.1
      refine zf_step hB hg (zx_sw l L xs) rfl rfl hD hw (by omega) (by omega) (S' := (27, zl_lb (zl_i j), [], M)) (fun k => (zl_e18 L xs (zl_i j) (zL_w ks) M k).trans (if_neg (fun z => hn6 ((zl_lim hj hL).mp z)))) ?_
      refine zf_27 hB hj6 ?_ ks h M c0 s0 hks hg hD hc hs hI hR
      intro ks2 h2 M2 c2 s2 hks2 hg2 hD2 hc2 hs2 hI2 hR2
      refine zf_step hB hg2 (zx_sw l L xs) rfl rfl hD2 (zK_w hks2).2.2.2.1 (by omega) (by omega) (S' := (18, zl_lb (zl_i (j + 1)), [], M2)) (fun k => (zl_et L xs (zl_i j) (zL_w ks2) M2 k).trans (by rw [zl_next hj6])) ?_
      exact zf_loop hB hL n (j + 1) (by omega) (by omega) ks2 h2 M2 c2 s2 hks2 hg2 hD2 hc2 hs2 hI2 hR2
end ZFW
end
section
/-- from the entry, for every script of at most 3072 ints, the law comes to its end with true -/
theorem whole_start {p : Program} {e : Env} {s : State} {m : MethodId} {below : List Frame} {meth : Method} {c : Code} (l : Launch) (hflags : l.flags = flags0) {b L : Nat} {xs : Nat → Int32} (hL : L ≤ 3072) (C0 : lw_At p s m meth c b L xs) : W p l e room_1 s m #[Value.ref b] below meth c s.heap [] 0 0 (zf_Z below #[Value.ref b] s) (entryFrame m ([Value.ref b] : List Value).toArray 4) := by
  obtain ⟨hx, hb, hr, hml, hown, hts, hX, hbl, hlk, hgv⟩ := C0
  obtain ⟨D, cA, hK⟩ := zs_known hts
  obtain ⟨g0, hZ0⟩ := zs_str hts hgv
  have hAO := zs_AO hts
  have hZ : zm_Z (fun k => if k = 100 then b else g0 k) (fun q => s.heap.size ≤ q) s s.heap := by
    obtain ⟨⟨adV, ⟨h1, h2⟩, hz, hzq⟩, h3⟩ := hZ0
    have hg : ∀ i, i < 13 → (if i = 100 then b else g0 i) = g0 i := fun i hi => if_neg (by omega)
    refine ⟨⟨adV, ⟨fun i hi => ?_, fun i j hi hj he => h2 i j hi hj ?_⟩, hz, hzq⟩, fun i q hq => ?_⟩
    · simp only [hg i hi]
      exact h1 i hi
    · simp only [hg i hi, hg j hj] at he
      exact he
    · have hi : i < 13 := (List.getElem?_eq_some_iff.mp hq).1
      simp only [hg i hi]
      exact h3 i q hq
  have hB : zf_B p s m meth c b L xs D cA (fun k => if k = 100 then b else g0 k) := by
    refine ⟨fun T h1 h2 h c0 s0 hg hc hs => ⟨hx, hb, hml, hown, fun w hw => hts w (zs_in hw), hK, by rw [h1]; exact hr, hlk, ?_, ⟨hc, hs⟩, fun x hx9 => ?_⟩, hAO⟩
    · rw [show h 1 = (fun k => if k = 100 then b else g0 k) from funext hg]
      exact hZ
    · have hb100 : h 1 100 = b := by rw [hg]; rfl
      rcases h2 with h2 | h2
      · rw [h2] at hx9
        cases hx9
      · rw [h2] at hx9
        cases hx9
        rw [hb100]
        exact ⟨hX, hbl, Nat.not_le.mpr hbl⟩
  have hnp : ∀ (pc idx a b : Nat), zm_look zU_L0.1 pc ≠ some (.putfield idx, a, b) := fun pc idx a b hq => by
    have := List.all_eq_true.mp (show zA_L0.all (fun q => match q.2.1 with
      | .putfield _ => false
      | _ => true) = true by decide +kernel) _ (zm_look_mem hq)
    cases this
  generalize hh0 : (fun (a k : Nat) => if a = 1 then (if k = 100 then b else g0 k) else 0) = h0
  have hg0 : ∀ n, h0 1 n = (fun k => if k = 100 then b else g0 k) n := fun n => by rw [← hh0]; rfl
  have hzn : zn_B p s m #[Value.ref b] meth c R_law code 4 ([], [], [], ret, none) D cA (fun k => if k = 100 then b else g0 k) (fun q => s.heap.size ≤ q) room_1 := ⟨hB.1 _ rfl (Or.inl rfl), fun q hq => hq, hAO⟩
  have hgo := zn_go_ok (l := l) (e := e) (below := below) (Q := zf_Z below #[Value.ref b] s) hzn (Or.inr hnp) ⟨rfl, rfl⟩ (zx_L0 l) 12 h0 zL_S0 zL_S1 hg0 (Nat.zero_le _) (Nat.zero_le _) zL_go
  rw [lg_entry_eq]
  have hl := lv_entry ([Value.ref b] : List Value) (n := 4) (by simp [lg_sl, Value.category])
  have hP0 : va_P D zm_cl (zm_ws cA h0 [] (fun _ _ => 0, fun _ _ => 0)) s.heap := fun k q hq => by simp [zm_ws] at hq
  have hD0 : va_D (fun q => s.heap.size ≤ q) (zm_ws cA h0 [] (fun _ _ => 0, fun _ _ => 0)) := ⟨fun i j x y hi => by simp [zm_ws] at hi, fun k q hq => by simp [zm_ws] at hq⟩
  refine hgo.2 (fun h1 hx1 => ?_) hD0 (fun a _ => ⟨fun _ => rfl, fun _ => rfl⟩) (fun n C len rs hq => by simp [zL_S0] at hq) s.heap [] _ ⟨rfl, hl.1, hl.2.1, fun k v hk => ?_⟩ hP0 va_S.rf
  · have hg1 : ∀ n, h1 1 n = (fun k => if k = 100 then b else g0 k) n := fun n => (hx1.2 n).trans (hg0 n)
    rw [zL_S1_eq]
    intro hD1 hfr1 hw1 H locs la hl1 hP1 hS1
    have hP2 : va_P D zm_cl (zm_ws cA (zn_hp zL_p h1) (zL_w []) zL_M) H := by rw [zL_w_nil]; exact zn_perm_P zL_perm hP1
    have hD2 : va_D (fun q => s.heap.size ≤ q) (zm_ws cA (zn_hp zL_p h1) (zL_w []) zL_M) := by rw [zL_w_nil]; exact zn_perm_D zL_perm hD1
    have hg2 : ∀ n, zn_hp zL_p h1 1 n = (fun k => if k = 100 then b else g0 k) n := hg1
    have hl2 : zm_lok (zn_hp zL_p h1) 4 (zl_lb (zl_i 0)) la := by
      refine ⟨rfl, hl1.2.1, hl1.2.2.1, fun k v hk => ?_⟩
      match k, hk with
      | 0, hk => cases hk; exact hl1.2.2.2 0 _ rfl
      | 1, hk => cases hk; exact hl1.2.2.2 1 _ rfl
      | 2, hk => cases hk; exact hl1.2.2.2 2 _ rfl
      | 3, hk => cases hk; exact hl1.2.2.2 3 _ rfl
      | k + 4, hk => cases hk
    exact zf_loop hB hL 512 0 (by omega) (by omega) [] (zn_hp zL_p h1) zL_M 196 12746 (by decide) hg2 hD2 (Nat.le_of_ble_eq_true rfl) (Nat.le_of_ble_eq_true rfl) zl_start zr_start H locs la hl2 hP2 hS1
  · match k, hk with
    | 0, hk =>
      cases hk
      have hb100 : h0 1 100 = b := by rw [hg0]; rfl
      show _ = some (Slot.val (Value.ref (h0 1 100)))
      rw [hb100]
      rfl
    | 1, hk => cases hk
    | 2, hk => cases hk
    | 3, hk => cases hk
    | k + 4, hk => cases hk
end
