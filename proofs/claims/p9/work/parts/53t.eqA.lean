/-! 53t.eqA, 54.wr, 55.box, 57.imgtab, 58.image -/
section
/-! EQUATIONS OF STRETCHES, printed by program (wip/law/eqs/gen.py) -/
noncomputable def zv_X9_undo_X_0 (I : Nat → Nat → Int32) (J : Nat → Nat → Int64) : zm_R := zm_V zT_X9_undo zW_X (0, [some (.ref 0)], [], (I, J))
noncomputable def zv_X9_undo_X_4 (I : Nat → Nat → Int32) (J : Nat → Nat → Int64) (s0 : Int32) : zm_R := zm_V zT_X9_undo zW_X (4, [some (.ref 0)], [.int s0], (I, J))
noncomputable def zv_X9_undo_X_7 (I : Nat → Nat → Int32) (J : Nat → Nat → Int64) : zm_R := zm_V zT_X9_undo zW_X (7, [some (.ref 0)], [], (I, J))
noncomputable def zv_X9_undo_X_10 (I : Nat → Nat → Int32) (J : Nat → Nat → Int64) : zm_R := zm_V zT_X9_undo zW_X (10, [some (.ref 0)], [], (I, J))
noncomputable def zv_X9_undo_X_20 (I : Nat → Nat → Int32) (J : Nat → Nat → Int64) : zm_R := zm_V zT_X9_undo zW_X (20, [some (.ref 0)], [], (I, J))
noncomputable def zv_X9_undo_X_23 (I : Nat → Nat → Int32) (J : Nat → Nat → Int64) : zm_R := zm_V zT_X9_undo zW_X (23, [some (.ref 0)], [], (I, J))
noncomputable def zv_X9_undo_X_40 (I : Nat → Nat → Int32) (J : Nat → Nat → Int64) : zm_R := zm_V zT_X9_undo zW_X (40, [some (.ref 0)], [], (I, J))
set_option maxRecDepth 20000 in
theorem zc_X9_undo_X_0 (I : Nat → Nat → Int32) (J : Nat → Nat → Int64) {I2 : Nat → Nat → Int32} {J2 : Nat → Nat → Int64} {r : Int32} (hF : zF_X9_hasBench zW_X [.ref 0] (I, J) = some (some (.int r), (I2, J2))) : zv_X9_undo_X_0 I J = zv_X9_undo_X_4 I2 J2 r := by
  have e : ∀ k : zm_S → zm_R, zm_step zT_X9_undo zW_X k (0, [some (.ref 0)], [], (I, J)) = zm_app (1, some 9, true, [], zF_X9_hasBench) zW_X [.ref 0] (I, J) (fun v N => k (4, [some (.ref 0)], v.toList ++ [], N)) := fun k => rfl
  have g := zm_app_s (C := (1, some 9, true, [], zF_X9_hasBench)) (wl := zW_X) (as := [.ref 0]) (M := (I, J)) (k := fun v N => zm_V zT_X9_undo zW_X (4, [some (.ref 0)], v.toList ++ [], N)) rfl rfl hF
  exact (zm_V_eq _ _ _).trans ((e _).trans g)
set_option maxRecDepth 20000 in
theorem zq_X9_undo_X_4 (I : Nat → Nat → Int32) (J : Nat → Nat → Int64) (s0 : Int32) : zv_X9_undo_X_4 I J s0 = if s0 = 0 then zv_X9_undo_X_7 I J else zv_X9_undo_X_10 I J := (zm_V_eq _ _ _).trans ((fun (k : zm_S → zm_R) => (rfl : zm_step zT_X9_undo zW_X k (4, [some (.ref 0)], [.int s0], (I, J)) = if s0 = 0 then k (7, [some (.ref 0)], [], (I, J)) else k (10, [some (.ref 0)], [], (I, J)))) (zm_V zT_X9_undo zW_X))
set_option maxRecDepth 20000 in
theorem zq_X9_undo_X_7 (I : Nat → Nat → Int32) (J : Nat → Nat → Int64) : zv_X9_undo_X_7 I J = some (some (.int (-2)), (I, J)) := (zm_V_eq _ _ _).trans ((fun (k : zm_S → zm_R) => (rfl : zm_step zT_X9_undo zW_X k (7, [some (.ref 0)], [], (I, J)) = some (some (.int (-2)), (I, J)))) (zm_V zT_X9_undo zW_X))
set_option maxRecDepth 20000 in
theorem zq_X9_undo_X_10 (I : Nat → Nat → Int32) (J : Nat → Nat → Int64) : zv_X9_undo_X_10 I J = if 0 < (I 1 7) then zv_X9_undo_X_23 I J else zv_X9_undo_X_20 I J := (zm_V_eq _ _ _).trans ((fun (k : zm_S → zm_R) => (rfl : zm_step zT_X9_undo zW_X k (10, [some (.ref 0)], [], (I, J)) = if 0 < (I 1 7) then k (23, [some (.ref 0)], [], (I, J)) else k (20, [some (.ref 0)], [], (I, J)))) (zm_V zT_X9_undo zW_X))
set_option maxRecDepth 20000 in
theorem zq_X9_undo_X_20 (I : Nat → Nat → Int32) (J : Nat → Nat → Int64) : zv_X9_undo_X_20 I J = some (some (.int (-5)), (I, J)) := (zm_V_eq _ _ _).trans ((fun (k : zm_S → zm_R) => (rfl : zm_step zT_X9_undo zW_X k (20, [some (.ref 0)], [], (I, J)) = some (some (.int (-5)), (I, J)))) (zm_V zT_X9_undo zW_X))
set_option maxRecDepth 20000 in
theorem zc_X9_undo_X_23 (I : Nat → Nat → Int32) (J : Nat → Nat → Int64) {I2 : Nat → Nat → Int32} {J2 : Nat → Nat → Int64} (hF : zF_X9_forgetAnswers zW_X [.ref 0] ((zm_w I 1 7 ((I 1 7) - 1)), J) = some (none, (I2, J2))) : zv_X9_undo_X_23 I J = zv_X9_undo_X_40 I2 J2  := by
  have e : ∀ k : zm_S → zm_R, zm_step zT_X9_undo zW_X k (23, [some (.ref 0)], [], (I, J)) = zm_app (1, some 9, true, [], zF_X9_forgetAnswers) zW_X [.ref 0] ((zm_w I 1 7 ((I 1 7) - 1)), J) (fun v N => k (40, [some (.ref 0)], v.toList ++ [], N)) := fun k => rfl
  have g := zm_app_s (C := (1, some 9, true, [], zF_X9_forgetAnswers)) (wl := zW_X) (as := [.ref 0]) (M := ((zm_w I 1 7 ((I 1 7) - 1)), J)) (k := fun v N => zm_V zT_X9_undo zW_X (40, [some (.ref 0)], v.toList ++ [], N)) rfl rfl hF
  exact (zm_V_eq _ _ _).trans ((e _).trans g)
set_option maxRecDepth 20000 in
theorem zq_X9_undo_X_40 (I : Nat → Nat → Int32) (J : Nat → Nat → Int64) : zv_X9_undo_X_40 I J = some (some (.int (I 1 7)), (I, J)) := (zm_V_eq _ _ _).trans ((fun (k : zm_S → zm_R) => (rfl : zm_step zT_X9_undo zW_X k (40, [some (.ref 0)], [], (I, J)) = some (some (.int (I 1 7)), (I, J)))) (zm_V zT_X9_undo zW_X))
theorem zf_X9_undo_X (I : Nat → Nat → Int32) (J : Nat → Nat → Int64) : zF_X9_undo zW_X [.ref 0] (I, J) = zv_X9_undo_X_0 I J := rfl
noncomputable def zv_X9_anew_X_0 (I : Nat → Nat → Int32) (J : Nat → Nat → Int64) : zm_R := zm_V zT_X9_anew zW_X (0, [some (.ref 0), none], [], (I, J))
noncomputable def zv_X9_anew_X_4 (I : Nat → Nat → Int32) (J : Nat → Nat → Int64) (s0 : Int32) : zm_R := zm_V zT_X9_anew zW_X (4, [some (.ref 0), none], [.int s0], (I, J))
noncomputable def zv_X9_anew_X_7 (I : Nat → Nat → Int32) (J : Nat → Nat → Int64) : zm_R := zm_V zT_X9_anew zW_X (7, [some (.ref 0), none], [], (I, J))
noncomputable def zv_X9_anew_X_10 (I : Nat → Nat → Int32) (J : Nat → Nat → Int64) : zm_R := zm_V zT_X9_anew zW_X (10, [some (.ref 0), none], [], (I, J))
noncomputable def zv_X9_anew_X_30 (I : Nat → Nat → Int32) (J : Nat → Nat → Int64) (l1 : Int32) : zm_R := zm_V zT_X9_anew zW_X (30, [some (.ref 0), some (.int l1)], [], (I, J))
set_option maxRecDepth 20000 in
theorem zc_X9_anew_X_0 (I : Nat → Nat → Int32) (J : Nat → Nat → Int64) {I2 : Nat → Nat → Int32} {J2 : Nat → Nat → Int64} {r : Int32} (hF : zF_X9_hasBench zW_X [.ref 0] (I, J) = some (some (.int r), (I2, J2))) : zv_X9_anew_X_0 I J = zv_X9_anew_X_4 I2 J2 r := by
  have e : ∀ k : zm_S → zm_R, zm_step zT_X9_anew zW_X k (0, [some (.ref 0), none], [], (I, J)) = zm_app (1, some 9, true, [], zF_X9_hasBench) zW_X [.ref 0] (I, J) (fun v N => k (4, [some (.ref 0), none], v.toList ++ [], N)) := fun k => rfl
  have g := zm_app_s (C := (1, some 9, true, [], zF_X9_hasBench)) (wl := zW_X) (as := [.ref 0]) (M := (I, J)) (k := fun v N => zm_V zT_X9_anew zW_X (4, [some (.ref 0), none], v.toList ++ [], N)) rfl rfl hF
  exact (zm_V_eq _ _ _).trans ((e _).trans g)
set_option maxRecDepth 20000 in
theorem zq_X9_anew_X_4 (I : Nat → Nat → Int32) (J : Nat → Nat → Int64) (s0 : Int32) : zv_X9_anew_X_4 I J s0 = if s0 = 0 then zv_X9_anew_X_7 I J else zv_X9_anew_X_10 I J := (zm_V_eq _ _ _).trans ((fun (k : zm_S → zm_R) => (rfl : zm_step zT_X9_anew zW_X k (4, [some (.ref 0), none], [.int s0], (I, J)) = if s0 = 0 then k (7, [some (.ref 0), none], [], (I, J)) else k (10, [some (.ref 0), none], [], (I, J)))) (zm_V zT_X9_anew zW_X))
set_option maxRecDepth 20000 in
theorem zq_X9_anew_X_7 (I : Nat → Nat → Int32) (J : Nat → Nat → Int64) : zv_X9_anew_X_7 I J = some (some (.int (-2)), (I, J)) := (zm_V_eq _ _ _).trans ((fun (k : zm_S → zm_R) => (rfl : zm_step zT_X9_anew zW_X k (7, [some (.ref 0), none], [], (I, J)) = some (some (.int (-2)), (I, J)))) (zm_V zT_X9_anew zW_X))
set_option maxRecDepth 20000 in
theorem zc_X9_anew_X_10 (I : Nat → Nat → Int32) (J : Nat → Nat → Int64) {I2 : Nat → Nat → Int32} {J2 : Nat → Nat → Int64} (hF : zF_X9_forgetAnswers zW_X [.ref 0] ((zm_w I 1 7 0), J) = some (none, (I2, J2))) : zv_X9_anew_X_10 I J = zv_X9_anew_X_30 I2 J2 ((I 1 7)) := by
  have e : ∀ k : zm_S → zm_R, zm_step zT_X9_anew zW_X k (10, [some (.ref 0), none], [], (I, J)) = zm_app (1, some 9, true, [], zF_X9_forgetAnswers) zW_X [.ref 0] ((zm_w I 1 7 0), J) (fun v N => k (30, [some (.ref 0), some (.int (I 1 7))], v.toList ++ [], N)) := fun k => rfl
  have g := zm_app_s (C := (1, some 9, true, [], zF_X9_forgetAnswers)) (wl := zW_X) (as := [.ref 0]) (M := ((zm_w I 1 7 0), J)) (k := fun v N => zm_V zT_X9_anew zW_X (30, [some (.ref 0), some (.int (I 1 7))], v.toList ++ [], N)) rfl rfl hF
  exact (zm_V_eq _ _ _).trans ((e _).trans g)
set_option maxRecDepth 20000 in
theorem zq_X9_anew_X_30 (I : Nat → Nat → Int32) (J : Nat → Nat → Int64) (l1 : Int32) : zv_X9_anew_X_30 I J l1 = some (some (.int l1), (I, J)) := (zm_V_eq _ _ _).trans ((fun (k : zm_S → zm_R) => (rfl : zm_step zT_X9_anew zW_X k (30, [some (.ref 0), some (.int l1)], [], (I, J)) = some (some (.int l1), (I, J)))) (zm_V zT_X9_anew zW_X))
theorem zf_X9_anew_X (I : Nat → Nat → Int32) (J : Nat → Nat → Int64) : zF_X9_anew zW_X [.ref 0] (I, J) = zv_X9_anew_X_0 I J := rfl
noncomputable def zv_X9_rate_X_0 (I : Nat → Nat → Int32) (J : Nat → Nat → Int64) (l1 : Int32) : zm_R := zm_V zT_X9_rate zW_X (0, [some (.ref 0), some (.int l1), none], [], (I, J))
noncomputable def zv_X9_rate_X_4 (I : Nat → Nat → Int32) (J : Nat → Nat → Int64) (l1 : Int32) (s0 : Int32) : zm_R := zm_V zT_X9_rate zW_X (4, [some (.ref 0), some (.int l1), none], [.int s0], (I, J))
noncomputable def zv_X9_rate_X_7 (I : Nat → Nat → Int32) (J : Nat → Nat → Int64) (l1 : Int32) : zm_R := zm_V zT_X9_rate zW_X (7, [some (.ref 0), some (.int l1), none], [], (I, J))
noncomputable def zv_X9_rate_X_11 (I : Nat → Nat → Int32) (J : Nat → Nat → Int64) (l1 : Int32) : zm_R := zm_V zT_X9_rate zW_X (11, [some (.ref 0), some (.int l1), none], [], (I, J))
noncomputable def zv_X9_rate_X_17 (I : Nat → Nat → Int32) (J : Nat → Nat → Int64) (l1 : Int32) : zm_R := zm_V zT_X9_rate zW_X (17, [some (.ref 0), some (.int l1), none], [], (I, J))
noncomputable def zv_X9_rate_X_20 (I : Nat → Nat → Int32) (J : Nat → Nat → Int64) (l1 : Int32) : zm_R := zm_V zT_X9_rate zW_X (20, [some (.ref 0), some (.int l1), none], [], (I, J))
noncomputable def zv_X9_rate_X_30 (I : Nat → Nat → Int32) (J : Nat → Nat → Int64) (l1 : Int32) : zm_R := zm_V zT_X9_rate zW_X (30, [some (.ref 0), some (.int l1), none], [], (I, J))
noncomputable def zv_X9_rate_X_33 (I : Nat → Nat → Int32) (J : Nat → Nat → Int64) (l1 : Int32) : zm_R := zm_V zT_X9_rate zW_X (33, [some (.ref 0), some (.int l1), none], [], (I, J))
noncomputable def zv_X9_rate_X_53 (I : Nat → Nat → Int32) (J : Nat → Nat → Int64) (l1 : Int32) (l2 : Int32) : zm_R := zm_V zT_X9_rate zW_X (53, [some (.ref 0), some (.int l1), some (.int l2)], [], (I, J))
set_option maxRecDepth 20000 in
theorem zc_X9_rate_X_0 (I : Nat → Nat → Int32) (J : Nat → Nat → Int64) (l1 : Int32) {I2 : Nat → Nat → Int32} {J2 : Nat → Nat → Int64} {r : Int32} (hF : zF_X9_hasBench zW_X [.ref 0] (I, J) = some (some (.int r), (I2, J2))) : zv_X9_rate_X_0 I J l1 = zv_X9_rate_X_4 I2 J2 l1 r := by
  have e : ∀ k : zm_S → zm_R, zm_step zT_X9_rate zW_X k (0, [some (.ref 0), some (.int l1), none], [], (I, J)) = zm_app (1, some 9, true, [], zF_X9_hasBench) zW_X [.ref 0] (I, J) (fun v N => k (4, [some (.ref 0), some (.int l1), none], v.toList ++ [], N)) := fun k => rfl
  have g := zm_app_s (C := (1, some 9, true, [], zF_X9_hasBench)) (wl := zW_X) (as := [.ref 0]) (M := (I, J)) (k := fun v N => zm_V zT_X9_rate zW_X (4, [some (.ref 0), some (.int l1), none], v.toList ++ [], N)) rfl rfl hF
  exact (zm_V_eq _ _ _).trans ((e _).trans g)
set_option maxRecDepth 20000 in
theorem zq_X9_rate_X_4 (I : Nat → Nat → Int32) (J : Nat → Nat → Int64) (l1 : Int32) (s0 : Int32) : zv_X9_rate_X_4 I J l1 s0 = if s0 = 0 then zv_X9_rate_X_17 I J l1 else zv_X9_rate_X_7 I J l1 := (zm_V_eq _ _ _).trans ((fun (k : zm_S → zm_R) => (rfl : zm_step zT_X9_rate zW_X k (4, [some (.ref 0), some (.int l1), none], [.int s0], (I, J)) = if s0 = 0 then k (17, [some (.ref 0), some (.int l1), none], [], (I, J)) else k (7, [some (.ref 0), some (.int l1), none], [], (I, J)))) (zm_V zT_X9_rate zW_X))
set_option maxRecDepth 20000 in
theorem zq_X9_rate_X_7 (I : Nat → Nat → Int32) (J : Nat → Nat → Int64) (l1 : Int32) : zv_X9_rate_X_7 I J l1 = if l1 < 0 then zv_X9_rate_X_17 I J l1 else zv_X9_rate_X_11 I J l1 := (zm_V_eq _ _ _).trans ((fun (k : zm_S → zm_R) => (rfl : zm_step zT_X9_rate zW_X k (7, [some (.ref 0), some (.int l1), none], [], (I, J)) = if l1 < 0 then k (17, [some (.ref 0), some (.int l1), none], [], (I, J)) else k (11, [some (.ref 0), some (.int l1), none], [], (I, J)))) (zm_V zT_X9_rate zW_X))
set_option maxRecDepth 20000 in
theorem zq_X9_rate_X_11 (I : Nat → Nat → Int32) (J : Nat → Nat → Int64) (l1 : Int32) : zv_X9_rate_X_11 I J l1 = if l1 ≤ 99 then zv_X9_rate_X_20 I J l1 else zv_X9_rate_X_17 I J l1 := (zm_V_eq _ _ _).trans ((fun (k : zm_S → zm_R) => (rfl : zm_step zT_X9_rate zW_X k (11, [some (.ref 0), some (.int l1), none], [], (I, J)) = if l1 ≤ 99 then k (20, [some (.ref 0), some (.int l1), none], [], (I, J)) else k (17, [some (.ref 0), some (.int l1), none], [], (I, J)))) (zm_V zT_X9_rate zW_X))
set_option maxRecDepth 20000 in
theorem zq_X9_rate_X_17 (I : Nat → Nat → Int32) (J : Nat → Nat → Int64) (l1 : Int32) : zv_X9_rate_X_17 I J l1 = some (some (.int (-2)), (I, J)) := (zm_V_eq _ _ _).trans ((fun (k : zm_S → zm_R) => (rfl : zm_step zT_X9_rate zW_X k (17, [some (.ref 0), some (.int l1), none], [], (I, J)) = some (some (.int (-2)), (I, J)))) (zm_V zT_X9_rate zW_X))
set_option maxRecDepth 20000 in
theorem zq_X9_rate_X_20 (I : Nat → Nat → Int32) (J : Nat → Nat → Int64) (l1 : Int32) : zv_X9_rate_X_20 I J l1 = if (I 1 7) ≤ 0 then zv_X9_rate_X_33 I J l1 else zv_X9_rate_X_30 I J l1 := (zm_V_eq _ _ _).trans ((fun (k : zm_S → zm_R) => (rfl : zm_step zT_X9_rate zW_X k (20, [some (.ref 0), some (.int l1), none], [], (I, J)) = if (I 1 7) ≤ 0 then k (33, [some (.ref 0), some (.int l1), none], [], (I, J)) else k (30, [some (.ref 0), some (.int l1), none], [], (I, J)))) (zm_V zT_X9_rate zW_X))
set_option maxRecDepth 20000 in
theorem zq_X9_rate_X_30 (I : Nat → Nat → Int32) (J : Nat → Nat → Int64) (l1 : Int32) : zv_X9_rate_X_30 I J l1 = some (some (.int (-5)), (I, J)) := (zm_V_eq _ _ _).trans ((fun (k : zm_S → zm_R) => (rfl : zm_step zT_X9_rate zW_X k (30, [some (.ref 0), some (.int l1), none], [], (I, J)) = some (some (.int (-5)), (I, J)))) (zm_V zT_X9_rate zW_X))
set_option maxRecDepth 20000 in
theorem zc_X9_rate_X_33 (I : Nat → Nat → Int32) (J : Nat → Nat → Int64) (l1 : Int32) {I2 : Nat → Nat → Int32} {J2 : Nat → Nat → Int64} (hF : zF_X9_forgetAnswers zW_X [.ref 0] ((zm_w I 1 2 l1), J) = some (none, (I2, J2))) : zv_X9_rate_X_33 I J l1 = zv_X9_rate_X_53 I2 J2 l1 ((I 1 2)) := by
  have e : ∀ k : zm_S → zm_R, zm_step zT_X9_rate zW_X k (33, [some (.ref 0), some (.int l1), none], [], (I, J)) = zm_app (1, some 9, true, [], zF_X9_forgetAnswers) zW_X [.ref 0] ((zm_w I 1 2 l1), J) (fun v N => k (53, [some (.ref 0), some (.int l1), some (.int (I 1 2))], v.toList ++ [], N)) := fun k => rfl
  have g := zm_app_s (C := (1, some 9, true, [], zF_X9_forgetAnswers)) (wl := zW_X) (as := [.ref 0]) (M := ((zm_w I 1 2 l1), J)) (k := fun v N => zm_V zT_X9_rate zW_X (53, [some (.ref 0), some (.int l1), some (.int (I 1 2))], v.toList ++ [], N)) rfl rfl hF
  exact (zm_V_eq _ _ _).trans ((e _).trans g)
set_option maxRecDepth 20000 in
theorem zq_X9_rate_X_53 (I : Nat → Nat → Int32) (J : Nat → Nat → Int64) (l1 : Int32) (l2 : Int32) : zv_X9_rate_X_53 I J l1 l2 = some (some (.int l2), (I, J)) := (zm_V_eq _ _ _).trans ((fun (k : zm_S → zm_R) => (rfl : zm_step zT_X9_rate zW_X k (53, [some (.ref 0), some (.int l1), some (.int l2)], [], (I, J)) = some (some (.int l2), (I, J)))) (zm_V zT_X9_rate zW_X))
theorem zf_X9_rate_X (I : Nat → Nat → Int32) (J : Nat → Nat → Int64) (l1 : Int32) : zF_X9_rate zW_X [.ref 0, .int l1] (I, J) = zv_X9_rate_X_0 I J l1 := rfl
noncomputable def zv_X9_count_X_0 (I : Nat → Nat → Int32) (J : Nat → Nat → Int64) (l1 : Int32) : zm_R := zm_V zT_X9_count zW_X (0, [some (.ref 0), some (.int l1)], [], (I, J))
noncomputable def zv_X9_count_X_56 (I : Nat → Nat → Int32) (J : Nat → Nat → Int64) (l1 : Int32) : zm_R := zm_V zT_X9_count zW_X (56, [some (.ref 0), some (.int l1)], [], (I, J))
noncomputable def zv_X9_count_X_64 (I : Nat → Nat → Int32) (J : Nat → Nat → Int64) (l1 : Int32) : zm_R := zm_V zT_X9_count zW_X (64, [some (.ref 0), some (.int l1)], [], (I, J))
noncomputable def zv_X9_count_X_72 (I : Nat → Nat → Int32) (J : Nat → Nat → Int64) (l1 : Int32) : zm_R := zm_V zT_X9_count zW_X (72, [some (.ref 0), some (.int l1)], [], (I, J))
noncomputable def zv_X9_count_X_80 (I : Nat → Nat → Int32) (J : Nat → Nat → Int64) (l1 : Int32) : zm_R := zm_V zT_X9_count zW_X (80, [some (.ref 0), some (.int l1)], [], (I, J))
noncomputable def zv_X9_count_X_88 (I : Nat → Nat → Int32) (J : Nat → Nat → Int64) (l1 : Int32) : zm_R := zm_V zT_X9_count zW_X (88, [some (.ref 0), some (.int l1)], [], (I, J))
noncomputable def zv_X9_count_X_96 (I : Nat → Nat → Int32) (J : Nat → Nat → Int64) (l1 : Int32) : zm_R := zm_V zT_X9_count zW_X (96, [some (.ref 0), some (.int l1)], [], (I, J))
noncomputable def zv_X9_count_X_104 (I : Nat → Nat → Int32) (J : Nat → Nat → Int64) (l1 : Int32) : zm_R := zm_V zT_X9_count zW_X (104, [some (.ref 0), some (.int l1)], [], (I, J))
noncomputable def zv_X9_count_X_112 (I : Nat → Nat → Int32) (J : Nat → Nat → Int64) (l1 : Int32) : zm_R := zm_V zT_X9_count zW_X (112, [some (.ref 0), some (.int l1)], [], (I, J))
noncomputable def zv_X9_count_X_120 (I : Nat → Nat → Int32) (J : Nat → Nat → Int64) (l1 : Int32) : zm_R := zm_V zT_X9_count zW_X (120, [some (.ref 0), some (.int l1)], [], (I, J))
noncomputable def zv_X9_count_X_128 (I : Nat → Nat → Int32) (J : Nat → Nat → Int64) (l1 : Int32) : zm_R := zm_V zT_X9_count zW_X (128, [some (.ref 0), some (.int l1)], [], (I, J))
noncomputable def zv_X9_count_X_132 (I : Nat → Nat → Int32) (J : Nat → Nat → Int64) (l1 : Int32) (s0 : Int32) : zm_R := zm_V zT_X9_count zW_X (132, [some (.ref 0), some (.int l1)], [.int s0], (I, J))
noncomputable def zv_X9_count_X_133 (I : Nat → Nat → Int32) (J : Nat → Nat → Int64) (l1 : Int32) : zm_R := zm_V zT_X9_count zW_X (133, [some (.ref 0), some (.int l1)], [], (I, J))
set_option maxRecDepth 20000 in
theorem zq_X9_count_X_0 (I : Nat → Nat → Int32) (J : Nat → Nat → Int64) (l1 : Int32) : zv_X9_count_X_0 I J l1 = zm_sw (zm_V zT_X9_count zW_X) 1 132 0 9 #[55, 63, 71, 79, 87, 95, 103, 111, 119, 127] [some (.ref 0), some (.int l1)] [.int l1] (I, J) := (zm_V_eq _ _ _).trans ((fun (k : zm_S → zm_R) => (rfl : zm_step zT_X9_count zW_X k (0, [some (.ref 0), some (.int l1)], [], (I, J)) = zm_sw k 1 132 0 9 #[55, 63, 71, 79, 87, 95, 103, 111, 119, 127] [some (.ref 0), some (.int l1)] [.int l1] (I, J))) (zm_V zT_X9_count zW_X))
set_option maxRecDepth 20000 in
theorem zq_X9_count_X_56 (I : Nat → Nat → Int32) (J : Nat → Nat → Int64) (l1 : Int32) : zv_X9_count_X_56 I J l1 = some (some (.int (I 1 5)), (I, J)) := (zm_V_eq _ _ _).trans ((fun (k : zm_S → zm_R) => (rfl : zm_step zT_X9_count zW_X k (56, [some (.ref 0), some (.int l1)], [], (I, J)) = some (some (.int (I 1 5)), (I, J)))) (zm_V zT_X9_count zW_X))
set_option maxRecDepth 20000 in
theorem zq_X9_count_X_64 (I : Nat → Nat → Int32) (J : Nat → Nat → Int64) (l1 : Int32) : zv_X9_count_X_64 I J l1 = some (some (.int (I 1 1)), (I, J)) := (zm_V_eq _ _ _).trans ((fun (k : zm_S → zm_R) => (rfl : zm_step zT_X9_count zW_X k (64, [some (.ref 0), some (.int l1)], [], (I, J)) = some (some (.int (I 1 1)), (I, J)))) (zm_V zT_X9_count zW_X))
set_option maxRecDepth 20000 in
theorem zq_X9_count_X_72 (I : Nat → Nat → Int32) (J : Nat → Nat → Int64) (l1 : Int32) : zv_X9_count_X_72 I J l1 = some (some (.int (I 1 2)), (I, J)) := (zm_V_eq _ _ _).trans ((fun (k : zm_S → zm_R) => (rfl : zm_step zT_X9_count zW_X k (72, [some (.ref 0), some (.int l1)], [], (I, J)) = some (some (.int (I 1 2)), (I, J)))) (zm_V zT_X9_count zW_X))
set_option maxRecDepth 20000 in
theorem zq_X9_count_X_80 (I : Nat → Nat → Int32) (J : Nat → Nat → Int64) (l1 : Int32) : zv_X9_count_X_80 I J l1 = some (some (.int (I 1 3)), (I, J)) := (zm_V_eq _ _ _).trans ((fun (k : zm_S → zm_R) => (rfl : zm_step zT_X9_count zW_X k (80, [some (.ref 0), some (.int l1)], [], (I, J)) = some (some (.int (I 1 3)), (I, J)))) (zm_V zT_X9_count zW_X))
set_option maxRecDepth 20000 in
theorem zq_X9_count_X_88 (I : Nat → Nat → Int32) (J : Nat → Nat → Int64) (l1 : Int32) : zv_X9_count_X_88 I J l1 = some (some (.int (I 1 4)), (I, J)) := (zm_V_eq _ _ _).trans ((fun (k : zm_S → zm_R) => (rfl : zm_step zT_X9_count zW_X k (88, [some (.ref 0), some (.int l1)], [], (I, J)) = some (some (.int (I 1 4)), (I, J)))) (zm_V zT_X9_count zW_X))
set_option maxRecDepth 20000 in
theorem zq_X9_count_X_96 (I : Nat → Nat → Int32) (J : Nat → Nat → Int64) (l1 : Int32) : zv_X9_count_X_96 I J l1 = some (some (.int (I 1 6)), (I, J)) := (zm_V_eq _ _ _).trans ((fun (k : zm_S → zm_R) => (rfl : zm_step zT_X9_count zW_X k (96, [some (.ref 0), some (.int l1)], [], (I, J)) = some (some (.int (I 1 6)), (I, J)))) (zm_V zT_X9_count zW_X))
set_option maxRecDepth 20000 in
theorem zq_X9_count_X_104 (I : Nat → Nat → Int32) (J : Nat → Nat → Int64) (l1 : Int32) : zv_X9_count_X_104 I J l1 = some (some (.int (I 1 7)), (I, J)) := (zm_V_eq _ _ _).trans ((fun (k : zm_S → zm_R) => (rfl : zm_step zT_X9_count zW_X k (104, [some (.ref 0), some (.int l1)], [], (I, J)) = some (some (.int (I 1 7)), (I, J)))) (zm_V zT_X9_count zW_X))
set_option maxRecDepth 20000 in
theorem zq_X9_count_X_112 (I : Nat → Nat → Int32) (J : Nat → Nat → Int64) (l1 : Int32) : zv_X9_count_X_112 I J l1 = some (some (.int (I 1 0)), (I, J)) := (zm_V_eq _ _ _).trans ((fun (k : zm_S → zm_R) => (rfl : zm_step zT_X9_count zW_X k (112, [some (.ref 0), some (.int l1)], [], (I, J)) = some (some (.int (I 1 0)), (I, J)))) (zm_V zT_X9_count zW_X))
set_option maxRecDepth 20000 in
theorem zq_X9_count_X_120 (I : Nat → Nat → Int32) (J : Nat → Nat → Int64) (l1 : Int32) : zv_X9_count_X_120 I J l1 = some (some (.int (I 51 1)), (I, J)) := (zm_V_eq _ _ _).trans ((fun (k : zm_S → zm_R) => (rfl : zm_step zT_X9_count zW_X k (120, [some (.ref 0), some (.int l1)], [], (I, J)) = some (some (.int (I 51 1)), (I, J)))) (zm_V zT_X9_count zW_X))
set_option maxRecDepth 20000 in
theorem zc_X9_count_X_128 (I : Nat → Nat → Int32) (J : Nat → Nat → Int64) (l1 : Int32) {I2 : Nat → Nat → Int32} {J2 : Nat → Nat → Int64} {r : Int32} (hF : zF_X9_countRows zW_X [.ref 0] (I, J) = some (some (.int r), (I2, J2))) : zv_X9_count_X_128 I J l1 = zv_X9_count_X_132 I2 J2 l1 r := by
  have e : ∀ k : zm_S → zm_R, zm_step zT_X9_count zW_X k (128, [some (.ref 0), some (.int l1)], [], (I, J)) = zm_app (1, some 9, true, [], zF_X9_countRows) zW_X [.ref 0] (I, J) (fun v N => k (132, [some (.ref 0), some (.int l1)], v.toList ++ [], N)) := fun k => rfl
  have g := zm_app_s (C := (1, some 9, true, [], zF_X9_countRows)) (wl := zW_X) (as := [.ref 0]) (M := (I, J)) (k := fun v N => zm_V zT_X9_count zW_X (132, [some (.ref 0), some (.int l1)], v.toList ++ [], N)) rfl rfl hF
  exact (zm_V_eq _ _ _).trans ((e _).trans g)
set_option maxRecDepth 20000 in
theorem zq_X9_count_X_132 (I : Nat → Nat → Int32) (J : Nat → Nat → Int64) (l1 : Int32) (s0 : Int32) : zv_X9_count_X_132 I J l1 s0 = some (some (.int s0), (I, J)) := (zm_V_eq _ _ _).trans ((fun (k : zm_S → zm_R) => (rfl : zm_step zT_X9_count zW_X k (132, [some (.ref 0), some (.int l1)], [.int s0], (I, J)) = some (some (.int s0), (I, J)))) (zm_V zT_X9_count zW_X))
set_option maxRecDepth 20000 in
theorem zq_X9_count_X_133 (I : Nat → Nat → Int32) (J : Nat → Nat → Int64) (l1 : Int32) : zv_X9_count_X_133 I J l1 = some (some (.int (-1)), (I, J)) := (zm_V_eq _ _ _).trans ((fun (k : zm_S → zm_R) => (rfl : zm_step zT_X9_count zW_X k (133, [some (.ref 0), some (.int l1)], [], (I, J)) = some (some (.int (-1)), (I, J)))) (zm_V zT_X9_count zW_X))
theorem zf_X9_count_X (I : Nat → Nat → Int32) (J : Nat → Nat → Int64) (l1 : Int32) : zF_X9_count zW_X [.ref 0, .int l1] (I, J) = zv_X9_count_X_0 I J l1 := rfl
noncomputable def zv_X9_move_X_0 (I : Nat → Nat → Int32) (J : Nat → Nat → Int64) (l1 : Int32) (l2 : Int32) (l3 : Int32) : zm_R := zm_V zT_X9_move zW_X (0, [some (.ref 0), some (.int l1), some (.int l2), some (.int l3), none], [], (I, J))
noncomputable def zv_X9_move_X_8 (I : Nat → Nat → Int32) (J : Nat → Nat → Int64) (l1 : Int32) (l2 : Int32) (l3 : Int32) (s0 : Int32) : zm_R := zm_V zT_X9_move zW_X (8, [some (.ref 0), some (.int l1), some (.int l2), some (.int l3), none], [.int s0], (I, J))
noncomputable def zv_X9_move_X_11 (I : Nat → Nat → Int32) (J : Nat → Nat → Int64) (l1 : Int32) (l2 : Int32) (l3 : Int32) : zm_R := zm_V zT_X9_move zW_X (11, [some (.ref 0), some (.int l1), some (.int l2), some (.int l3), none], [], (I, J))
noncomputable def zv_X9_move_X_19 (I : Nat → Nat → Int32) (J : Nat → Nat → Int64) (l1 : Int32) (l2 : Int32) (l3 : Int32) (s0 : Int32) : zm_R := zm_V zT_X9_move zW_X (19, [some (.ref 0), some (.int l1), some (.int l2), some (.int l3), none], [.int s0], (I, J))
noncomputable def zv_X9_move_X_22 (I : Nat → Nat → Int32) (J : Nat → Nat → Int64) (l1 : Int32) (l2 : Int32) (l3 : Int32) : zm_R := zm_V zT_X9_move zW_X (22, [some (.ref 0), some (.int l1), some (.int l2), some (.int l3), none], [], (I, J))
noncomputable def zv_X9_move_X_26 (I : Nat → Nat → Int32) (J : Nat → Nat → Int64) (l1 : Int32) (l2 : Int32) (l3 : Int32) (s0 : Int32) : zm_R := zm_V zT_X9_move zW_X (26, [some (.ref 0), some (.int l1), some (.int l2), some (.int l3), none], [.int s0], (I, J))
noncomputable def zv_X9_move_X_29 (I : Nat → Nat → Int32) (J : Nat → Nat → Int64) (l1 : Int32) (l2 : Int32) (l3 : Int32) : zm_R := zm_V zT_X9_move zW_X (29, [some (.ref 0), some (.int l1), some (.int l2), some (.int l3), none], [], (I, J))
noncomputable def zv_X9_move_X_32 (I : Nat → Nat → Int32) (J : Nat → Nat → Int64) (l1 : Int32) (l2 : Int32) (l3 : Int32) : zm_R := zm_V zT_X9_move zW_X (32, [some (.ref 0), some (.int l1), some (.int l2), some (.int l3), none], [], (I, J))
noncomputable def zv_X9_move_X_44 (I : Nat → Nat → Int32) (J : Nat → Nat → Int64) (l1 : Int32) (l2 : Int32) (l3 : Int32) : zm_R := zm_V zT_X9_move zW_X (44, [some (.ref 0), some (.int l1), some (.int l2), some (.int l3), none], [], (I, J))
noncomputable def zv_X9_move_X_47 (I : Nat → Nat → Int32) (J : Nat → Nat → Int64) (l1 : Int32) (l2 : Int32) (l3 : Int32) : zm_R := zm_V zT_X9_move zW_X (47, [some (.ref 0), some (.int l1), some (.int l2), some (.int l3), none], [], (I, J))
noncomputable def zv_X9_move_X_66 (I : Nat → Nat → Int32) (J : Nat → Nat → Int64) (l1 : Int32) (l2 : Int32) (l3 : Int32) (l4 : Int32) : zm_R := zm_V zT_X9_move zW_X (66, [some (.ref 0), some (.int l1), some (.int l2), some (.int l3), some (.int l4)], [], (I, J))
noncomputable def zv_X9_move_X_70 (I : Nat → Nat → Int32) (J : Nat → Nat → Int64) (l1 : Int32) (l2 : Int32) (l3 : Int32) (l4 : Int32) : zm_R := zm_V zT_X9_move zW_X (70, [some (.ref 0), some (.int l1), some (.int l2), some (.int l3), some (.int l4)], [], (I, J))
noncomputable def zv_X9_move_X_74 (I : Nat → Nat → Int32) (J : Nat → Nat → Int64) (l1 : Int32) (l2 : Int32) (l3 : Int32) (l4 : Int32) : zm_R := zm_V zT_X9_move zW_X (74, [some (.ref 0), some (.int l1), some (.int l2), some (.int l3), some (.int l4)], [.ref 21], (I, J))
set_option maxRecDepth 20000 in
theorem zc_X9_move_X_0 (I : Nat → Nat → Int32) (J : Nat → Nat → Int64) (l1 : Int32) (l2 : Int32) (l3 : Int32) {N : zm_I} {r : Int32} (hF : zF_X0_hasCaller zW_B [.ref 0, .int l1] (zm_sub2 [(1, 10)] (I, J)) = some (some (.int r), N)) : zv_X9_move_X_0 I J l1 l2 l3 = zv_X9_move_X_8 (zm_mrg [(1, 10)] (I, J) N).1 (zm_mrg [(1, 10)] (I, J) N).2 l1 l2 l3 r := by
  have e : ∀ k : zm_S → zm_R, zm_step zT_X9_move zW_X k (0, [some (.ref 0), some (.int l1), some (.int l2), some (.int l3), none], [], (I, J)) = zm_app (2, some 0, false, [(0, 10)], zF_X0_hasCaller) zW_X [.ref 1, .int l1] (I, J) (fun v N => k (8, [some (.ref 0), some (.int l1), some (.int l2), some (.int l3), none], v.toList ++ [], N)) := fun k => rfl
  have g := zm_app_l (C := (2, some 0, false, [(0, 10)], zF_X0_hasCaller)) (wl := zW_X) (as := [.ref 1, .int l1]) (wc := zW_B) (ac := [.ref 0, .int l1]) (bs := [(1, 10)]) (M := (I, J)) (k := fun v N => zm_V zT_X9_move zW_X (8, [some (.ref 0), some (.int l1), some (.int l2), some (.int l3), none], v.toList ++ [], N)) rfl rfl rfl rfl rfl rfl hF
  exact (zm_V_eq _ _ _).trans ((e _).trans g)
set_option maxRecDepth 20000 in
theorem zq_X9_move_X_8 (I : Nat → Nat → Int32) (J : Nat → Nat → Int64) (l1 : Int32) (l2 : Int32) (l3 : Int32) (s0 : Int32) : zv_X9_move_X_8 I J l1 l2 l3 s0 = if s0 = 0 then zv_X9_move_X_29 I J l1 l2 l3 else zv_X9_move_X_11 I J l1 l2 l3 := (zm_V_eq _ _ _).trans ((fun (k : zm_S → zm_R) => (rfl : zm_step zT_X9_move zW_X k (8, [some (.ref 0), some (.int l1), some (.int l2), some (.int l3), none], [.int s0], (I, J)) = if s0 = 0 then k (29, [some (.ref 0), some (.int l1), some (.int l2), some (.int l3), none], [], (I, J)) else k (11, [some (.ref 0), some (.int l1), some (.int l2), some (.int l3), none], [], (I, J)))) (zm_V zT_X9_move zW_X))
set_option maxRecDepth 20000 in
theorem zc_X9_move_X_11 (I : Nat → Nat → Int32) (J : Nat → Nat → Int64) (l1 : Int32) (l2 : Int32) (l3 : Int32) {N : zm_I} {r : Int32} (hF : zF_X0_hasSeat zW_B [.ref 0, .int l2] (zm_sub2 [(1, 10)] (I, J)) = some (some (.int r), N)) : zv_X9_move_X_11 I J l1 l2 l3 = zv_X9_move_X_19 (zm_mrg [(1, 10)] (I, J) N).1 (zm_mrg [(1, 10)] (I, J) N).2 l1 l2 l3 r := by
  have e : ∀ k : zm_S → zm_R, zm_step zT_X9_move zW_X k (11, [some (.ref 0), some (.int l1), some (.int l2), some (.int l3), none], [], (I, J)) = zm_app (2, some 0, false, [(0, 10)], zF_X0_hasSeat) zW_X [.ref 1, .int l2] (I, J) (fun v N => k (19, [some (.ref 0), some (.int l1), some (.int l2), some (.int l3), none], v.toList ++ [], N)) := fun k => rfl
  have g := zm_app_l (C := (2, some 0, false, [(0, 10)], zF_X0_hasSeat)) (wl := zW_X) (as := [.ref 1, .int l2]) (wc := zW_B) (ac := [.ref 0, .int l2]) (bs := [(1, 10)]) (M := (I, J)) (k := fun v N => zm_V zT_X9_move zW_X (19, [some (.ref 0), some (.int l1), some (.int l2), some (.int l3), none], v.toList ++ [], N)) rfl rfl rfl rfl rfl rfl hF
  exact (zm_V_eq _ _ _).trans ((e _).trans g)
set_option maxRecDepth 20000 in
theorem zq_X9_move_X_19 (I : Nat → Nat → Int32) (J : Nat → Nat → Int64) (l1 : Int32) (l2 : Int32) (l3 : Int32) (s0 : Int32) : zv_X9_move_X_19 I J l1 l2 l3 s0 = if s0 = 0 then zv_X9_move_X_29 I J l1 l2 l3 else zv_X9_move_X_22 I J l1 l2 l3 := (zm_V_eq _ _ _).trans ((fun (k : zm_S → zm_R) => (rfl : zm_step zT_X9_move zW_X k (19, [some (.ref 0), some (.int l1), some (.int l2), some (.int l3), none], [.int s0], (I, J)) = if s0 = 0 then k (29, [some (.ref 0), some (.int l1), some (.int l2), some (.int l3), none], [], (I, J)) else k (22, [some (.ref 0), some (.int l1), some (.int l2), some (.int l3), none], [], (I, J)))) (zm_V zT_X9_move zW_X))
set_option maxRecDepth 20000 in
theorem zc_X9_move_X_22 (I : Nat → Nat → Int32) (J : Nat → Nat → Int64) (l1 : Int32) (l2 : Int32) (l3 : Int32) {I2 : Nat → Nat → Int32} {J2 : Nat → Nat → Int64} {r : Int32} (hF : zF_X9_isMinute zW_X [.int l3] (I, J) = some (some (.int r), (I2, J2))) : zv_X9_move_X_22 I J l1 l2 l3 = zv_X9_move_X_26 I2 J2 l1 l2 l3 r := by
  have e : ∀ k : zm_S → zm_R, zm_step zT_X9_move zW_X k (22, [some (.ref 0), some (.int l1), some (.int l2), some (.int l3), none], [], (I, J)) = zm_app (1, none, true, [], zF_X9_isMinute) zW_X [.int l3] (I, J) (fun v N => k (26, [some (.ref 0), some (.int l1), some (.int l2), some (.int l3), none], v.toList ++ [], N)) := fun k => rfl
  have g := zm_app_s (C := (1, none, true, [], zF_X9_isMinute)) (wl := zW_X) (as := [.int l3]) (M := (I, J)) (k := fun v N => zm_V zT_X9_move zW_X (26, [some (.ref 0), some (.int l1), some (.int l2), some (.int l3), none], v.toList ++ [], N)) rfl rfl hF
  exact (zm_V_eq _ _ _).trans ((e _).trans g)
set_option maxRecDepth 20000 in
theorem zq_X9_move_X_26 (I : Nat → Nat → Int32) (J : Nat → Nat → Int64) (l1 : Int32) (l2 : Int32) (l3 : Int32) (s0 : Int32) : zv_X9_move_X_26 I J l1 l2 l3 s0 = if s0 = 0 then zv_X9_move_X_29 I J l1 l2 l3 else zv_X9_move_X_32 I J l1 l2 l3 := (zm_V_eq _ _ _).trans ((fun (k : zm_S → zm_R) => (rfl : zm_step zT_X9_move zW_X k (26, [some (.ref 0), some (.int l1), some (.int l2), some (.int l3), none], [.int s0], (I, J)) = if s0 = 0 then k (29, [some (.ref 0), some (.int l1), some (.int l2), some (.int l3), none], [], (I, J)) else k (32, [some (.ref 0), some (.int l1), some (.int l2), some (.int l3), none], [], (I, J)))) (zm_V zT_X9_move zW_X))
set_option maxRecDepth 20000 in
theorem zq_X9_move_X_29 (I : Nat → Nat → Int32) (J : Nat → Nat → Int64) (l1 : Int32) (l2 : Int32) (l3 : Int32) : zv_X9_move_X_29 I J l1 l2 l3 = some (some (.int (-2)), (I, J)) := (zm_V_eq _ _ _).trans ((fun (k : zm_S → zm_R) => (rfl : zm_step zT_X9_move zW_X k (29, [some (.ref 0), some (.int l1), some (.int l2), some (.int l3), none], [], (I, J)) = some (some (.int (-2)), (I, J)))) (zm_V zT_X9_move zW_X))
set_option maxRecDepth 20000 in
theorem zq_X9_move_X_32 (I : Nat → Nat → Int32) (J : Nat → Nat → Int64) (l1 : Int32) (l2 : Int32) (l3 : Int32) : zv_X9_move_X_32 I J l1 l2 l3 = if (I 1 7) < 40 then zv_X9_move_X_47 I J l1 l2 l3 else zv_X9_move_X_44 I J l1 l2 l3 := (zm_V_eq _ _ _).trans ((fun (k : zm_S → zm_R) => (rfl : zm_step zT_X9_move zW_X k (32, [some (.ref 0), some (.int l1), some (.int l2), some (.int l3), none], [], (I, J)) = if (I 1 7) < 40 then k (47, [some (.ref 0), some (.int l1), some (.int l2), some (.int l3), none], [], (I, J)) else k (44, [some (.ref 0), some (.int l1), some (.int l2), some (.int l3), none], [], (I, J)))) (zm_V zT_X9_move zW_X))
set_option maxRecDepth 20000 in
theorem zq_X9_move_X_44 (I : Nat → Nat → Int32) (J : Nat → Nat → Int64) (l1 : Int32) (l2 : Int32) (l3 : Int32) : zv_X9_move_X_44 I J l1 l2 l3 = some (some (.int (-5)), (I, J)) := (zm_V_eq _ _ _).trans ((fun (k : zm_S → zm_R) => (rfl : zm_step zT_X9_move zW_X k (44, [some (.ref 0), some (.int l1), some (.int l2), some (.int l3), none], [], (I, J)) = some (some (.int (-5)), (I, J)))) (zm_V zT_X9_move zW_X))
set_option maxRecDepth 20000 in
theorem zc_X9_move_X_47 (I : Nat → Nat → Int32) (J : Nat → Nat → Int64) (l1 : Int32) (l2 : Int32) (l3 : Int32) {N : zm_I} (hF : zF_X0_addAct zW_B [.ref 0, .int l1, .int l2, .int l3] (zm_sub2 [(1, 10)] (I, J)) = some (none, N)) : zv_X9_move_X_47 I J l1 l2 l3 = zv_X9_move_X_66 (zm_mrg [(1, 10)] (I, J) N).1 (zm_mrg [(1, 10)] (I, J) N).2 l1 l2 l3 ((I 1 7)) := by
  have e : ∀ k : zm_S → zm_R, zm_step zT_X9_move zW_X k (47, [some (.ref 0), some (.int l1), some (.int l2), some (.int l3), none], [], (I, J)) = zm_app (4, some 0, false, [(0, 10)], zF_X0_addAct) zW_X [.ref 1, .int l1, .int l2, .int l3] (I, J) (fun v N => k (66, [some (.ref 0), some (.int l1), some (.int l2), some (.int l3), some (.int (I 1 7))], v.toList ++ [], N)) := fun k => rfl
  have g := zm_app_l (C := (4, some 0, false, [(0, 10)], zF_X0_addAct)) (wl := zW_X) (as := [.ref 1, .int l1, .int l2, .int l3]) (wc := zW_B) (ac := [.ref 0, .int l1, .int l2, .int l3]) (bs := [(1, 10)]) (M := (I, J)) (k := fun v N => zm_V zT_X9_move zW_X (66, [some (.ref 0), some (.int l1), some (.int l2), some (.int l3), some (.int (I 1 7))], v.toList ++ [], N)) rfl rfl rfl rfl rfl rfl hF
  exact (zm_V_eq _ _ _).trans ((e _).trans g)
set_option maxRecDepth 20000 in
theorem zc_X9_move_X_66 (I : Nat → Nat → Int32) (J : Nat → Nat → Int64) (l1 : Int32) (l2 : Int32) (l3 : Int32) (l4 : Int32) {I2 : Nat → Nat → Int32} {J2 : Nat → Nat → Int64} (hF : zF_X9_forgetAnswers zW_X [.ref 0] (I, J) = some (none, (I2, J2))) : zv_X9_move_X_66 I J l1 l2 l3 l4 = zv_X9_move_X_70 I2 J2 l1 l2 l3 l4 := by
  have e : ∀ k : zm_S → zm_R, zm_step zT_X9_move zW_X k (66, [some (.ref 0), some (.int l1), some (.int l2), some (.int l3), some (.int l4)], [], (I, J)) = zm_app (1, some 9, true, [], zF_X9_forgetAnswers) zW_X [.ref 0] (I, J) (fun v N => k (70, [some (.ref 0), some (.int l1), some (.int l2), some (.int l3), some (.int l4)], v.toList ++ [], N)) := fun k => rfl
  have g := zm_app_s (C := (1, some 9, true, [], zF_X9_forgetAnswers)) (wl := zW_X) (as := [.ref 0]) (M := (I, J)) (k := fun v N => zm_V zT_X9_move zW_X (70, [some (.ref 0), some (.int l1), some (.int l2), some (.int l3), some (.int l4)], v.toList ++ [], N)) rfl rfl hF
  exact (zm_V_eq _ _ _).trans ((e _).trans g)
set_option maxRecDepth 20000 in
theorem zc_X9_move_X_70 (I : Nat → Nat → Int32) (J : Nat → Nat → Int64) (l1 : Int32) (l2 : Int32) (l3 : Int32) (l4 : Int32) {I2 : Nat → Nat → Int32} {J2 : Nat → Nat → Int64} (hF : zF_X9_livedToday zW_X [.ref 0] (I, J) = some (some (.ref 21), (I2, J2))) : zv_X9_move_X_70 I J l1 l2 l3 l4 = zv_X9_move_X_74 I2 J2 l1 l2 l3 l4 := by
  have e : ∀ k : zm_S → zm_R, zm_step zT_X9_move zW_X k (70, [some (.ref 0), some (.int l1), some (.int l2), some (.int l3), some (.int l4)], [], (I, J)) = zm_app (1, some 9, true, [], zF_X9_livedToday) zW_X [.ref 0] (I, J) (fun v N => k (74, [some (.ref 0), some (.int l1), some (.int l2), some (.int l3), some (.int l4)], v.toList ++ [], N)) := fun k => rfl
  have g := zm_app_s (C := (1, some 9, true, [], zF_X9_livedToday)) (wl := zW_X) (as := [.ref 0]) (M := (I, J)) (k := fun v N => zm_V zT_X9_move zW_X (74, [some (.ref 0), some (.int l1), some (.int l2), some (.int l3), some (.int l4)], v.toList ++ [], N)) rfl rfl hF
  exact (zm_V_eq _ _ _).trans ((e _).trans g)
set_option maxRecDepth 20000 in
theorem zq_X9_move_X_74 (I : Nat → Nat → Int32) (J : Nat → Nat → Int64) (l1 : Int32) (l2 : Int32) (l3 : Int32) (l4 : Int32) : zv_X9_move_X_74 I J l1 l2 l3 l4 = some (some (.int (Int64.toInt32 (((Int64.toUInt64 (J 22 9) >>> ((Int32.toInt64 l4).toUInt64 &&& Int64.toUInt64 63)).toInt64) &&& 1))), (I, J)) := (zm_V_eq _ _ _).trans ((fun (k : zm_S → zm_R) => (rfl : zm_step zT_X9_move zW_X k (74, [some (.ref 0), some (.int l1), some (.int l2), some (.int l3), some (.int l4)], [.ref 21], (I, J)) = some (some (.int (Int64.toInt32 (((Int64.toUInt64 (J 22 9) >>> ((Int32.toInt64 l4).toUInt64 &&& Int64.toUInt64 63)).toInt64) &&& 1))), (I, J)))) (zm_V zT_X9_move zW_X))
theorem zf_X9_move_X (I : Nat → Nat → Int32) (J : Nat → Nat → Int64) (l1 : Int32) (l2 : Int32) (l3 : Int32) : zF_X9_move zW_X [.ref 0, .int l1, .int l2, .int l3] (I, J) = zv_X9_move_X_0 I J l1 l2 l3 := rfl
noncomputable def zv_X9_isMinute_X_0 (I : Nat → Nat → Int32) (J : Nat → Nat → Int64) (l0 : Int32) : zm_R := zm_V zT_X9_isMinute zW_X (0, [some (.int l0)], [], (I, J))
noncomputable def zv_X9_isMinute_X_4 (I : Nat → Nat → Int32) (J : Nat → Nat → Int64) (l0 : Int32) : zm_R := zm_V zT_X9_isMinute zW_X (4, [some (.int l0)], [], (I, J))
noncomputable def zv_X9_isMinute_X_10 (I : Nat → Nat → Int32) (J : Nat → Nat → Int64) (l0 : Int32) : zm_R := zm_V zT_X9_isMinute zW_X (10, [some (.int l0)], [], (I, J))
noncomputable def zv_X9_isMinute_X_14 (I : Nat → Nat → Int32) (J : Nat → Nat → Int64) (l0 : Int32) : zm_R := zm_V zT_X9_isMinute zW_X (14, [some (.int l0)], [], (I, J))
noncomputable def zv_X9_isMinute_X_15 (I : Nat → Nat → Int32) (J : Nat → Nat → Int64) (l0 : Int32) (s0 : Int32) : zm_R := zm_V zT_X9_isMinute zW_X (15, [some (.int l0)], [.int s0], (I, J))
set_option maxRecDepth 20000 in
theorem zq_X9_isMinute_X_0 (I : Nat → Nat → Int32) (J : Nat → Nat → Int64) (l0 : Int32) : zv_X9_isMinute_X_0 I J l0 = if l0 < 0 then zv_X9_isMinute_X_14 I J l0 else zv_X9_isMinute_X_4 I J l0 := (zm_V_eq _ _ _).trans ((fun (k : zm_S → zm_R) => (rfl : zm_step zT_X9_isMinute zW_X k (0, [some (.int l0)], [], (I, J)) = if l0 < 0 then k (14, [some (.int l0)], [], (I, J)) else k (4, [some (.int l0)], [], (I, J)))) (zm_V zT_X9_isMinute zW_X))
set_option maxRecDepth 20000 in
theorem zq_X9_isMinute_X_4 (I : Nat → Nat → Int32) (J : Nat → Nat → Int64) (l0 : Int32) : zv_X9_isMinute_X_4 I J l0 = if 60 < l0 then zv_X9_isMinute_X_14 I J l0 else zv_X9_isMinute_X_10 I J l0 := (zm_V_eq _ _ _).trans ((fun (k : zm_S → zm_R) => (rfl : zm_step zT_X9_isMinute zW_X k (4, [some (.int l0)], [], (I, J)) = if 60 < l0 then k (14, [some (.int l0)], [], (I, J)) else k (10, [some (.int l0)], [], (I, J)))) (zm_V zT_X9_isMinute zW_X))
set_option maxRecDepth 20000 in
theorem zq_X9_isMinute_X_10 (I : Nat → Nat → Int32) (J : Nat → Nat → Int64) (l0 : Int32) : zv_X9_isMinute_X_10 I J l0 = zv_X9_isMinute_X_15 I J l0 1 := (zm_V_eq _ _ _).trans ((fun (k : zm_S → zm_R) => (rfl : zm_step zT_X9_isMinute zW_X k (10, [some (.int l0)], [], (I, J)) = k (15, [some (.int l0)], [.int 1], (I, J)))) (zm_V zT_X9_isMinute zW_X))
set_option maxRecDepth 20000 in
theorem zq_X9_isMinute_X_14 (I : Nat → Nat → Int32) (J : Nat → Nat → Int64) (l0 : Int32) : zv_X9_isMinute_X_14 I J l0 = zv_X9_isMinute_X_15 I J l0 0 := (zm_V_eq _ _ _).trans ((fun (k : zm_S → zm_R) => (rfl : zm_step zT_X9_isMinute zW_X k (14, [some (.int l0)], [], (I, J)) = k (15, [some (.int l0)], [.int 0], (I, J)))) (zm_V zT_X9_isMinute zW_X))
set_option maxRecDepth 20000 in
theorem zq_X9_isMinute_X_15 (I : Nat → Nat → Int32) (J : Nat → Nat → Int64) (l0 : Int32) (s0 : Int32) : zv_X9_isMinute_X_15 I J l0 s0 = if s0 = 0 ∨ s0 = 1 then some (some (.int s0), (I, J)) else none := (zm_V_eq _ _ _).trans ((fun (k : zm_S → zm_R) => (rfl : zm_step zT_X9_isMinute zW_X k (15, [some (.int l0)], [.int s0], (I, J)) = if s0 = 0 ∨ s0 = 1 then some (some (.int s0), (I, J)) else none)) (zm_V zT_X9_isMinute zW_X))
theorem zf_X9_isMinute_X (I : Nat → Nat → Int32) (J : Nat → Nat → Int64) (l0 : Int32) : zF_X9_isMinute zW_X [.int l0] (I, J) = zv_X9_isMinute_X_0 I J l0 := rfl
noncomputable def zv_X0_addAct_B_0 (I : Nat → Nat → Int32) (J : Nat → Nat → Int64) (l1 : Int32) (l2 : Int32) (l3 : Int32) : zm_R := zm_V zT_X0_addAct zW_B (0, [some (.ref 0), some (.int l1), some (.int l2), some (.int l3)], [], (I, J))
noncomputable def zv_X0_addAct_B_9 (I : Nat → Nat → Int32) (J : Nat → Nat → Int64) (l1 : Int32) (l2 : Int32) (l3 : Int32) : zm_R := zm_V zT_X0_addAct zW_B (9, [some (.ref 0), some (.int l1), some (.int l2), some (.int l3)], [], (I, J))
noncomputable def zv_X0_addAct_B_10 (I : Nat → Nat → Int32) (J : Nat → Nat → Int64) (l1 : Int32) (l2 : Int32) (l3 : Int32) : zm_R := zm_V zT_X0_addAct zW_B (10, [some (.ref 0), some (.int l1), some (.int l2), some (.int l3)], [], (I, J))
theorem zq_X0_addAct_B_0 (I : Nat → Nat → Int32) (J : Nat → Nat → Int64) (l1 : Int32) (l2 : Int32) (l3 : Int32) : zv_X0_addAct_B_0 I J l1 l2 l3 = if (I 0 7) ≤ 40 then zv_X0_addAct_B_10 I J l1 l2 l3 else zv_X0_addAct_B_9 I J l1 l2 l3 := (zm_V_eq _ _ _).trans ((fun (k : zm_S → zm_R) => (rfl : zm_step zT_X0_addAct zW_B k (0, [some (.ref 0), some (.int l1), some (.int l2), some (.int l3)], [], (I, J)) = if (I 0 7) ≤ 40 then k (10, [some (.ref 0), some (.int l1), some (.int l2), some (.int l3)], [], (I, J)) else k (9, [some (.ref 0), some (.int l1), some (.int l2), some (.int l3)], [], (I, J)))) (zm_V zT_X0_addAct zW_B))
theorem zq_X0_addAct_B_9 (I : Nat → Nat → Int32) (J : Nat → Nat → Int64) (l1 : Int32) (l2 : Int32) (l3 : Int32) : zv_X0_addAct_B_9 I J l1 l2 l3 = some (none, (I, J)) := (zm_V_eq _ _ _).trans ((fun (k : zm_S → zm_R) => (rfl : zm_step zT_X0_addAct zW_B k (9, [some (.ref 0), some (.int l1), some (.int l2), some (.int l3)], [], (I, J)) = some (none, (I, J)))) (zm_V zT_X0_addAct zW_B))
theorem zq_X0_addAct_B_10 (I : Nat → Nat → Int32) (J : Nat → Nat → Int64) (l1 : Int32) (l2 : Int32) (l3 : Int32) : zv_X0_addAct_B_10 I J l1 l2 l3 = if ((I 0 7) : Int32) < 0 ∨ 41 ≤ Int32.toNatClampNeg (I 0 7) then none else if (((zm_w I 7 (Int32.toNatClampNeg (I 0 7)) l1) 0 7) : Int32) < 0 ∨ 41 ≤ Int32.toNatClampNeg ((zm_w I 7 (Int32.toNatClampNeg (I 0 7)) l1) 0 7) then none else if (((zm_w (zm_w I 7 (Int32.toNatClampNeg (I 0 7)) l1) 8 (Int32.toNatClampNeg ((zm_w I 7 (Int32.toNatClampNeg (I 0 7)) l1) 0 7)) l2) 0 7) : Int32) < 0 ∨ 41 ≤ Int32.toNatClampNeg ((zm_w (zm_w I 7 (Int32.toNatClampNeg (I 0 7)) l1) 8 (Int32.toNatClampNeg ((zm_w I 7 (Int32.toNatClampNeg (I 0 7)) l1) 0 7)) l2) 0 7) then none else some (none, ((zm_w (zm_w (zm_w (zm_w I 7 (Int32.toNatClampNeg (I 0 7)) l1) 8 (Int32.toNatClampNeg ((zm_w I 7 (Int32.toNatClampNeg (I 0 7)) l1) 0 7)) l2) 9 (Int32.toNatClampNeg ((zm_w (zm_w I 7 (Int32.toNatClampNeg (I 0 7)) l1) 8 (Int32.toNatClampNeg ((zm_w I 7 (Int32.toNatClampNeg (I 0 7)) l1) 0 7)) l2) 0 7)) l3) 0 7 (((zm_w (zm_w (zm_w I 7 (Int32.toNatClampNeg (I 0 7)) l1) 8 (Int32.toNatClampNeg ((zm_w I 7 (Int32.toNatClampNeg (I 0 7)) l1) 0 7)) l2) 9 (Int32.toNatClampNeg ((zm_w (zm_w I 7 (Int32.toNatClampNeg (I 0 7)) l1) 8 (Int32.toNatClampNeg ((zm_w I 7 (Int32.toNatClampNeg (I 0 7)) l1) 0 7)) l2) 0 7)) l3) 0 7) + 1)), J)) := (zm_V_eq _ _ _).trans ((fun (k : zm_S → zm_R) => (rfl : zm_step zT_X0_addAct zW_B k (10, [some (.ref 0), some (.int l1), some (.int l2), some (.int l3)], [], (I, J)) = if ((I 0 7) : Int32) < 0 ∨ 41 ≤ Int32.toNatClampNeg (I 0 7) then none else if (((zm_w I 7 (Int32.toNatClampNeg (I 0 7)) l1) 0 7) : Int32) < 0 ∨ 41 ≤ Int32.toNatClampNeg ((zm_w I 7 (Int32.toNatClampNeg (I 0 7)) l1) 0 7) then none else if (((zm_w (zm_w I 7 (Int32.toNatClampNeg (I 0 7)) l1) 8 (Int32.toNatClampNeg ((zm_w I 7 (Int32.toNatClampNeg (I 0 7)) l1) 0 7)) l2) 0 7) : Int32) < 0 ∨ 41 ≤ Int32.toNatClampNeg ((zm_w (zm_w I 7 (Int32.toNatClampNeg (I 0 7)) l1) 8 (Int32.toNatClampNeg ((zm_w I 7 (Int32.toNatClampNeg (I 0 7)) l1) 0 7)) l2) 0 7) then none else some (none, ((zm_w (zm_w (zm_w (zm_w I 7 (Int32.toNatClampNeg (I 0 7)) l1) 8 (Int32.toNatClampNeg ((zm_w I 7 (Int32.toNatClampNeg (I 0 7)) l1) 0 7)) l2) 9 (Int32.toNatClampNeg ((zm_w (zm_w I 7 (Int32.toNatClampNeg (I 0 7)) l1) 8 (Int32.toNatClampNeg ((zm_w I 7 (Int32.toNatClampNeg (I 0 7)) l1) 0 7)) l2) 0 7)) l3) 0 7 (((zm_w (zm_w (zm_w I 7 (Int32.toNatClampNeg (I 0 7)) l1) 8 (Int32.toNatClampNeg ((zm_w I 7 (Int32.toNatClampNeg (I 0 7)) l1) 0 7)) l2) 9 (Int32.toNatClampNeg ((zm_w (zm_w I 7 (Int32.toNatClampNeg (I 0 7)) l1) 8 (Int32.toNatClampNeg ((zm_w I 7 (Int32.toNatClampNeg (I 0 7)) l1) 0 7)) l2) 0 7)) l3) 0 7) + 1)), J)))) (zm_V zT_X0_addAct zW_B))
theorem zf_X0_addAct_B (I : Nat → Nat → Int32) (J : Nat → Nat → Int64) (l1 : Int32) (l2 : Int32) (l3 : Int32) : zF_X0_addAct zW_B [.ref 0, .int l1, .int l2, .int l3] (I, J) = zv_X0_addAct_B_0 I J l1 l2 l3 := rfl
noncomputable def zv_X10_undo_M_0 (I : Nat → Nat → Int32) (J : Nat → Nat → Int64) : zm_R := zm_V zT_X10_undo zW_M (0, [some (.ref 0)], [], (I, J))
noncomputable def zv_X10_undo_M_9 (I : Nat → Nat → Int32) (J : Nat → Nat → Int64) (s0 : Int32) : zm_R := zm_V zT_X10_undo zW_M (9, [some (.ref 0)], [.int s0], (I, J))
noncomputable def zv_X10_undo_M_12 (I : Nat → Nat → Int32) (J : Nat → Nat → Int64) : zm_R := zm_V zT_X10_undo zW_M (12, [some (.ref 0)], [], (I, J))
noncomputable def zv_X10_undo_M_15 (I : Nat → Nat → Int32) (J : Nat → Nat → Int64) : zm_R := zm_V zT_X10_undo zW_M (15, [some (.ref 0)], [], (I, J))
noncomputable def zv_X10_undo_M_25 (I : Nat → Nat → Int32) (J : Nat → Nat → Int64) : zm_R := zm_V zT_X10_undo zW_M (25, [some (.ref 0)], [], (I, J))
noncomputable def zv_X10_undo_M_28 (I : Nat → Nat → Int32) (J : Nat → Nat → Int64) : zm_R := zm_V zT_X10_undo zW_M (28, [some (.ref 0)], [], (I, J))
set_option maxRecDepth 20000 in
theorem zc_X10_undo_M_0 (I : Nat → Nat → Int32) (J : Nat → Nat → Int64) {I2 : Nat → Nat → Int32} {J2 : Nat → Nat → Int64} {r : Int32} (hF : zF_X10_isBench zW_M [.ref 0] ((zm_w I 0 0 0), J) = some (some (.int r), (I2, J2))) : zv_X10_undo_M_0 I J = zv_X10_undo_M_9 I2 J2 r := by
  have e : ∀ k : zm_S → zm_R, zm_step zT_X10_undo zW_M k (0, [some (.ref 0)], [], (I, J)) = zm_app (1, some 10, true, [], zF_X10_isBench) zW_M [.ref 0] ((zm_w I 0 0 0), J) (fun v N => k (9, [some (.ref 0)], v.toList ++ [], N)) := fun k => rfl
  have g := zm_app_s (C := (1, some 10, true, [], zF_X10_isBench)) (wl := zW_M) (as := [.ref 0]) (M := ((zm_w I 0 0 0), J)) (k := fun v N => zm_V zT_X10_undo zW_M (9, [some (.ref 0)], v.toList ++ [], N)) rfl rfl hF
  exact (zm_V_eq _ _ _).trans ((e _).trans g)
set_option maxRecDepth 20000 in
theorem zq_X10_undo_M_9 (I : Nat → Nat → Int32) (J : Nat → Nat → Int64) (s0 : Int32) : zv_X10_undo_M_9 I J s0 = if s0 = 0 then zv_X10_undo_M_12 I J else zv_X10_undo_M_15 I J := (zm_V_eq _ _ _).trans ((fun (k : zm_S → zm_R) => (rfl : zm_step zT_X10_undo zW_M k (9, [some (.ref 0)], [.int s0], (I, J)) = if s0 = 0 then k (12, [some (.ref 0)], [], (I, J)) else k (15, [some (.ref 0)], [], (I, J)))) (zm_V zT_X10_undo zW_M))
set_option maxRecDepth 20000 in
theorem zq_X10_undo_M_12 (I : Nat → Nat → Int32) (J : Nat → Nat → Int64) : zv_X10_undo_M_12 I J = some (some (.int (-2)), (I, J)) := (zm_V_eq _ _ _).trans ((fun (k : zm_S → zm_R) => (rfl : zm_step zT_X10_undo zW_M k (12, [some (.ref 0)], [], (I, J)) = some (some (.int (-2)), (I, J)))) (zm_V zT_X10_undo zW_M))
set_option maxRecDepth 20000 in
theorem zq_X10_undo_M_15 (I : Nat → Nat → Int32) (J : Nat → Nat → Int64) : zv_X10_undo_M_15 I J = if (6 : Int32) < 0 ∨ 35 ≤ Int32.toNatClampNeg 6 then none else if (I 7 (Int32.toNatClampNeg 6)) = 0 then zv_X10_undo_M_25 I J else zv_X10_undo_M_28 I J := (zm_V_eq _ _ _).trans ((fun (k : zm_S → zm_R) => (rfl : zm_step zT_X10_undo zW_M k (15, [some (.ref 0)], [], (I, J)) = if (6 : Int32) < 0 ∨ 35 ≤ Int32.toNatClampNeg 6 then none else if (I 7 (Int32.toNatClampNeg 6)) = 0 then k (25, [some (.ref 0)], [], (I, J)) else k (28, [some (.ref 0)], [], (I, J)))) (zm_V zT_X10_undo zW_M))
set_option maxRecDepth 20000 in
theorem zq_X10_undo_M_25 (I : Nat → Nat → Int32) (J : Nat → Nat → Int64) : zv_X10_undo_M_25 I J = some (some (.int (-5)), (I, J)) := (zm_V_eq _ _ _).trans ((fun (k : zm_S → zm_R) => (rfl : zm_step zT_X10_undo zW_M k (25, [some (.ref 0)], [], (I, J)) = some (some (.int (-5)), (I, J)))) (zm_V zT_X10_undo zW_M))
set_option maxRecDepth 20000 in
theorem zq_X10_undo_M_28 (I : Nat → Nat → Int32) (J : Nat → Nat → Int64) : zv_X10_undo_M_28 I J = if (6 : Int32) < 0 ∨ 35 ≤ Int32.toNatClampNeg 6 then none else if (6 : Int32) < 0 ∨ 35 ≤ Int32.toNatClampNeg 6 then none else if (6 : Int32) < 0 ∨ 35 ≤ Int32.toNatClampNeg 6 then none else some (some (.int ((zm_w I 7 (Int32.toNatClampNeg 6) ((I 7 (Int32.toNatClampNeg 6)) - 1)) 7 (Int32.toNatClampNeg 6))), ((zm_w I 7 (Int32.toNatClampNeg 6) ((I 7 (Int32.toNatClampNeg 6)) - 1)), J)) := (zm_V_eq _ _ _).trans ((fun (k : zm_S → zm_R) => (rfl : zm_step zT_X10_undo zW_M k (28, [some (.ref 0)], [], (I, J)) = if (6 : Int32) < 0 ∨ 35 ≤ Int32.toNatClampNeg 6 then none else if (6 : Int32) < 0 ∨ 35 ≤ Int32.toNatClampNeg 6 then none else if (6 : Int32) < 0 ∨ 35 ≤ Int32.toNatClampNeg 6 then none else some (some (.int ((zm_w I 7 (Int32.toNatClampNeg 6) ((I 7 (Int32.toNatClampNeg 6)) - 1)) 7 (Int32.toNatClampNeg 6))), ((zm_w I 7 (Int32.toNatClampNeg 6) ((I 7 (Int32.toNatClampNeg 6)) - 1)), J)))) (zm_V zT_X10_undo zW_M))
theorem zf_X10_undo_M (I : Nat → Nat → Int32) (J : Nat → Nat → Int64) : zF_X10_undo zW_M [.ref 0] (I, J) = zv_X10_undo_M_0 I J := rfl
noncomputable def zv_X10_anew_M_0 (I : Nat → Nat → Int32) (J : Nat → Nat → Int64) : zm_R := zm_V zT_X10_anew zW_M (0, [some (.ref 0), none], [], (I, J))
noncomputable def zv_X10_anew_M_9 (I : Nat → Nat → Int32) (J : Nat → Nat → Int64) (s0 : Int32) : zm_R := zm_V zT_X10_anew zW_M (9, [some (.ref 0), none], [.int s0], (I, J))
noncomputable def zv_X10_anew_M_12 (I : Nat → Nat → Int32) (J : Nat → Nat → Int64) : zm_R := zm_V zT_X10_anew zW_M (12, [some (.ref 0), none], [], (I, J))
noncomputable def zv_X10_anew_M_15 (I : Nat → Nat → Int32) (J : Nat → Nat → Int64) : zm_R := zm_V zT_X10_anew zW_M (15, [some (.ref 0), none], [], (I, J))
set_option maxRecDepth 20000 in
theorem zc_X10_anew_M_0 (I : Nat → Nat → Int32) (J : Nat → Nat → Int64) {I2 : Nat → Nat → Int32} {J2 : Nat → Nat → Int64} {r : Int32} (hF : zF_X10_isBench zW_M [.ref 0] ((zm_w I 0 0 0), J) = some (some (.int r), (I2, J2))) : zv_X10_anew_M_0 I J = zv_X10_anew_M_9 I2 J2 r := by
  have e : ∀ k : zm_S → zm_R, zm_step zT_X10_anew zW_M k (0, [some (.ref 0), none], [], (I, J)) = zm_app (1, some 10, true, [], zF_X10_isBench) zW_M [.ref 0] ((zm_w I 0 0 0), J) (fun v N => k (9, [some (.ref 0), none], v.toList ++ [], N)) := fun k => rfl
  have g := zm_app_s (C := (1, some 10, true, [], zF_X10_isBench)) (wl := zW_M) (as := [.ref 0]) (M := ((zm_w I 0 0 0), J)) (k := fun v N => zm_V zT_X10_anew zW_M (9, [some (.ref 0), none], v.toList ++ [], N)) rfl rfl hF
  exact (zm_V_eq _ _ _).trans ((e _).trans g)
set_option maxRecDepth 20000 in
theorem zq_X10_anew_M_9 (I : Nat → Nat → Int32) (J : Nat → Nat → Int64) (s0 : Int32) : zv_X10_anew_M_9 I J s0 = if s0 = 0 then zv_X10_anew_M_12 I J else zv_X10_anew_M_15 I J := (zm_V_eq _ _ _).trans ((fun (k : zm_S → zm_R) => (rfl : zm_step zT_X10_anew zW_M k (9, [some (.ref 0), none], [.int s0], (I, J)) = if s0 = 0 then k (12, [some (.ref 0), none], [], (I, J)) else k (15, [some (.ref 0), none], [], (I, J)))) (zm_V zT_X10_anew zW_M))
set_option maxRecDepth 20000 in
theorem zq_X10_anew_M_12 (I : Nat → Nat → Int32) (J : Nat → Nat → Int64) : zv_X10_anew_M_12 I J = some (some (.int (-2)), (I, J)) := (zm_V_eq _ _ _).trans ((fun (k : zm_S → zm_R) => (rfl : zm_step zT_X10_anew zW_M k (12, [some (.ref 0), none], [], (I, J)) = some (some (.int (-2)), (I, J)))) (zm_V zT_X10_anew zW_M))
set_option maxRecDepth 20000 in
theorem zq_X10_anew_M_15 (I : Nat → Nat → Int32) (J : Nat → Nat → Int64) : zv_X10_anew_M_15 I J = if (6 : Int32) < 0 ∨ 35 ≤ Int32.toNatClampNeg 6 then none else if (6 : Int32) < 0 ∨ 35 ≤ Int32.toNatClampNeg 6 then none else some (some (.int (I 7 (Int32.toNatClampNeg 6))), ((zm_w I 7 (Int32.toNatClampNeg 6) 0), J)) := (zm_V_eq _ _ _).trans ((fun (k : zm_S → zm_R) => (rfl : zm_step zT_X10_anew zW_M k (15, [some (.ref 0), none], [], (I, J)) = if (6 : Int32) < 0 ∨ 35 ≤ Int32.toNatClampNeg 6 then none else if (6 : Int32) < 0 ∨ 35 ≤ Int32.toNatClampNeg 6 then none else some (some (.int (I 7 (Int32.toNatClampNeg 6))), ((zm_w I 7 (Int32.toNatClampNeg 6) 0), J)))) (zm_V zT_X10_anew zW_M))
theorem zf_X10_anew_M (I : Nat → Nat → Int32) (J : Nat → Nat → Int64) : zF_X10_anew zW_M [.ref 0] (I, J) = zv_X10_anew_M_0 I J := rfl
noncomputable def zv_X10_rate_M_0 (I : Nat → Nat → Int32) (J : Nat → Nat → Int64) (l1 : Int32) : zm_R := zm_V zT_X10_rate zW_M (0, [some (.ref 0), some (.int l1), none], [], (I, J))
noncomputable def zv_X10_rate_M_9 (I : Nat → Nat → Int32) (J : Nat → Nat → Int64) (l1 : Int32) (s0 : Int32) : zm_R := zm_V zT_X10_rate zW_M (9, [some (.ref 0), some (.int l1), none], [.int s0], (I, J))
noncomputable def zv_X10_rate_M_12 (I : Nat → Nat → Int32) (J : Nat → Nat → Int64) (l1 : Int32) : zm_R := zm_V zT_X10_rate zW_M (12, [some (.ref 0), some (.int l1), none], [], (I, J))
noncomputable def zv_X10_rate_M_21 (I : Nat → Nat → Int32) (J : Nat → Nat → Int64) (l1 : Int32) (s0 : Int32) : zm_R := zm_V zT_X10_rate zW_M (21, [some (.ref 0), some (.int l1), none], [.int s0], (I, J))
noncomputable def zv_X10_rate_M_24 (I : Nat → Nat → Int32) (J : Nat → Nat → Int64) (l1 : Int32) : zm_R := zm_V zT_X10_rate zW_M (24, [some (.ref 0), some (.int l1), none], [], (I, J))
noncomputable def zv_X10_rate_M_27 (I : Nat → Nat → Int32) (J : Nat → Nat → Int64) (l1 : Int32) : zm_R := zm_V zT_X10_rate zW_M (27, [some (.ref 0), some (.int l1), none], [], (I, J))
noncomputable def zv_X10_rate_M_37 (I : Nat → Nat → Int32) (J : Nat → Nat → Int64) (l1 : Int32) : zm_R := zm_V zT_X10_rate zW_M (37, [some (.ref 0), some (.int l1), none], [], (I, J))
noncomputable def zv_X10_rate_M_40 (I : Nat → Nat → Int32) (J : Nat → Nat → Int64) (l1 : Int32) : zm_R := zm_V zT_X10_rate zW_M (40, [some (.ref 0), some (.int l1), none], [], (I, J))
set_option maxRecDepth 20000 in
theorem zc_X10_rate_M_0 (I : Nat → Nat → Int32) (J : Nat → Nat → Int64) (l1 : Int32) {I2 : Nat → Nat → Int32} {J2 : Nat → Nat → Int64} {r : Int32} (hF : zF_X10_isBench zW_M [.ref 0] ((zm_w I 0 0 0), J) = some (some (.int r), (I2, J2))) : zv_X10_rate_M_0 I J l1 = zv_X10_rate_M_9 I2 J2 l1 r := by
  have e : ∀ k : zm_S → zm_R, zm_step zT_X10_rate zW_M k (0, [some (.ref 0), some (.int l1), none], [], (I, J)) = zm_app (1, some 10, true, [], zF_X10_isBench) zW_M [.ref 0] ((zm_w I 0 0 0), J) (fun v N => k (9, [some (.ref 0), some (.int l1), none], v.toList ++ [], N)) := fun k => rfl
  have g := zm_app_s (C := (1, some 10, true, [], zF_X10_isBench)) (wl := zW_M) (as := [.ref 0]) (M := ((zm_w I 0 0 0), J)) (k := fun v N => zm_V zT_X10_rate zW_M (9, [some (.ref 0), some (.int l1), none], v.toList ++ [], N)) rfl rfl hF
  exact (zm_V_eq _ _ _).trans ((e _).trans g)
set_option maxRecDepth 20000 in
theorem zq_X10_rate_M_9 (I : Nat → Nat → Int32) (J : Nat → Nat → Int64) (l1 : Int32) (s0 : Int32) : zv_X10_rate_M_9 I J l1 s0 = if s0 = 0 then zv_X10_rate_M_24 I J l1 else zv_X10_rate_M_12 I J l1 := (zm_V_eq _ _ _).trans ((fun (k : zm_S → zm_R) => (rfl : zm_step zT_X10_rate zW_M k (9, [some (.ref 0), some (.int l1), none], [.int s0], (I, J)) = if s0 = 0 then k (24, [some (.ref 0), some (.int l1), none], [], (I, J)) else k (12, [some (.ref 0), some (.int l1), none], [], (I, J)))) (zm_V zT_X10_rate zW_M))
set_option maxRecDepth 20000 in
theorem zc_X10_rate_M_12 (I : Nat → Nat → Int32) (J : Nat → Nat → Int64) (l1 : Int32) {I2 : Nat → Nat → Int32} {J2 : Nat → Nat → Int64} {r : Int32} (hF : zF_X10_in zW_M [.long (Int32.toInt64 l1), .long 0, .long (99)] (I, J) = some (some (.int r), (I2, J2))) : zv_X10_rate_M_12 I J l1 = zv_X10_rate_M_21 I2 J2 l1 r := by
  have e : ∀ k : zm_S → zm_R, zm_step zT_X10_rate zW_M k (12, [some (.ref 0), some (.int l1), none], [], (I, J)) = zm_app (3, none, true, [], zF_X10_in) zW_M [.long (Int32.toInt64 l1), .long 0, .long (99)] (I, J) (fun v N => k (21, [some (.ref 0), some (.int l1), none], v.toList ++ [], N)) := fun k => rfl
  have g := zm_app_s (C := (3, none, true, [], zF_X10_in)) (wl := zW_M) (as := [.long (Int32.toInt64 l1), .long 0, .long (99)]) (M := (I, J)) (k := fun v N => zm_V zT_X10_rate zW_M (21, [some (.ref 0), some (.int l1), none], v.toList ++ [], N)) rfl rfl hF
  exact (zm_V_eq _ _ _).trans ((e _).trans g)
set_option maxRecDepth 20000 in
theorem zq_X10_rate_M_21 (I : Nat → Nat → Int32) (J : Nat → Nat → Int64) (l1 : Int32) (s0 : Int32) : zv_X10_rate_M_21 I J l1 s0 = if s0 = 0 then zv_X10_rate_M_24 I J l1 else zv_X10_rate_M_27 I J l1 := (zm_V_eq _ _ _).trans ((fun (k : zm_S → zm_R) => (rfl : zm_step zT_X10_rate zW_M k (21, [some (.ref 0), some (.int l1), none], [.int s0], (I, J)) = if s0 = 0 then k (24, [some (.ref 0), some (.int l1), none], [], (I, J)) else k (27, [some (.ref 0), some (.int l1), none], [], (I, J)))) (zm_V zT_X10_rate zW_M))
set_option maxRecDepth 20000 in
theorem zq_X10_rate_M_24 (I : Nat → Nat → Int32) (J : Nat → Nat → Int64) (l1 : Int32) : zv_X10_rate_M_24 I J l1 = some (some (.int (-2)), (I, J)) := (zm_V_eq _ _ _).trans ((fun (k : zm_S → zm_R) => (rfl : zm_step zT_X10_rate zW_M k (24, [some (.ref 0), some (.int l1), none], [], (I, J)) = some (some (.int (-2)), (I, J)))) (zm_V zT_X10_rate zW_M))
set_option maxRecDepth 20000 in
theorem zq_X10_rate_M_27 (I : Nat → Nat → Int32) (J : Nat → Nat → Int64) (l1 : Int32) : zv_X10_rate_M_27 I J l1 = if (6 : Int32) < 0 ∨ 35 ≤ Int32.toNatClampNeg 6 then none else if (I 7 (Int32.toNatClampNeg 6)) ≤ 0 then zv_X10_rate_M_40 I J l1 else zv_X10_rate_M_37 I J l1 := (zm_V_eq _ _ _).trans ((fun (k : zm_S → zm_R) => (rfl : zm_step zT_X10_rate zW_M k (27, [some (.ref 0), some (.int l1), none], [], (I, J)) = if (6 : Int32) < 0 ∨ 35 ≤ Int32.toNatClampNeg 6 then none else if (I 7 (Int32.toNatClampNeg 6)) ≤ 0 then k (40, [some (.ref 0), some (.int l1), none], [], (I, J)) else k (37, [some (.ref 0), some (.int l1), none], [], (I, J)))) (zm_V zT_X10_rate zW_M))
set_option maxRecDepth 20000 in
theorem zq_X10_rate_M_37 (I : Nat → Nat → Int32) (J : Nat → Nat → Int64) (l1 : Int32) : zv_X10_rate_M_37 I J l1 = some (some (.int (-5)), (I, J)) := (zm_V_eq _ _ _).trans ((fun (k : zm_S → zm_R) => (rfl : zm_step zT_X10_rate zW_M k (37, [some (.ref 0), some (.int l1), none], [], (I, J)) = some (some (.int (-5)), (I, J)))) (zm_V zT_X10_rate zW_M))
set_option maxRecDepth 20000 in
theorem zq_X10_rate_M_40 (I : Nat → Nat → Int32) (J : Nat → Nat → Int64) (l1 : Int32) : zv_X10_rate_M_40 I J l1 = if (1 : Int32) < 0 ∨ 35 ≤ Int32.toNatClampNeg 1 then none else if (1 : Int32) < 0 ∨ 35 ≤ Int32.toNatClampNeg 1 then none else some (some (.int (I 7 (Int32.toNatClampNeg 1))), ((zm_w I 7 (Int32.toNatClampNeg 1) l1), J)) := (zm_V_eq _ _ _).trans ((fun (k : zm_S → zm_R) => (rfl : zm_step zT_X10_rate zW_M k (40, [some (.ref 0), some (.int l1), none], [], (I, J)) = if (1 : Int32) < 0 ∨ 35 ≤ Int32.toNatClampNeg 1 then none else if (1 : Int32) < 0 ∨ 35 ≤ Int32.toNatClampNeg 1 then none else some (some (.int (I 7 (Int32.toNatClampNeg 1))), ((zm_w I 7 (Int32.toNatClampNeg 1) l1), J)))) (zm_V zT_X10_rate zW_M))
theorem zf_X10_rate_M (I : Nat → Nat → Int32) (J : Nat → Nat → Int64) (l1 : Int32) : zF_X10_rate zW_M [.ref 0, .int l1] (I, J) = zv_X10_rate_M_0 I J l1 := rfl
noncomputable def zv_X10_count_M_0 (I : Nat → Nat → Int32) (J : Nat → Nat → Int64) (l1 : Int32) : zm_R := zm_V zT_X10_count zW_M (0, [some (.ref 0), some (.int l1), none, none], [], (I, J))
noncomputable def zv_X10_count_M_64 (I : Nat → Nat → Int32) (J : Nat → Nat → Int64) (l1 : Int32) (l2 : Int32) : zm_R := zm_V zT_X10_count zW_M (64, [some (.ref 0), some (.int l1), some (.int l2), none], [], (I, J))
noncomputable def zv_X10_count_M_68 (I : Nat → Nat → Int32) (J : Nat → Nat → Int64) (l1 : Int32) (l2 : Int32) (s0 : Int32) : zm_R := zm_V zT_X10_count zW_M (68, [some (.ref 0), some (.int l1), some (.int l2), none], [.int s0], (I, J))
noncomputable def zv_X10_count_M_69 (I : Nat → Nat → Int32) (J : Nat → Nat → Int64) (l1 : Int32) (l2 : Int32) : zm_R := zm_V zT_X10_count zW_M (69, [some (.ref 0), some (.int l1), some (.int l2), none], [], (I, J))
noncomputable def zv_X10_count_M_78 (I : Nat → Nat → Int32) (J : Nat → Nat → Int64) (l1 : Int32) (l2 : Int32) : zm_R := zm_V zT_X10_count zW_M (78, [some (.ref 0), some (.int l1), some (.int l2), none], [], (I, J))
noncomputable def zv_X10_count_M_85 (I : Nat → Nat → Int32) (J : Nat → Nat → Int64) (l1 : Int32) (l2 : Int32) : zm_R := zm_V zT_X10_count zW_M (85, [some (.ref 0), some (.int l1), some (.int l2), none], [], (I, J))
noncomputable def zv_X10_count_M_92 (I : Nat → Nat → Int32) (J : Nat → Nat → Int64) (l1 : Int32) (l2 : Int32) : zm_R := zm_V zT_X10_count zW_M (92, [some (.ref 0), some (.int l1), some (.int l2), none], [], (I, J))
noncomputable def zv_X10_count_M_97 (I : Nat → Nat → Int32) (J : Nat → Nat → Int64) (l1 : Int32) (l2 : Int32) : zm_R := zm_V zT_X10_count zW_M (97, [some (.ref 0), some (.int l1), some (.int l2), none], [], (I, J))
noncomputable def zv_X10_count_M_99 (I : Nat → Nat → Int32) (J : Nat → Nat → Int64) (l1 : Int32) (l2 : Int32) (l3 : Int32) : zm_R := zm_V zT_X10_count zW_M (99, [some (.ref 0), some (.int l1), some (.int l2), some (.int l3)], [], (I, J))
noncomputable def zv_X10_count_M_104 (I : Nat → Nat → Int32) (J : Nat → Nat → Int64) (l1 : Int32) (l2 : Int32) (l3 : Int32) : zm_R := zm_V zT_X10_count zW_M (104, [some (.ref 0), some (.int l1), some (.int l2), some (.int l3)], [], (I, J))
noncomputable def zv_X10_count_M_115 (I : Nat → Nat → Int32) (J : Nat → Nat → Int64) (l1 : Int32) (l2 : Int32) (l3 : Int32) (s0 : Int32) : zm_R := zm_V zT_X10_count zW_M (115, [some (.ref 0), some (.int l1), some (.int l2), some (.int l3)], [.int s0], (I, J))
noncomputable def zv_X10_count_M_119 (I : Nat → Nat → Int32) (J : Nat → Nat → Int64) (l1 : Int32) (l2 : Int32) (l3 : Int32) (s0 : Int32) : zm_R := zm_V zT_X10_count zW_M (119, [some (.ref 0), some (.int l1), some (.int l2), some (.int l3)], [.int s0], (I, J))
noncomputable def zv_X10_count_M_120 (I : Nat → Nat → Int32) (J : Nat → Nat → Int64) (l1 : Int32) (l2 : Int32) (l3 : Int32) (s0 : Int32) (s1 : Int32) : zm_R := zm_V zT_X10_count zW_M (120, [some (.ref 0), some (.int l1), some (.int l2), some (.int l3)], [.int s0, .int s1], (I, J))
noncomputable def zv_X10_count_M_128 (I : Nat → Nat → Int32) (J : Nat → Nat → Int64) (l1 : Int32) (l2 : Int32) (l3 : Int32) : zm_R := zm_V zT_X10_count zW_M (128, [some (.ref 0), some (.int l1), some (.int l2), some (.int l3)], [], (I, J))
noncomputable def zv_X10_count_M_130 (I : Nat → Nat → Int32) (J : Nat → Nat → Int64) (l1 : Int32) (l2 : Int32) : zm_R := zm_V zT_X10_count zW_M (130, [some (.ref 0), some (.int l1), some (.int l2), none], [], (I, J))
set_option maxRecDepth 20000 in
theorem zq_X10_count_M_0 (I : Nat → Nat → Int32) (J : Nat → Nat → Int64) (l1 : Int32) : zv_X10_count_M_0 I J l1 = zm_sw (zm_V zT_X10_count zW_M) 8 122 0 9 #[56, 61, 61, 61, 61, 70, 70, 77, 84, 89] [some (.ref 0), some (.int l1), some (.int 0), none] [.int l1] ((zm_w I 0 0 0), J) := (zm_V_eq _ _ _).trans ((fun (k : zm_S → zm_R) => (rfl : zm_step zT_X10_count zW_M k (0, [some (.ref 0), some (.int l1), none, none], [], (I, J)) = zm_sw k 8 122 0 9 #[56, 61, 61, 61, 61, 70, 70, 77, 84, 89] [some (.ref 0), some (.int l1), some (.int 0), none] [.int l1] ((zm_w I 0 0 0), J))) (zm_V zT_X10_count zW_M))
set_option maxRecDepth 20000 in
theorem zc_X10_count_M_64 (I : Nat → Nat → Int32) (J : Nat → Nat → Int64) (l1 : Int32) (l2 : Int32) {I2 : Nat → Nat → Int32} {J2 : Nat → Nat → Int64} {r : Int32} (hF : zF_X10_seats zW_M [.ref 0] (I, J) = some (some (.int r), (I2, J2))) : zv_X10_count_M_64 I J l1 l2 = zv_X10_count_M_68 I2 J2 l1 l2 r := by
  have e : ∀ k : zm_S → zm_R, zm_step zT_X10_count zW_M k (64, [some (.ref 0), some (.int l1), some (.int l2), none], [], (I, J)) = zm_app (1, some 10, true, [], zF_X10_seats) zW_M [.ref 0] (I, J) (fun v N => k (68, [some (.ref 0), some (.int l1), some (.int l2), none], v.toList ++ [], N)) := fun k => rfl
  have g := zm_app_s (C := (1, some 10, true, [], zF_X10_seats)) (wl := zW_M) (as := [.ref 0]) (M := (I, J)) (k := fun v N => zm_V zT_X10_count zW_M (68, [some (.ref 0), some (.int l1), some (.int l2), none], v.toList ++ [], N)) rfl rfl hF
  exact (zm_V_eq _ _ _).trans ((e _).trans g)
set_option maxRecDepth 20000 in
theorem zq_X10_count_M_68 (I : Nat → Nat → Int32) (J : Nat → Nat → Int64) (l1 : Int32) (l2 : Int32) (s0 : Int32) : zv_X10_count_M_68 I J l1 l2 s0 = some (some (.int s0), (I, J)) := (zm_V_eq _ _ _).trans ((fun (k : zm_S → zm_R) => (rfl : zm_step zT_X10_count zW_M k (68, [some (.ref 0), some (.int l1), some (.int l2), none], [.int s0], (I, J)) = some (some (.int s0), (I, J)))) (zm_V zT_X10_count zW_M))
set_option maxRecDepth 20000 in
theorem zq_X10_count_M_69 (I : Nat → Nat → Int32) (J : Nat → Nat → Int64) (l1 : Int32) (l2 : Int32) : zv_X10_count_M_69 I J l1 l2 = if ((l1 - 1) : Int32) < 0 ∨ 35 ≤ Int32.toNatClampNeg (l1 - 1) then none else some (some (.int (I 7 (Int32.toNatClampNeg (l1 - 1)))), (I, J)) := (zm_V_eq _ _ _).trans ((fun (k : zm_S → zm_R) => (rfl : zm_step zT_X10_count zW_M k (69, [some (.ref 0), some (.int l1), some (.int l2), none], [], (I, J)) = if ((l1 - 1) : Int32) < 0 ∨ 35 ≤ Int32.toNatClampNeg (l1 - 1) then none else some (some (.int (I 7 (Int32.toNatClampNeg (l1 - 1)))), (I, J)))) (zm_V zT_X10_count zW_M))
set_option maxRecDepth 20000 in
theorem zq_X10_count_M_78 (I : Nat → Nat → Int32) (J : Nat → Nat → Int64) (l1 : Int32) (l2 : Int32) : zv_X10_count_M_78 I J l1 l2 = if (l1 : Int32) < 0 ∨ 35 ≤ Int32.toNatClampNeg l1 then none else some (some (.int (I 7 (Int32.toNatClampNeg l1))), (I, J)) := (zm_V_eq _ _ _).trans ((fun (k : zm_S → zm_R) => (rfl : zm_step zT_X10_count zW_M k (78, [some (.ref 0), some (.int l1), some (.int l2), none], [], (I, J)) = if (l1 : Int32) < 0 ∨ 35 ≤ Int32.toNatClampNeg l1 then none else some (some (.int (I 7 (Int32.toNatClampNeg l1))), (I, J)))) (zm_V zT_X10_count zW_M))
set_option maxRecDepth 20000 in
theorem zq_X10_count_M_85 (I : Nat → Nat → Int32) (J : Nat → Nat → Int64) (l1 : Int32) (l2 : Int32) : zv_X10_count_M_85 I J l1 l2 = if (0 : Int32) < 0 ∨ 5 ≤ Int32.toNatClampNeg 0 then none else some (some (.int (I 6 (Int32.toNatClampNeg 0))), (I, J)) := (zm_V_eq _ _ _).trans ((fun (k : zm_S → zm_R) => (rfl : zm_step zT_X10_count zW_M k (85, [some (.ref 0), some (.int l1), some (.int l2), none], [], (I, J)) = if (0 : Int32) < 0 ∨ 5 ≤ Int32.toNatClampNeg 0 then none else some (some (.int (I 6 (Int32.toNatClampNeg 0))), (I, J)))) (zm_V zT_X10_count zW_M))
set_option maxRecDepth 20000 in
theorem zq_X10_count_M_92 (I : Nat → Nat → Int32) (J : Nat → Nat → Int64) (l1 : Int32) (l2 : Int32) : zv_X10_count_M_92 I J l1 l2 = some (some (.int (I 0 6)), (I, J)) := (zm_V_eq _ _ _).trans ((fun (k : zm_S → zm_R) => (rfl : zm_step zT_X10_count zW_M k (92, [some (.ref 0), some (.int l1), some (.int l2), none], [], (I, J)) = some (some (.int (I 0 6)), (I, J)))) (zm_V zT_X10_count zW_M))
set_option maxRecDepth 20000 in
theorem zq_X10_count_M_97 (I : Nat → Nat → Int32) (J : Nat → Nat → Int64) (l1 : Int32) (l2 : Int32) : zv_X10_count_M_97 I J l1 l2 = zv_X10_count_M_99 I J l1 l2 0 := (zm_V_eq _ _ _).trans ((fun (k : zm_S → zm_R) => (rfl : zm_step zT_X10_count zW_M k (97, [some (.ref 0), some (.int l1), some (.int l2), none], [], (I, J)) = k (99, [some (.ref 0), some (.int l1), some (.int l2), some (.int 0)], [], (I, J)))) (zm_V zT_X10_count zW_M))
set_option maxRecDepth 20000 in
theorem zq_X10_count_M_99 (I : Nat → Nat → Int32) (J : Nat → Nat → Int64) (l1 : Int32) (l2 : Int32) (l3 : Int32) : zv_X10_count_M_99 I J l1 l2 l3 = if 4 ≤ l3 then zv_X10_count_M_128 I J l1 l2 l3 else zv_X10_count_M_104 I J l1 l2 l3 := (zm_V_eq _ _ _).trans ((fun (k : zm_S → zm_R) => (rfl : zm_step zT_X10_count zW_M k (99, [some (.ref 0), some (.int l1), some (.int l2), some (.int l3)], [], (I, J)) = if 4 ≤ l3 then k (128, [some (.ref 0), some (.int l1), some (.int l2), some (.int l3)], [], (I, J)) else k (104, [some (.ref 0), some (.int l1), some (.int l2), some (.int l3)], [], (I, J)))) (zm_V zT_X10_count zW_M))
set_option maxRecDepth 20000 in
theorem zq_X10_count_M_104 (I : Nat → Nat → Int32) (J : Nat → Nat → Int64) (l1 : Int32) (l2 : Int32) (l3 : Int32) : zv_X10_count_M_104 I J l1 l2 l3 = if (l3 : Int32) < 0 ∨ 4 ≤ Int32.toNatClampNeg l3 then none else if (I 1 (Int32.toNatClampNeg l3)) = (-1) then zv_X10_count_M_115 I J l1 l2 l3 l2 else zv_X10_count_M_119 I J l1 l2 l3 l2 := (zm_V_eq _ _ _).trans ((fun (k : zm_S → zm_R) => (rfl : zm_step zT_X10_count zW_M k (104, [some (.ref 0), some (.int l1), some (.int l2), some (.int l3)], [], (I, J)) = if (l3 : Int32) < 0 ∨ 4 ≤ Int32.toNatClampNeg l3 then none else if (I 1 (Int32.toNatClampNeg l3)) = (-1) then k (115, [some (.ref 0), some (.int l1), some (.int l2), some (.int l3)], [.int l2], (I, J)) else k (119, [some (.ref 0), some (.int l1), some (.int l2), some (.int l3)], [.int l2], (I, J)))) (zm_V zT_X10_count zW_M))
set_option maxRecDepth 20000 in
theorem zq_X10_count_M_115 (I : Nat → Nat → Int32) (J : Nat → Nat → Int64) (l1 : Int32) (l2 : Int32) (l3 : Int32) (s0 : Int32) : zv_X10_count_M_115 I J l1 l2 l3 s0 = zv_X10_count_M_120 I J l1 l2 l3 0 s0 := (zm_V_eq _ _ _).trans ((fun (k : zm_S → zm_R) => (rfl : zm_step zT_X10_count zW_M k (115, [some (.ref 0), some (.int l1), some (.int l2), some (.int l3)], [.int s0], (I, J)) = k (120, [some (.ref 0), some (.int l1), some (.int l2), some (.int l3)], [.int 0, .int s0], (I, J)))) (zm_V zT_X10_count zW_M))
set_option maxRecDepth 20000 in
theorem zq_X10_count_M_119 (I : Nat → Nat → Int32) (J : Nat → Nat → Int64) (l1 : Int32) (l2 : Int32) (l3 : Int32) (s0 : Int32) : zv_X10_count_M_119 I J l1 l2 l3 s0 = zv_X10_count_M_120 I J l1 l2 l3 1 s0 := (zm_V_eq _ _ _).trans ((fun (k : zm_S → zm_R) => (rfl : zm_step zT_X10_count zW_M k (119, [some (.ref 0), some (.int l1), some (.int l2), some (.int l3)], [.int s0], (I, J)) = k (120, [some (.ref 0), some (.int l1), some (.int l2), some (.int l3)], [.int 1, .int s0], (I, J)))) (zm_V zT_X10_count zW_M))
set_option maxRecDepth 20000 in
theorem zq_X10_count_M_120 (I : Nat → Nat → Int32) (J : Nat → Nat → Int64) (l1 : Int32) (l2 : Int32) (l3 : Int32) (s0 : Int32) (s1 : Int32) : zv_X10_count_M_120 I J l1 l2 l3 s0 s1 = zv_X10_count_M_99 I J l1 (s1 + s0) (l3 + 1) := (zm_V_eq _ _ _).trans ((fun (k : zm_S → zm_R) => (rfl : zm_step zT_X10_count zW_M k (120, [some (.ref 0), some (.int l1), some (.int l2), some (.int l3)], [.int s0, .int s1], (I, J)) = k (99, [some (.ref 0), some (.int l1), some (.int (s1 + s0)), some (.int (l3 + 1))], [], (I, J)))) (zm_V zT_X10_count zW_M))
set_option maxRecDepth 20000 in
theorem zq_X10_count_M_128 (I : Nat → Nat → Int32) (J : Nat → Nat → Int64) (l1 : Int32) (l2 : Int32) (l3 : Int32) : zv_X10_count_M_128 I J l1 l2 l3 = some (some (.int l2), (I, J)) := (zm_V_eq _ _ _).trans ((fun (k : zm_S → zm_R) => (rfl : zm_step zT_X10_count zW_M k (128, [some (.ref 0), some (.int l1), some (.int l2), some (.int l3)], [], (I, J)) = some (some (.int l2), (I, J)))) (zm_V zT_X10_count zW_M))
set_option maxRecDepth 20000 in
theorem zq_X10_count_M_130 (I : Nat → Nat → Int32) (J : Nat → Nat → Int64) (l1 : Int32) (l2 : Int32) : zv_X10_count_M_130 I J l1 l2 = some (some (.int (-1)), (I, J)) := (zm_V_eq _ _ _).trans ((fun (k : zm_S → zm_R) => (rfl : zm_step zT_X10_count zW_M k (130, [some (.ref 0), some (.int l1), some (.int l2), none], [], (I, J)) = some (some (.int (-1)), (I, J)))) (zm_V zT_X10_count zW_M))
theorem zf_X10_count_M (I : Nat → Nat → Int32) (J : Nat → Nat → Int64) (l1 : Int32) : zF_X10_count zW_M [.ref 0, .int l1] (I, J) = zv_X10_count_M_0 I J l1 := rfl
noncomputable def zv_X10_move_M_0 (I : Nat → Nat → Int32) (J : Nat → Nat → Int64) (l1 : Int32) (l2 : Int32) (l3 : Int32) : zm_R := zm_V zT_X10_move zW_M (0, [some (.ref 0), some (.int l1), some (.int l2), some (.int l3), none], [], (I, J))
noncomputable def zv_X10_move_M_11 (I : Nat → Nat → Int32) (J : Nat → Nat → Int64) (l1 : Int32) (l2 : Int32) (l3 : Int32) (s0 : Int32) : zm_R := zm_V zT_X10_move zW_M (11, [some (.ref 0), some (.int l1), some (.int l2), some (.int l3), none], [.int s0], (I, J))
noncomputable def zv_X10_move_M_14 (I : Nat → Nat → Int32) (J : Nat → Nat → Int64) (l1 : Int32) (l2 : Int32) (l3 : Int32) : zm_R := zm_V zT_X10_move zW_M (14, [some (.ref 0), some (.int l1), some (.int l2), some (.int l3), none], [], (I, J))
noncomputable def zv_X10_move_M_20 (I : Nat → Nat → Int32) (J : Nat → Nat → Int64) (l1 : Int32) (l2 : Int32) (l3 : Int32) (s0 : Int32) : zm_R := zm_V zT_X10_move zW_M (20, [some (.ref 0), some (.int l1), some (.int l2), some (.int l3), none], [.int s0], (I, J))
noncomputable def zv_X10_move_M_23 (I : Nat → Nat → Int32) (J : Nat → Nat → Int64) (l1 : Int32) (l2 : Int32) (l3 : Int32) : zm_R := zm_V zT_X10_move zW_M (23, [some (.ref 0), some (.int l1), some (.int l2), some (.int l3), none], [], (I, J))
noncomputable def zv_X10_move_M_27 (I : Nat → Nat → Int32) (J : Nat → Nat → Int64) (l1 : Int32) (l2 : Int32) (l3 : Int32) (s0 : Int32) : zm_R := zm_V zT_X10_move zW_M (27, [some (.ref 0), some (.int l1), some (.int l2), some (.int l3), none], [.int s0], (I, J))
noncomputable def zv_X10_move_M_30 (I : Nat → Nat → Int32) (J : Nat → Nat → Int64) (l1 : Int32) (l2 : Int32) (l3 : Int32) : zm_R := zm_V zT_X10_move zW_M (30, [some (.ref 0), some (.int l1), some (.int l2), some (.int l3), none], [], (I, J))
noncomputable def zv_X10_move_M_33 (I : Nat → Nat → Int32) (J : Nat → Nat → Int64) (l1 : Int32) (l2 : Int32) (l3 : Int32) : zm_R := zm_V zT_X10_move zW_M (33, [some (.ref 0), some (.int l1), some (.int l2), some (.int l3), none], [], (I, J))
noncomputable def zv_X10_move_M_45 (I : Nat → Nat → Int32) (J : Nat → Nat → Int64) (l1 : Int32) (l2 : Int32) (l3 : Int32) : zm_R := zm_V zT_X10_move zW_M (45, [some (.ref 0), some (.int l1), some (.int l2), some (.int l3), none], [], (I, J))
noncomputable def zv_X10_move_M_48 (I : Nat → Nat → Int32) (J : Nat → Nat → Int64) (l1 : Int32) (l2 : Int32) (l3 : Int32) : zm_R := zm_V zT_X10_move zW_M (48, [some (.ref 0), some (.int l1), some (.int l2), some (.int l3), none], [], (I, J))
noncomputable def zv_X10_move_M_102 (I : Nat → Nat → Int32) (J : Nat → Nat → Int64) (l1 : Int32) (l2 : Int32) (l3 : Int32) (l4 : Int32) : zm_R := zm_V zT_X10_move zW_M (102, [some (.ref 0), some (.int l1), some (.int l2), some (.int l3), some (.int l4)], [], (I, J))
noncomputable def zv_X10_move_M_106 (I : Nat → Nat → Int32) (J : Nat → Nat → Int64) (l1 : Int32) (l2 : Int32) (l3 : Int32) (l4 : Int32) : zm_R := zm_V zT_X10_move zW_M (106, [some (.ref 0), some (.int l1), some (.int l2), some (.int l3), some (.int l4)], [], (I, J))
noncomputable def zv_X10_move_M_116 (I : Nat → Nat → Int32) (J : Nat → Nat → Int64) (l1 : Int32) (l2 : Int32) (l3 : Int32) (l4 : Int32) : zm_R := zm_V zT_X10_move zW_M (116, [some (.ref 0), some (.int l1), some (.int l2), some (.int l3), some (.int l4)], [], (I, J))
noncomputable def zv_X10_move_M_120 (I : Nat → Nat → Int32) (J : Nat → Nat → Int64) (l1 : Int32) (l2 : Int32) (l3 : Int32) (l4 : Int32) : zm_R := zm_V zT_X10_move zW_M (120, [some (.ref 0), some (.int l1), some (.int l2), some (.int l3), some (.int l4)], [], (I, J))
noncomputable def zv_X10_move_M_121 (I : Nat → Nat → Int32) (J : Nat → Nat → Int64) (l1 : Int32) (l2 : Int32) (l3 : Int32) (l4 : Int32) (s0 : Int32) : zm_R := zm_V zT_X10_move zW_M (121, [some (.ref 0), some (.int l1), some (.int l2), some (.int l3), some (.int l4)], [.int s0], (I, J))
set_option maxRecDepth 20000 in
theorem zc_X10_move_M_0 (I : Nat → Nat → Int32) (J : Nat → Nat → Int64) (l1 : Int32) (l2 : Int32) (l3 : Int32) {I2 : Nat → Nat → Int32} {J2 : Nat → Nat → Int64} {r : Int32} (hF : zF_X10_isCaller zW_M [.ref 0, .long (Int32.toInt64 l1)] ((zm_w I 0 0 0), J) = some (some (.int r), (I2, J2))) : zv_X10_move_M_0 I J l1 l2 l3 = zv_X10_move_M_11 I2 J2 l1 l2 l3 r := by
  have e : ∀ k : zm_S → zm_R, zm_step zT_X10_move zW_M k (0, [some (.ref 0), some (.int l1), some (.int l2), some (.int l3), none], [], (I, J)) = zm_app (2, some 10, true, [], zF_X10_isCaller) zW_M [.ref 0, .long (Int32.toInt64 l1)] ((zm_w I 0 0 0), J) (fun v N => k (11, [some (.ref 0), some (.int l1), some (.int l2), some (.int l3), none], v.toList ++ [], N)) := fun k => rfl
  have g := zm_app_s (C := (2, some 10, true, [], zF_X10_isCaller)) (wl := zW_M) (as := [.ref 0, .long (Int32.toInt64 l1)]) (M := ((zm_w I 0 0 0), J)) (k := fun v N => zm_V zT_X10_move zW_M (11, [some (.ref 0), some (.int l1), some (.int l2), some (.int l3), none], v.toList ++ [], N)) rfl rfl hF
  exact (zm_V_eq _ _ _).trans ((e _).trans g)
set_option maxRecDepth 20000 in
theorem zq_X10_move_M_11 (I : Nat → Nat → Int32) (J : Nat → Nat → Int64) (l1 : Int32) (l2 : Int32) (l3 : Int32) (s0 : Int32) : zv_X10_move_M_11 I J l1 l2 l3 s0 = if s0 = 0 then zv_X10_move_M_30 I J l1 l2 l3 else zv_X10_move_M_14 I J l1 l2 l3 := (zm_V_eq _ _ _).trans ((fun (k : zm_S → zm_R) => (rfl : zm_step zT_X10_move zW_M k (11, [some (.ref 0), some (.int l1), some (.int l2), some (.int l3), none], [.int s0], (I, J)) = if s0 = 0 then k (30, [some (.ref 0), some (.int l1), some (.int l2), some (.int l3), none], [], (I, J)) else k (14, [some (.ref 0), some (.int l1), some (.int l2), some (.int l3), none], [], (I, J)))) (zm_V zT_X10_move zW_M))
set_option maxRecDepth 20000 in
theorem zc_X10_move_M_14 (I : Nat → Nat → Int32) (J : Nat → Nat → Int64) (l1 : Int32) (l2 : Int32) (l3 : Int32) {I2 : Nat → Nat → Int32} {J2 : Nat → Nat → Int64} {r : Int32} (hF : zF_X10_isSeat zW_M [.ref 0, .long (Int32.toInt64 l2)] (I, J) = some (some (.int r), (I2, J2))) : zv_X10_move_M_14 I J l1 l2 l3 = zv_X10_move_M_20 I2 J2 l1 l2 l3 r := by
  have e : ∀ k : zm_S → zm_R, zm_step zT_X10_move zW_M k (14, [some (.ref 0), some (.int l1), some (.int l2), some (.int l3), none], [], (I, J)) = zm_app (2, some 10, true, [], zF_X10_isSeat) zW_M [.ref 0, .long (Int32.toInt64 l2)] (I, J) (fun v N => k (20, [some (.ref 0), some (.int l1), some (.int l2), some (.int l3), none], v.toList ++ [], N)) := fun k => rfl
  have g := zm_app_s (C := (2, some 10, true, [], zF_X10_isSeat)) (wl := zW_M) (as := [.ref 0, .long (Int32.toInt64 l2)]) (M := (I, J)) (k := fun v N => zm_V zT_X10_move zW_M (20, [some (.ref 0), some (.int l1), some (.int l2), some (.int l3), none], v.toList ++ [], N)) rfl rfl hF
  exact (zm_V_eq _ _ _).trans ((e _).trans g)
set_option maxRecDepth 20000 in
theorem zq_X10_move_M_20 (I : Nat → Nat → Int32) (J : Nat → Nat → Int64) (l1 : Int32) (l2 : Int32) (l3 : Int32) (s0 : Int32) : zv_X10_move_M_20 I J l1 l2 l3 s0 = if s0 = 0 then zv_X10_move_M_30 I J l1 l2 l3 else zv_X10_move_M_23 I J l1 l2 l3 := (zm_V_eq _ _ _).trans ((fun (k : zm_S → zm_R) => (rfl : zm_step zT_X10_move zW_M k (20, [some (.ref 0), some (.int l1), some (.int l2), some (.int l3), none], [.int s0], (I, J)) = if s0 = 0 then k (30, [some (.ref 0), some (.int l1), some (.int l2), some (.int l3), none], [], (I, J)) else k (23, [some (.ref 0), some (.int l1), some (.int l2), some (.int l3), none], [], (I, J)))) (zm_V zT_X10_move zW_M))
set_option maxRecDepth 20000 in
theorem zc_X10_move_M_23 (I : Nat → Nat → Int32) (J : Nat → Nat → Int64) (l1 : Int32) (l2 : Int32) (l3 : Int32) {I2 : Nat → Nat → Int32} {J2 : Nat → Nat → Int64} {r : Int32} (hF : zF_X10_isMinute zW_M [.int l3] (I, J) = some (some (.int r), (I2, J2))) : zv_X10_move_M_23 I J l1 l2 l3 = zv_X10_move_M_27 I2 J2 l1 l2 l3 r := by
  have e : ∀ k : zm_S → zm_R, zm_step zT_X10_move zW_M k (23, [some (.ref 0), some (.int l1), some (.int l2), some (.int l3), none], [], (I, J)) = zm_app (1, none, true, [], zF_X10_isMinute) zW_M [.int l3] (I, J) (fun v N => k (27, [some (.ref 0), some (.int l1), some (.int l2), some (.int l3), none], v.toList ++ [], N)) := fun k => rfl
  have g := zm_app_s (C := (1, none, true, [], zF_X10_isMinute)) (wl := zW_M) (as := [.int l3]) (M := (I, J)) (k := fun v N => zm_V zT_X10_move zW_M (27, [some (.ref 0), some (.int l1), some (.int l2), some (.int l3), none], v.toList ++ [], N)) rfl rfl hF
  exact (zm_V_eq _ _ _).trans ((e _).trans g)
set_option maxRecDepth 20000 in
theorem zq_X10_move_M_27 (I : Nat → Nat → Int32) (J : Nat → Nat → Int64) (l1 : Int32) (l2 : Int32) (l3 : Int32) (s0 : Int32) : zv_X10_move_M_27 I J l1 l2 l3 s0 = if s0 = 0 then zv_X10_move_M_30 I J l1 l2 l3 else zv_X10_move_M_33 I J l1 l2 l3 := (zm_V_eq _ _ _).trans ((fun (k : zm_S → zm_R) => (rfl : zm_step zT_X10_move zW_M k (27, [some (.ref 0), some (.int l1), some (.int l2), some (.int l3), none], [.int s0], (I, J)) = if s0 = 0 then k (30, [some (.ref 0), some (.int l1), some (.int l2), some (.int l3), none], [], (I, J)) else k (33, [some (.ref 0), some (.int l1), some (.int l2), some (.int l3), none], [], (I, J)))) (zm_V zT_X10_move zW_M))
set_option maxRecDepth 20000 in
theorem zq_X10_move_M_30 (I : Nat → Nat → Int32) (J : Nat → Nat → Int64) (l1 : Int32) (l2 : Int32) (l3 : Int32) : zv_X10_move_M_30 I J l1 l2 l3 = some (some (.int (-2)), (I, J)) := (zm_V_eq _ _ _).trans ((fun (k : zm_S → zm_R) => (rfl : zm_step zT_X10_move zW_M k (30, [some (.ref 0), some (.int l1), some (.int l2), some (.int l3), none], [], (I, J)) = some (some (.int (-2)), (I, J)))) (zm_V zT_X10_move zW_M))
set_option maxRecDepth 20000 in
theorem zq_X10_move_M_33 (I : Nat → Nat → Int32) (J : Nat → Nat → Int64) (l1 : Int32) (l2 : Int32) (l3 : Int32) : zv_X10_move_M_33 I J l1 l2 l3 = if (6 : Int32) < 0 ∨ 35 ≤ Int32.toNatClampNeg 6 then none else if (I 7 (Int32.toNatClampNeg 6)) = 40 then zv_X10_move_M_45 I J l1 l2 l3 else zv_X10_move_M_48 I J l1 l2 l3 := (zm_V_eq _ _ _).trans ((fun (k : zm_S → zm_R) => (rfl : zm_step zT_X10_move zW_M k (33, [some (.ref 0), some (.int l1), some (.int l2), some (.int l3), none], [], (I, J)) = if (6 : Int32) < 0 ∨ 35 ≤ Int32.toNatClampNeg 6 then none else if (I 7 (Int32.toNatClampNeg 6)) = 40 then k (45, [some (.ref 0), some (.int l1), some (.int l2), some (.int l3), none], [], (I, J)) else k (48, [some (.ref 0), some (.int l1), some (.int l2), some (.int l3), none], [], (I, J)))) (zm_V zT_X10_move zW_M))
set_option maxRecDepth 20000 in
theorem zq_X10_move_M_45 (I : Nat → Nat → Int32) (J : Nat → Nat → Int64) (l1 : Int32) (l2 : Int32) (l3 : Int32) : zv_X10_move_M_45 I J l1 l2 l3 = some (some (.int (-5)), (I, J)) := (zm_V_eq _ _ _).trans ((fun (k : zm_S → zm_R) => (rfl : zm_step zT_X10_move zW_M k (45, [some (.ref 0), some (.int l1), some (.int l2), some (.int l3), none], [], (I, J)) = some (some (.int (-5)), (I, J)))) (zm_V zT_X10_move zW_M))
set_option maxRecDepth 20000 in
theorem zq_X10_move_M_48 (I : Nat → Nat → Int32) (J : Nat → Nat → Int64) (l1 : Int32) (l2 : Int32) (l3 : Int32) : zv_X10_move_M_48 I J l1 l2 l3 = if (6 : Int32) < 0 ∨ 35 ≤ Int32.toNatClampNeg 6 then none else if ((3 * (I 7 (Int32.toNatClampNeg 6))) : Int32) < 0 ∨ 600 ≤ Int32.toNatClampNeg (3 * (I 7 (Int32.toNatClampNeg 6))) then none else if (((3 * (I 7 (Int32.toNatClampNeg 6))) + 1) : Int32) < 0 ∨ 600 ≤ Int32.toNatClampNeg ((3 * (I 7 (Int32.toNatClampNeg 6))) + 1) then none else if (((3 * (I 7 (Int32.toNatClampNeg 6))) + 2) : Int32) < 0 ∨ 600 ≤ Int32.toNatClampNeg ((3 * (I 7 (Int32.toNatClampNeg 6))) + 2) then none else if (6 : Int32) < 0 ∨ 35 ≤ Int32.toNatClampNeg 6 then none else if (6 : Int32) < 0 ∨ 35 ≤ Int32.toNatClampNeg 6 then none else zv_X10_move_M_102 (zm_w (zm_w (zm_w (zm_w I 10 (Int32.toNatClampNeg (3 * (I 7 (Int32.toNatClampNeg 6)))) l1) 10 (Int32.toNatClampNeg ((3 * (I 7 (Int32.toNatClampNeg 6))) + 1)) l2) 10 (Int32.toNatClampNeg ((3 * (I 7 (Int32.toNatClampNeg 6))) + 2)) l3) 7 (Int32.toNatClampNeg 6) (((zm_w (zm_w (zm_w I 10 (Int32.toNatClampNeg (3 * (I 7 (Int32.toNatClampNeg 6)))) l1) 10 (Int32.toNatClampNeg ((3 * (I 7 (Int32.toNatClampNeg 6))) + 1)) l2) 10 (Int32.toNatClampNeg ((3 * (I 7 (Int32.toNatClampNeg 6))) + 2)) l3) 7 (Int32.toNatClampNeg 6)) + 1)) J l1 l2 l3 (I 7 (Int32.toNatClampNeg 6)) := (zm_V_eq _ _ _).trans ((fun (k : zm_S → zm_R) => (rfl : zm_step zT_X10_move zW_M k (48, [some (.ref 0), some (.int l1), some (.int l2), some (.int l3), none], [], (I, J)) = if (6 : Int32) < 0 ∨ 35 ≤ Int32.toNatClampNeg 6 then none else if ((3 * (I 7 (Int32.toNatClampNeg 6))) : Int32) < 0 ∨ 600 ≤ Int32.toNatClampNeg (3 * (I 7 (Int32.toNatClampNeg 6))) then none else if (((3 * (I 7 (Int32.toNatClampNeg 6))) + 1) : Int32) < 0 ∨ 600 ≤ Int32.toNatClampNeg ((3 * (I 7 (Int32.toNatClampNeg 6))) + 1) then none else if (((3 * (I 7 (Int32.toNatClampNeg 6))) + 2) : Int32) < 0 ∨ 600 ≤ Int32.toNatClampNeg ((3 * (I 7 (Int32.toNatClampNeg 6))) + 2) then none else if (6 : Int32) < 0 ∨ 35 ≤ Int32.toNatClampNeg 6 then none else if (6 : Int32) < 0 ∨ 35 ≤ Int32.toNatClampNeg 6 then none else k (102, [some (.ref 0), some (.int l1), some (.int l2), some (.int l3), some (.int (I 7 (Int32.toNatClampNeg 6)))], [], ((zm_w (zm_w (zm_w (zm_w I 10 (Int32.toNatClampNeg (3 * (I 7 (Int32.toNatClampNeg 6)))) l1) 10 (Int32.toNatClampNeg ((3 * (I 7 (Int32.toNatClampNeg 6))) + 1)) l2) 10 (Int32.toNatClampNeg ((3 * (I 7 (Int32.toNatClampNeg 6))) + 2)) l3) 7 (Int32.toNatClampNeg 6) (((zm_w (zm_w (zm_w I 10 (Int32.toNatClampNeg (3 * (I 7 (Int32.toNatClampNeg 6)))) l1) 10 (Int32.toNatClampNeg ((3 * (I 7 (Int32.toNatClampNeg 6))) + 1)) l2) 10 (Int32.toNatClampNeg ((3 * (I 7 (Int32.toNatClampNeg 6))) + 2)) l3) 7 (Int32.toNatClampNeg 6)) + 1)), J)))) (zm_V zT_X10_move zW_M))
set_option maxRecDepth 20000 in
theorem zc_X10_move_M_102 (I : Nat → Nat → Int32) (J : Nat → Nat → Int64) (l1 : Int32) (l2 : Int32) (l3 : Int32) (l4 : Int32) {I2 : Nat → Nat → Int32} {J2 : Nat → Nat → Int64} (hF : zF_X10_laysNow zW_M [.ref 0] (I, J) = some (none, (I2, J2))) : zv_X10_move_M_102 I J l1 l2 l3 l4 = zv_X10_move_M_106 I2 J2 l1 l2 l3 l4 := by
  have e : ∀ k : zm_S → zm_R, zm_step zT_X10_move zW_M k (102, [some (.ref 0), some (.int l1), some (.int l2), some (.int l3), some (.int l4)], [], (I, J)) = zm_app (1, some 10, true, [], zF_X10_laysNow) zW_M [.ref 0] (I, J) (fun v N => k (106, [some (.ref 0), some (.int l1), some (.int l2), some (.int l3), some (.int l4)], v.toList ++ [], N)) := fun k => rfl
  have g := zm_app_s (C := (1, some 10, true, [], zF_X10_laysNow)) (wl := zW_M) (as := [.ref 0]) (M := (I, J)) (k := fun v N => zm_V zT_X10_move zW_M (106, [some (.ref 0), some (.int l1), some (.int l2), some (.int l3), some (.int l4)], v.toList ++ [], N)) rfl rfl hF
  exact (zm_V_eq _ _ _).trans ((e _).trans g)
set_option maxRecDepth 20000 in
theorem zq_X10_move_M_106 (I : Nat → Nat → Int32) (J : Nat → Nat → Int64) (l1 : Int32) (l2 : Int32) (l3 : Int32) (l4 : Int32) : zv_X10_move_M_106 I J l1 l2 l3 l4 = if (l4 : Int32) < 0 ∨ 40 ≤ Int32.toNatClampNeg l4 then none else if (I 20 (Int32.toNatClampNeg l4)) = 0 then zv_X10_move_M_120 I J l1 l2 l3 l4 else zv_X10_move_M_116 I J l1 l2 l3 l4 := (zm_V_eq _ _ _).trans ((fun (k : zm_S → zm_R) => (rfl : zm_step zT_X10_move zW_M k (106, [some (.ref 0), some (.int l1), some (.int l2), some (.int l3), some (.int l4)], [], (I, J)) = if (l4 : Int32) < 0 ∨ 40 ≤ Int32.toNatClampNeg l4 then none else if (I 20 (Int32.toNatClampNeg l4)) = 0 then k (120, [some (.ref 0), some (.int l1), some (.int l2), some (.int l3), some (.int l4)], [], (I, J)) else k (116, [some (.ref 0), some (.int l1), some (.int l2), some (.int l3), some (.int l4)], [], (I, J)))) (zm_V zT_X10_move zW_M))
set_option maxRecDepth 20000 in
theorem zq_X10_move_M_116 (I : Nat → Nat → Int32) (J : Nat → Nat → Int64) (l1 : Int32) (l2 : Int32) (l3 : Int32) (l4 : Int32) : zv_X10_move_M_116 I J l1 l2 l3 l4 = zv_X10_move_M_121 I J l1 l2 l3 l4 1 := (zm_V_eq _ _ _).trans ((fun (k : zm_S → zm_R) => (rfl : zm_step zT_X10_move zW_M k (116, [some (.ref 0), some (.int l1), some (.int l2), some (.int l3), some (.int l4)], [], (I, J)) = k (121, [some (.ref 0), some (.int l1), some (.int l2), some (.int l3), some (.int l4)], [.int 1], (I, J)))) (zm_V zT_X10_move zW_M))
set_option maxRecDepth 20000 in
theorem zq_X10_move_M_120 (I : Nat → Nat → Int32) (J : Nat → Nat → Int64) (l1 : Int32) (l2 : Int32) (l3 : Int32) (l4 : Int32) : zv_X10_move_M_120 I J l1 l2 l3 l4 = zv_X10_move_M_121 I J l1 l2 l3 l4 0 := (zm_V_eq _ _ _).trans ((fun (k : zm_S → zm_R) => (rfl : zm_step zT_X10_move zW_M k (120, [some (.ref 0), some (.int l1), some (.int l2), some (.int l3), some (.int l4)], [], (I, J)) = k (121, [some (.ref 0), some (.int l1), some (.int l2), some (.int l3), some (.int l4)], [.int 0], (I, J)))) (zm_V zT_X10_move zW_M))
set_option maxRecDepth 20000 in
theorem zq_X10_move_M_121 (I : Nat → Nat → Int32) (J : Nat → Nat → Int64) (l1 : Int32) (l2 : Int32) (l3 : Int32) (l4 : Int32) (s0 : Int32) : zv_X10_move_M_121 I J l1 l2 l3 l4 s0 = some (some (.int s0), (I, J)) := (zm_V_eq _ _ _).trans ((fun (k : zm_S → zm_R) => (rfl : zm_step zT_X10_move zW_M k (121, [some (.ref 0), some (.int l1), some (.int l2), some (.int l3), some (.int l4)], [.int s0], (I, J)) = some (some (.int s0), (I, J)))) (zm_V zT_X10_move zW_M))
theorem zf_X10_move_M (I : Nat → Nat → Int32) (J : Nat → Nat → Int64) (l1 : Int32) (l2 : Int32) (l3 : Int32) : zF_X10_move zW_M [.ref 0, .int l1, .int l2, .int l3] (I, J) = zv_X10_move_M_0 I J l1 l2 l3 := rfl
noncomputable def zv_X10_isMinute_M_0 (I : Nat → Nat → Int32) (J : Nat → Nat → Int64) (l0 : Int32) : zm_R := zm_V zT_X10_isMinute zW_M (0, [some (.int l0)], [], (I, J))
noncomputable def zv_X10_isMinute_M_9 (I : Nat → Nat → Int32) (J : Nat → Nat → Int64) (l0 : Int32) (s0 : Int32) : zm_R := zm_V zT_X10_isMinute zW_M (9, [some (.int l0)], [.int s0], (I, J))
set_option maxRecDepth 20000 in
theorem zc_X10_isMinute_M_0 (I : Nat → Nat → Int32) (J : Nat → Nat → Int64) (l0 : Int32) {I2 : Nat → Nat → Int32} {J2 : Nat → Nat → Int64} {r : Int32} (hF : zF_X10_in zW_M [.long (Int32.toInt64 l0), .long 0, .long (60)] (I, J) = some (some (.int r), (I2, J2))) : zv_X10_isMinute_M_0 I J l0 = zv_X10_isMinute_M_9 I2 J2 l0 r := by
  have e : ∀ k : zm_S → zm_R, zm_step zT_X10_isMinute zW_M k (0, [some (.int l0)], [], (I, J)) = zm_app (3, none, true, [], zF_X10_in) zW_M [.long (Int32.toInt64 l0), .long 0, .long (60)] (I, J) (fun v N => k (9, [some (.int l0)], v.toList ++ [], N)) := fun k => rfl
  have g := zm_app_s (C := (3, none, true, [], zF_X10_in)) (wl := zW_M) (as := [.long (Int32.toInt64 l0), .long 0, .long (60)]) (M := (I, J)) (k := fun v N => zm_V zT_X10_isMinute zW_M (9, [some (.int l0)], v.toList ++ [], N)) rfl rfl hF
  exact (zm_V_eq _ _ _).trans ((e _).trans g)
set_option maxRecDepth 20000 in
theorem zq_X10_isMinute_M_9 (I : Nat → Nat → Int32) (J : Nat → Nat → Int64) (l0 : Int32) (s0 : Int32) : zv_X10_isMinute_M_9 I J l0 s0 = if s0 = 0 ∨ s0 = 1 then some (some (.int s0), (I, J)) else none := (zm_V_eq _ _ _).trans ((fun (k : zm_S → zm_R) => (rfl : zm_step zT_X10_isMinute zW_M k (9, [some (.int l0)], [.int s0], (I, J)) = if s0 = 0 ∨ s0 = 1 then some (some (.int s0), (I, J)) else none)) (zm_V zT_X10_isMinute zW_M))
theorem zf_X10_isMinute_M (I : Nat → Nat → Int32) (J : Nat → Nat → Int64) (l0 : Int32) : zF_X10_isMinute zW_M [.int l0] (I, J) = zv_X10_isMinute_M_0 I J l0 := rfl
end
section
/-! WHAT EACH CALL MAY WRITE, by name (printed by program, wip/law/genloop.py) -/
abbrev WX_feed : zt_W := zi_2_K.2.2.1
abbrev WM_feed : zt_W := zi_252_K.2.2.1 ++ (zi_253_K.2.2.1)
abbrev WX_end : zt_W := zi_3_K.2.2.1
abbrev WM_end : zt_W := zi_255_K.2.2.1 ++ (zi_256_K.2.2.1)
abbrev WX_bench : zt_W := zi_55_K.2.2.1
abbrev WM_bench : zt_W := zi_376_K.2.2.1 ++ (zi_407_K.2.2.1)
abbrev WX_fault : zt_W := zi_56_K.2.2.1
abbrev WM_fault : zt_W := zi_408_K.2.2.1 ++ (zi_409_K.2.2.1)
abbrev WX_seat : zt_W := zi_58_K.2.2.1
abbrev WM_seat : zt_W := zi_413_K.2.2.1 ++ (zi_416_K.2.2.1)
abbrev WX_caller : zt_W := zi_60_K.2.2.1
abbrev WM_caller : zt_W := zi_419_K.2.2.1 ++ (zi_424_K.2.2.1)
abbrev WX_age : zt_W := zi_80_K.2.2.1
abbrev WM_age : zt_W := zi_425_K.2.2.1 ++ (zi_442_K.2.2.1)
abbrev WX_sits : zt_W := zi_82_K.2.2.1
abbrev WM_sits : zt_W := zi_443_K.2.2.1 ++ (zi_444_K.2.2.1)
abbrev WX_stands : zt_W := zi_87_K.2.2.1
abbrev WM_stands : zt_W := zi_447_K.2.2.1 ++ (zi_458_K.2.2.1)
abbrev WX_free : zt_W := zi_88_K.2.2.1
abbrev WM_free : zt_W := zi_459_K.2.2.1 ++ (zi_460_K.2.2.1)
abbrev WX_goes : zt_W := zi_89_K.2.2.1
abbrev WM_goes : zt_W := zi_461_K.2.2.1 ++ (zi_462_K.2.2.1)
abbrev WX_called : zt_W := zi_90_K.2.2.1
abbrev WM_called : zt_W := zi_463_K.2.2.1 ++ (zi_464_K.2.2.1)
abbrev WX_ends : zt_W := zi_92_K.2.2.1
abbrev WM_ends : zt_W := zi_465_K.2.2.1 ++ (zi_467_K.2.2.1)
abbrev WX_told : zt_W := zi_94_K.2.2.1
abbrev WM_told : zt_W := zi_468_K.2.2.1 ++ (zi_471_K.2.2.1)
abbrev WX_forgotten : zt_W := zi_96_K.2.2.1
abbrev WM_forgotten : zt_W := zi_472_K.2.2.1 ++ (zi_473_K.2.2.1)
abbrev WX_gun : zt_W := zi_97_K.2.2.1
abbrev WM_gun : zt_W := zi_474_K.2.2.1 ++ (zi_475_K.2.2.1)
abbrev WX_waits : zt_W := zi_98_K.2.2.1
abbrev WM_waits : zt_W := zi_476_K.2.2.1 ++ (zi_477_K.2.2.1)
abbrev WX_worn : zt_W := zi_100_K.2.2.1
abbrev WM_worn : zt_W := zi_478_K.2.2.1 ++ (zi_479_K.2.2.1)
abbrev WX_dip : zt_W := zi_102_K.2.2.1
abbrev WM_dip : zt_W := zi_480_K.2.2.1 ++ (zi_482_K.2.2.1)
abbrev WX_deepest : zt_W := zi_104_K.2.2.1
abbrev WM_deepest : zt_W := zi_483_K.2.2.1 ++ (zi_484_K.2.2.1)
abbrev WX_youngest : zt_W := zi_106_K.2.2.1
abbrev WM_youngest : zt_W := zi_485_K.2.2.1 ++ (zi_487_K.2.2.1)
abbrev WX_oldest : zt_W := zi_107_K.2.2.1
abbrev WM_oldest : zt_W := zi_488_K.2.2.1 ++ (zi_489_K.2.2.1)
abbrev WX_meets : zt_W := zi_109_K.2.2.1
abbrev WM_meets : zt_W := zi_490_K.2.2.1 ++ (zi_493_K.2.2.1)
abbrev WX_ripe : zt_W := zi_112_K.2.2.1
abbrev WM_ripe : zt_W := zi_494_K.2.2.1 ++ (zi_497_K.2.2.1)
abbrev WX_window : zt_W := zi_113_K.2.2.1
abbrev WM_window : zt_W := zi_498_K.2.2.1 ++ (zi_499_K.2.2.1)
abbrev WX_misses : zt_W := zi_114_K.2.2.1
abbrev WM_misses : zt_W := zi_500_K.2.2.1 ++ (zi_501_K.2.2.1)
abbrev WX_grown : zt_W := zi_115_K.2.2.1
abbrev WM_grown : zt_W := zi_502_K.2.2.1 ++ (zi_503_K.2.2.1)
abbrev WX_beside : zt_W := zi_116_K.2.2.1
abbrev WM_beside : zt_W := zi_504_K.2.2.1 ++ (zi_505_K.2.2.1)
abbrev WX_crowd : zt_W := zi_117_K.2.2.1
abbrev WM_crowd : zt_W := zi_506_K.2.2.1 ++ (zi_508_K.2.2.1)
abbrev WX_next : zt_W := zi_118_K.2.2.1
abbrev WM_next : zt_W := zi_509_K.2.2.1 ++ (zi_510_K.2.2.1)
abbrev WX_years : zt_W := zi_119_K.2.2.1
abbrev WM_years : zt_W := zi_511_K.2.2.1 ++ (zi_512_K.2.2.1)
abbrev WX_last : zt_W := zi_120_K.2.2.1
abbrev WM_last : zt_W := zi_513_K.2.2.1 ++ (zi_514_K.2.2.1)
abbrev WX_twins : zt_W := zi_121_K.2.2.1
abbrev WM_twins : zt_W := zi_515_K.2.2.1 ++ (zi_516_K.2.2.1)
abbrev WX_opens : zt_W := zi_122_K.2.2.1
abbrev WM_opens : zt_W := zi_517_K.2.2.1 ++ (zi_518_K.2.2.1)
abbrev WX_without : zt_W := zi_125_K.2.2.1
abbrev WM_without : zt_W := zi_519_K.2.2.1 ++ (zi_523_K.2.2.1)
abbrev WX_helps : zt_W := zi_126_K.2.2.1
abbrev WM_helps : zt_W := zi_524_K.2.2.1 ++ (zi_526_K.2.2.1)
abbrev WX_less : zt_W := zi_127_K.2.2.1
abbrev WM_less : zt_W := zi_527_K.2.2.1 ++ (zi_529_K.2.2.1)
abbrev WX_tuned : zt_W := zi_129_K.2.2.1
abbrev WM_tuned : zt_W := zi_530_K.2.2.1 ++ (zi_532_K.2.2.1)
abbrev WX_moved : zt_W := zi_132_K.2.2.1
abbrev WM_moved : zt_W := zi_533_K.2.2.1 ++ (zi_534_K.2.2.1)
abbrev WX_suits : zt_W := zi_133_K.2.2.1
abbrev WM_suits : zt_W := zi_535_K.2.2.1 ++ (zi_536_K.2.2.1)
abbrev WX_hour : zt_W := zi_134_K.2.2.1
abbrev WM_hour : zt_W := zi_537_K.2.2.1 ++ (zi_538_K.2.2.1)
abbrev WX_youth : zt_W := zi_135_K.2.2.1
abbrev WM_youth : zt_W := zi_539_K.2.2.1 ++ (zi_540_K.2.2.1)
abbrev WX_best : zt_W := zi_146_K.2.2.1
abbrev WM_best : zt_W := zi_541_K.2.2.1 ++ (zi_605_K.2.2.1)
abbrev WX_plan : zt_W := zi_147_K.2.2.1
abbrev WM_plan : zt_W := zi_606_K.2.2.1 ++ (zi_609_K.2.2.1)
abbrev WX_ways : zt_W := zi_148_K.2.2.1
abbrev WM_ways : zt_W := zi_610_K.2.2.1 ++ (zi_611_K.2.2.1)
abbrev WX_every : zt_W := zi_151_K.2.2.1
abbrev WM_every : zt_W := zi_612_K.2.2.1 ++ (zi_614_K.2.2.1)
abbrev WX_calls : zt_W := zi_154_K.2.2.1
abbrev WM_calls : zt_W := zi_615_K.2.2.1 ++ (zi_616_K.2.2.1)
abbrev WX_none : zt_W := zi_155_K.2.2.1
abbrev WM_none : zt_W := zi_617_K.2.2.1 ++ (zi_618_K.2.2.1)
abbrev WX_by : zt_W := zi_156_K.2.2.1
abbrev WM_by : zt_W := zi_620_K.2.2.1 ++ (zi_623_K.2.2.1)
abbrev WX_law : zt_W := zi_157_K.2.2.1
abbrev WM_law : zt_W := zi_624_K.2.2.1 ++ (zi_626_K.2.2.1)
abbrev WX_laws : zt_W := zi_168_K.2.2.1
abbrev WM_laws : zt_W := zi_628_K.2.2.1 ++ (zi_634_K.2.2.1)
abbrev WX_sat : zt_W := zi_173_K.2.2.1
abbrev WM_sat : zt_W := zi_636_K.2.2.1 ++ (zi_643_K.2.2.1)
abbrev WX_ask : zt_W := zi_175_K.2.2.1
abbrev WM_ask : zt_W := zi_644_K.2.2.1 ++ (zi_645_K.2.2.1)
abbrev WX_marks : zt_W := zi_177_K.2.2.1
abbrev WM_marks : zt_W := zi_647_K.2.2.1 ++ (zi_649_K.2.2.1)
abbrev WX_mark : zt_W := zi_178_K.2.2.1
abbrev WM_mark : zt_W := zi_650_K.2.2.1 ++ (zi_651_K.2.2.1)
abbrev WX_under : zt_W := zi_180_K.2.2.1
abbrev WM_under : zt_W := zi_652_K.2.2.1 ++ (zi_653_K.2.2.1)
abbrev WX_rests : zt_W := zi_184_K.2.2.1
abbrev WM_rests : zt_W := zi_655_K.2.2.1 ++ (zi_659_K.2.2.1)
abbrev WX_rest : zt_W := zi_185_K.2.2.1
abbrev WM_rest : zt_W := zi_660_K.2.2.1 ++ (zi_661_K.2.2.1)
abbrev WX_swaps : zt_W := zi_187_K.2.2.1
abbrev WM_swaps : zt_W := zi_662_K.2.2.1 ++ (zi_665_K.2.2.1)
abbrev WX_swap : zt_W := zi_188_K.2.2.1
abbrev WM_swap : zt_W := zi_666_K.2.2.1 ++ (zi_667_K.2.2.1)
abbrev WX_chance : zt_W := zi_221_K.2.2.1
abbrev WM_chance : zt_W := zi_669_K.2.2.1 ++ (zi_687_K.2.2.1)
abbrev WX_luckily : zt_W := zi_223_K.2.2.1
abbrev WM_luckily : zt_W := zi_688_K.2.2.1 ++ (zi_689_K.2.2.1)
abbrev WX_mean : zt_W := zi_225_K.2.2.1
abbrev WM_mean : zt_W := zi_690_K.2.2.1 ++ (zi_692_K.2.2.1)
abbrev WX_move : zt_W := zi_226_K.2.2.1
abbrev WM_move : zt_W := zi_693_K.2.2.1 ++ (zi_694_K.2.2.1)
abbrev WX_undo : zt_W := zi_228_K.2.2.1
abbrev WM_undo : zt_W := zi_695_K.2.2.1 ++ (zi_696_K.2.2.1)
abbrev WX_anew : zt_W := zi_229_K.2.2.1
abbrev WM_anew : zt_W := zi_697_K.2.2.1 ++ (zi_698_K.2.2.1)
abbrev WX_drawn : zt_W := zi_233_K.2.2.1
abbrev WM_drawn : zt_W := zi_699_K.2.2.1 ++ (zi_703_K.2.2.1)
abbrev WX_luck : zt_W := zi_236_K.2.2.1
abbrev WM_luck : zt_W := zi_705_K.2.2.1 ++ (zi_707_K.2.2.1)
abbrev WX_rate : zt_W := zi_237_K.2.2.1
abbrev WM_rate : zt_W := zi_708_K.2.2.1 ++ (zi_709_K.2.2.1)
abbrev WX_count : zt_W := zi_240_K.2.2.1
abbrev WM_count : zt_W := zi_710_K.2.2.1 ++ (zi_711_K.2.2.1)
abbrev WM_image : zt_W := zi_739_K.2.2.1
abbrev WM_back : zt_W := zi_824_K.2.2.1
abbrev WX_row : zt_W := zi_243_K.2.2.1
abbrev WM_row : zt_W := zi_713_K.2.2.1 ++ (zi_714_K.2.2.1)
abbrev WX_write : zt_W := zi_245_K.2.2.1
abbrev WM_write : zt_W := zi_717_K.2.2.1 ++ (zi_718_K.2.2.1)
abbrev WX_paste : zt_W := zi_246_K.2.2.1
abbrev WM_paste : zt_W := zi_719_K.2.2.1
def zy_o2 (ks : List Nat) (M : zm_I) (FX FM : zm_L → List Value → zm_I → zm_R) (aX aM : List Value) (x y : Value) (N1 N2 : zm_I) : Prop := FX zW_X (.ref 0 :: aX) (zm_sub2 [(0, 164)] M) = some (some x, N1) ∧ FM zW_M (.ref 0 :: aM) (zm_sub2 [(165, 31)] (zm_mrg [(0, 164)] M N1)) = some (some y, N2)
end
section
/-! WHAT A CALL ANSWERS, by the box in which its arguments lie -/
theorem zg_v {ls : List (Option Value)} {M : zm_I} {s : Nat → Int} {x : Int32} {lo hi : Int} (h1 : lo ≤ x.toInt) (h2 : x.toInt ≤ hi) : zt_v ls M s (zj lo hi) (.int x) := ⟨x, rfl, ⟨h1, h2, ⟨_, (Int.one_mul _).symm⟩⟩, zt_nms_nil _⟩
def zg_is (O : List zt_O) (c : Int) : Bool := O.all (fun o => match o.1 with
  | some a => Nat.beq a.1 0 && zt_eq a.2.1 c && zt_eq a.2.2.1 c
  | none => false)
theorem zg_val {K : zq_K} {F : zm_L → List Value → zm_I → zm_R} {w0 : zm_L} {G : zt_G} (hcon : zt_Con zo_Om (zo_Rel 0) (zo_hd, K) F) (hOm : zo_Om[K.1]? = some (w0, G)) (hf : K.2.1.2.2 = []) (c : Int) (hc : zg_is K.2.2.2 c = true) {as : List Value} {M : zm_I} (hs : zt_sts [] M (fun _ => 0) K.2.1.1 as) (hp : ∀ q ∈ K.2.1.2.1, zt_cs (zm_sl as) M q) (hG : zt_Gs G M) {x : Int32} {N : zm_I} (h : F w0 as M = some (some (.int x), N)) : x.toInt = c := by
  obtain ⟨v, N2, h1, -, -, o, h4, h5⟩ := zp_get hcon hOm hf hs hp hG
  rw [h] at h1
  cases h1
  have hq := List.all_eq_true.mp hc o h4
  obtain ⟨o1, o2⟩ := o
  have hr := h5.1
  cases o1 with
  | none => cases hq
  | some a =>
    simp only [Bool.and_eq_true, zt_eq_ok] at hq
    obtain ⟨w, hw, hv⟩ := hr
    obtain ⟨z, hz, hr2, -⟩ := zt_v_int hv (Nat.eq_of_beq_eq_true hq.1.1)
    rw [hz] at hw
    cases hw
    have e1 := hr2.1
    have e2 := hr2.2.1
    rw [hq.1.2] at e1
    rw [hq.2] at e2
    exact Int.le_antisymm e2 e1
theorem zg_bd (a : Int32) : (-2147483648 : Int) ≤ a.toInt ∧ a.toInt ≤ 2147483647 := zt_rgI a
end
section
/-! IMAGE: its tables (printed by program, wip/law/genlaw.py) -/
def zA_img : List (Nat × Instr × Nat × Nat) := [(0, (.iload_n 1, 0, 0)), (1, (.ifCond .lt 8, 0, 0)), (4, (.iload_n 1, 0, 0)), (5, (.iconst 3, 0, 0)), (6, (.if_icmp .lt 6, 0, 0)), (9, (.bipush (-2), 0, 0)), (11, (.ireturn, 0, 0)), (12, (.aload_n 0, 0, 0)), (13, (.getfield 26, 9, 3)), (16, (.iload_n 1, 0, 0)), (17, (.aaload, 0, 0)), (18, (.astore_n 2, 0, 0)), (19, (.aload_n 2, 0, 0)), (20, (.ifnonnull 18, 0, 0)), (23, (.new 16, 0, 0)), (26, (.dup, 0, 0)), (27, (.invokespecial 18, 1, 0)), (30, (.astore_n 2, 0, 0)), (31, (.aload_n 0, 0, 0)), (32, (.getfield 26, 9, 3)), (35, (.iload_n 1, 0, 0)), (36, (.aload_n 2, 0, 0)), (37, (.aastore, 0, 0))]
def zw_img : List (Nat × List (Nat × Jvm.Cond)) := [(1, [(3, .initialized RX0), (60, .classLink RX9 16 RX0), (61, .instantiable RX0 17)]), (2, [(120, .fieldLink RX9 26 "WearingBench" "images" "[LWearingBench$Bench;")])]
theorem zk_img : zm_walks zw_img = true := by decide +kernel
def zU_img : zn_T := (zA_img, [(18, (zN_X0_init, 9, 154))], 10, 171)
def zR_img : Room := { frames := 3, cells := 10, slots := 171, locals := 100 }
theorem zx_img (l : Launch) : zn_ok l zR_img RX9 cX9_image zU_img := zn_ok_of zk_img (by decide +kernel) ⟨zn_callok_of (zo_X0_init l) rfl rfl ⟨Nat.le_of_ble_eq_true rfl, Nat.le_of_ble_eq_true rfl⟩ (zm_cw 1 64 rfl rfl) (Or.inr (by decide +kernel)) (zo_X0_init_w.1) (zo_X0_init_w.2) rfl ⟨by decide, by decide, by decide +kernel⟩, trivial⟩ ⟨Nat.le_of_ble_eq_true rfl, Nat.le_of_ble_eq_true rfl⟩
def zB_im : List (Nat × List (Instr × Nat × Nat)) := [(0, [(.iload_n 1, 0, 0), (.ifCond .lt 8, 0, 0)]), (4, [(.iload_n 1, 0, 0), (.iconst 3, 0, 0), (.if_icmp .lt 6, 0, 0)]), (9, [(.bipush (-2), 0, 0), (.ireturn, 0, 0)]), (12, [(.aload_n 0, 0, 0), (.getfield 26, 9, 3), (.iload_n 1, 0, 0), (.aaload, 0, 0), (.astore_n 2, 0, 0), (.aload_n 2, 0, 0), (.ifnonnull 18, 0, 0)]), (38, [(.aload_n 2, 0, 0), (.aload_n 0, 0, 0), (.getfield 19, 9, 1), (.invokevirtual 102, 0, 0)]), (46, [(.iconst 0, 0, 0), (.ireturn, 0, 0)])]
def zw_im : List (Nat × List (Nat × Jvm.Cond)) := [(2, [(118, .fieldLink RX9 19 "WearingBench" "now" "LWearingBench$Bench;"), (120, .fieldLink RX9 26 "WearingBench" "images" "[LWearingBench$Bench;")]), (3, [(59, .methodLink RX9 102 yX0_copyFrom)])]
theorem zk_im : zm_walks zw_im = true := by decide +kernel
noncomputable def zT_im : zm_T := (zB_im, [], [(102, (2, some 0, false, [(0, 10), (1, 10)], zF_X0_copyFrom))], some .int, none)
theorem zx_im (l : Launch) : zm_ok l zR_img RX9 cX9_image zT_im := zm_ok_of (fl := [(19, 9, 1), (26, 9, 3)]) zR_img zk_im (by decide +kernel) ⟨Nat.le_refl _, Nat.le_refl _⟩ ⟨zm_callok_of (ze_X0_copyFrom l) (zm_wk zk_im 2 rfl) ⟨Nat.le_of_ble_eq_true rfl, Nat.le_of_ble_eq_true rfl⟩, trivial⟩
noncomputable def zF_im : zm_L → List Value → zm_I → zm_R := zm_F zm_V zT_im 3
def zR_im : Room := { frames := 3, cells := 0, slots := 0, locals := 100 }
theorem ze_im (l : Launch) : zm_cee l yX9_image cX9_image 3 (some .int) zR_im 1 2 (some 9) zF_im := ⟨zm_con (T := zT_im) (by decide) (zm_ok_of (fl := [(19, 9, 1), (26, 9, 3)]) zR_im zk_im (by decide +kernel) ⟨Nat.le_refl _, Nat.le_refl _⟩ ⟨zm_callok_of (ze_X0_copyFrom l) (zm_wk zk_im 2 rfl) ⟨Nat.le_of_ble_eq_true rfl, Nat.le_of_ble_eq_true rfl⟩, trivial⟩), rfl, rfl, zm_cw 5 206 rfl rfl, zm_cw 1 1 rfl rfl, ⟨by decide, by decide, by decide +kernel⟩, rfl, zm_cw 5 204 rfl rfl, zm_cw 5 205 rfl rfl, ⟨_, rfl, rfl⟩⟩
theorem zl_simg : zm_sok room_1 R_law code [(.aload_n 1, 0, 0), (.aload_n 0, 0, 0), (.iload_n 3, 0, 0), (.iconst 1, 0, 0), (.iadd, 0, 0), (.iaload, 0, 0)] 2058 := zm_sokB_ok (zm_walk_ok zk_L) (R := room_1) ⟨Nat.le_refl _, Nat.le_refl _⟩ (fl := []) rfl _ _ (by decide +kernel)
theorem zl_simg2 : zm_sok room_1 R_law code [(.aload_n 1, 0, 0), (.aload_n 0, 0, 0), (.iload_n 3, 0, 0), (.iconst 1, 0, 0), (.iadd, 0, 0), (.iaload, 0, 0), (.invokevirtual 300, 0, 0)] 2058 := zl_sk zx_L_21 4 rfl
def zp_img : Nat := 2058
def zp_imc : Nat := 2064
def zp_im1 : Nat := 2067
theorem zf_dimg : decode code zp_imc = .ok (.invokevirtual 300, 3) := by decide +kernel
def zBo_i1 : List (Nat × List (Instr × Nat × Nat)) := [(2058, [(.aload_n 1, 0, 0), (.aload_n 0, 0, 0), (.iload_n 3, 0, 0), (.iconst 1, 0, 0), (.iadd, 0, 0), (.iaload, 0, 0)])]
noncomputable def zTo_i1 (L : Nat) (xs : Nat → Int32) : zm_T := (zBo_i1, [], [], ret, some (L, xs))
theorem zxo_i1 (l : Launch) (L : Nat) (xs : Nat → Int32) : zm_ok l room_1 R_law code (zTo_i1 L xs) ∧ zl_nr (zTo_i1 L xs).1 = true := ⟨zx_of ⟨zl_simg, trivial⟩ rfl trivial, by show zl_nr zBo_i1 = true; decide +kernel⟩
set_option maxRecDepth 20000 in
theorem zl1_i1 {L j : Nat} (h : 6 * j + 6 ≤ L ∧ L ≤ 3072) (xs : Nat → Int32) (wl : zm_L) (M : zm_I) (k : zm_S → zm_R) : zm_step (zTo_i1 L xs) wl k (2058, zl_lb (zl_i j), [], M) = k (zp_imc, zl_lb (zl_i j), [.int (xs (6 * j + 1)), .ref 0], M) := (show zm_step (zTo_i1 L xs) wl k (2058, zl_lb (zl_i j), [], M) = zl_rd L xs (zl_i j + Int32.ofNat 1) (fun v => k (zp_imc, zl_lb (zl_i j), [.int v, .ref 0], M)) from rfl).trans (zl_rd_o h 1 (by decide))
def zBo_i2 : List (Nat × List (Instr × Nat × Nat)) := [(2058, [(.aload_n 1, 0, 0), (.aload_n 0, 0, 0), (.iload_n 3, 0, 0), (.iconst 1, 0, 0), (.iadd, 0, 0), (.iaload, 0, 0), (.invokevirtual 300, 0, 0)])]
noncomputable def zTo_i2 (L : Nat) (xs : Nat → Int32) : zm_T := (zBo_i2, [], [(300, (2, some 9, true, [], zF_im))], ret, some (L, xs))
theorem zxo_i2 (l : Launch) (L : Nat) (xs : Nat → Int32) : zm_ok l room_1 R_law code (zTo_i2 L xs) ∧ zl_nr (zTo_i2 L xs).1 = true := ⟨zx_of ⟨zl_simg2, trivial⟩ (by decide +kernel) ⟨zm_callok_of (ze_im l) (zm_wk zk_L 70 rfl) ⟨Nat.le_of_ble_eq_true rfl, Nat.le_of_ble_eq_true rfl⟩, trivial⟩, by show zl_nr zBo_i2 = true; decide +kernel⟩
set_option maxRecDepth 20000 in
theorem zl1_i2 {L j : Nat} (h : 6 * j + 6 ≤ L ∧ L ≤ 3072) (xs : Nat → Int32) (wl : zm_L) (M : zm_I) (k : zm_S → zm_R) : zm_step (zTo_i2 L xs) wl k (2058, zl_lb (zl_i j), [], M) = zm_app (2, some 9, true, [], zF_im) wl [.ref 0, .int (xs (6 * j + 1))] M (fun v N => k (zp_im1, zl_lb (zl_i j), v.toList ++ [], N)) := (show zm_step (zTo_i2 L xs) wl k (2058, zl_lb (zl_i j), [], M) = zl_rd L xs (zl_i j + Int32.ofNat 1) (fun a => zm_app (2, some 9, true, [], zF_im) wl [.ref 0, .int a] M (fun v N => k (zp_im1, zl_lb (zl_i j), v.toList ++ [], N))) from rfl).trans (zl_rd_o h 1 (by decide))
theorem zw_imL : Jvm.Cond.methodLink R_law 300 yX9_image ∈ zm_tbl := zm_wk zk_L 70 rfl
theorem zw_imW : Jvm.Cond.code yX9_image cX9_image 3 (some .int) ∈ zm_tbl ∧ Jvm.Cond.initialized RX9 ∈ zm_tbl ∧ Jvm.Cond.instanceMethod yX9_image ∈ zm_tbl ∧ Jvm.Cond.selects RX9 yX9_image yX9_image ∈ zm_tbl := ⟨zm_cw 5 206 rfl rfl, zm_cw 1 1 rfl rfl, zm_cw 5 204 rfl rfl, zm_cw 5 205 rfl rfl⟩
def zp_imi : Nat := 300
def zp_back : Nat := 2081
def zp_bk1 : Nat := 2090
end
section
/-! IMAGE: the class makes a bench. A run that reads and writes no number does the same over any memory. -/
def zi_nm (i : Instr) (a b : Nat) : Bool := match i with
  | .getfield _ => zn_isR (zm_ty a b)
  | .putfield _ => zm_fin a b
  | .aload_n _ => true
  | .iload_n _ => true
  | .astore_n _ => true
  | .iconst _ => true
  | .bipush _ => true
  | .sipush _ => true
  | .dup => true
  | .ifCond _ _ => true
  | .if_icmp _ _ => true
  | .ifnonnull _ => true
  | .aaload => true
  | .ireturn => true
  | .return_ => true
  | .new _ => true
  | .newarray _ => true
  | .invokespecial _ => true
  | .aastore => true
  | _ => false
abbrev zi_f (M' : zm_I) : zm_S → zm_S := fun q => (q.1, q.2.1, q.2.2.1, M')
theorem zi_vA {M M' : zm_I} {n : Nat} {rs : List Value} {ty : FieldType} {k : Nat} (h : zn_isR ty = true) : zm_vA M' n rs ty k = zm_vA M n rs ty k := by
  cases ty <;> first | rfl | (cases h; done)
theorem zi_next {wl : zm_L} {i : Instr} {a b pc : Nat} {ls : List (Option Value)} {st : List Value} {M M' : zm_I} (h : zi_nm i a b = true) : zn_next wl i a b pc ls st M' = (zn_next wl i a b pc ls st M).map (zi_f M') := by
  cases i
  case aload_n x =>
    unfold zn_next
    dsimp only
    cases ls[x.val]? with
    | none => rfl
    | some o => cases o with
      | none => rfl
      | some v => cases v <;> rfl
  case iload_n x =>
    unfold zn_next
    dsimp only
    cases ls[x.val]? with
    | none => rfl
    | some o => cases o with
      | none => rfl
      | some v => cases v <;> rfl
  case astore_n x =>
    unfold zn_next
    dsimp only
    cases st with
    | nil => rfl
    | cons v r => cases v <;> first | rfl | (dsimp only; cases Nat.ble (x.val + 1) ls.length <;> rfl)
  case iconst n => rfl
  case bipush n => rfl
  case sipush n => rfl
  case dup =>
    unfold zn_next
    dsimp only
    cases st with
    | nil => rfl
    | cons v r => cases v <;> rfl
  case ifCond c off =>
    unfold zn_next
    dsimp only
    cases st with
    | nil => rfl
    | cons v r => cases v <;> first | rfl | (rename_i x; cases c <;> first | rfl | (dsimp only; by_cases hx : x < 0 <;> simp [hx]))
  case if_icmp c off =>
    unfold zn_next
    dsimp only
    cases st with
    | nil => rfl
    | cons v r =>
      cases v <;> first
        | rfl
        | (rename_i y
           cases r with
           | nil => rfl
           | cons w r =>
             cases w <;> first
               | rfl
               | (rename_i x
                  cases c <;> first
                    | rfl
                    | (dsimp only; by_cases hx : y ≤ x <;> simp [hx]; done)
                    | (dsimp only; by_cases hx : y < x <;> simp [hx]; done)
                    | (dsimp only; by_cases hx : x < y <;> simp [hx]; done)))
  case ifnonnull off =>
    unfold zn_next
    dsimp only
    cases st with
    | nil => rfl
    | cons v r => cases v <;> rfl
  case aaload =>
    unfold zn_next
    dsimp only
    cases st with
    | nil => rfl
    | cons v r =>
      cases v <;> first
        | rfl
        | (rename_i ix
           cases r with
           | nil => rfl
           | cons w r =>
             cases w <;> first
               | rfl
               | (rename_i n
                  dsimp only
                  cases wl[n]? with
                  | none => rfl
                  | some d =>
                    obtain ⟨ci | ⟨ty, len⟩, rs⟩ := d
                    · rfl
                    · cases ty <;> first
                        | rfl
                        | (dsimp only
                           by_cases hx : ix < 0 ∨ len ≤ ix.toNatClampNeg
                           · rw [if_pos hx, if_pos hx]; rfl
                           · rw [if_neg hx, if_neg hx]
                             cases rs.getD ix.toNatClampNeg .null <;> rfl)))
  case ireturn => rfl
  case return_ => rfl
  case new x => rfl
  case newarray x => rfl
  case invokespecial x => rfl
  case aastore => rfl
  case getfield x =>
    unfold zn_next
    dsimp only
    cases st with
    | nil => rfl
    | cons v r =>
      cases v <;> first
        | rfl
        | (rename_i n
           dsimp only
           cases wl[n]? with
           | none => rfl
           | some d =>
             obtain ⟨ci | ⟨ty, len⟩, rs⟩ := d
             · dsimp only
               rw [zi_vA (M := M) (M' := M') h]
               cases Nat.beq ci a <;> rfl
             · rfl)
  case putfield x =>
    have h : zm_fin a b = true := h
    unfold zn_next
    dsimp only
    rw [h]
    rfl
  all_goals cases h
theorem zi_pr {wl : zm_L} {a b pc : Nat} {ls : List (Option Value)} {st : List Value} {M M' : zm_I} : zn_pr wl a b pc ls st M' = (zn_pr wl a b pc ls st M).map (fun q => (zi_f M' q.1, q.2)) := by
  unfold zn_pr
  cases st with
  | nil => rfl
  | cons v r =>
    cases v <;> first
      | rfl
      | (cases r with
         | nil => rfl
         | cons w r =>
           cases w <;> first
             | rfl
             | (rename_i n
                dsimp only
                cases wl[n]? with
                | none => rfl
                | some d =>
                  obtain ⟨ci | ⟨ty, len⟩, rs⟩ := d
                  · dsimp only
                    cases (Nat.beq ci a && zm_fin a b && zn_isR (zm_ty a b) && Nat.ble (b + 1) rs.length) <;> rfl
                  · rfl))
theorem zi_as {wl : zm_L} {pc : Nat} {ls : List (Option Value)} {st : List Value} {M M' : zm_I} : zn_as wl pc ls st M' = (zn_as wl pc ls st M).map (fun q => (zi_f M' q.1, q.2)) := by
  unfold zn_as
  cases st with
  | nil => rfl
  | cons v r =>
    cases v <;> first
      | rfl
      | (rename_i vv
         cases r with
         | nil => rfl
         | cons w r =>
           cases w <;> first
             | rfl
             | (rename_i ix
                cases r with
                | nil => rfl
                | cons u r =>
                  cases u <;> first
                    | rfl
                    | (rename_i n
                       dsimp only
                       cases wl[n]? with
                       | none => rfl
                       | some d =>
                         obtain ⟨ci | ⟨ty, len⟩, rs⟩ := d
                         · rfl
                         · cases ty <;> first
                             | rfl
                             | (rename_i C
                                dsimp only
                                cases wl[vv]? with
                                | none => rfl
                                | some d2 =>
                                  obtain ⟨cj | ⟨ty2, len2⟩, rs2⟩ := d2
                                  · dsimp only
                                    by_cases hx : ix < 0 ∨ len ≤ ix.toNatClampNeg
                                    · rw [if_pos hx, if_pos hx]; rfl
                                    · rw [if_neg hx, if_neg hx]
                                      cases (decide (zn_nm cj = C) && Nat.ble (cj + 1) 11 && Nat.ble (ix.toNatClampNeg + 1) rs.length) <;> rfl
                                  · rfl))))
def zi_in (C : zn_C) : Prop := ∀ (wl : zm_L) (av : List Value) (M M' : zm_I), C.1 wl av M' = (C.1 wl av M).map (fun q => (q.1, M'))
def zi_tb (T : zn_T) : Bool := T.1.all (fun q => zi_nm q.2.1 q.2.2.1 q.2.2.2)
def zi_all : List (Nat × zn_C) → Prop
  | [] => True
  | q :: r => zi_in q.2 ∧ zi_all r
theorem zi_all_o : ∀ {L : List (Nat × zn_C)}, zi_all L → ∀ {idx : Nat} {C : zn_C}, zm_look L idx = some C → zi_in C
  | [], _, _, _, h => by cases h
  | (k, C0) :: r, h, idx, C, hl => by
    unfold zm_look at hl
    split at hl
    · cases hl; exact h.1
    · exact zi_all_o h.2 hl
abbrev zi_g (M' : zm_I) : zn_S → zn_S := fun q => (zi_f M' q.1, q.2)
theorem zi_ct {T : zn_T} (hC : zi_all T.2.1) {S : zn_S} {idx : Nat} {M' : zm_I} : zn_ct T (zi_g M' S) idx = (zn_ct T S idx).map (zi_g M') := by
  obtain ⟨⟨pc, ls, st, M⟩, wl, c, s⟩ := S
  unfold zn_ct
  dsimp only
  cases st with
  | nil => rfl
  | cons v r =>
    cases v <;> first
      | rfl
      | (rename_i n
         dsimp only
         cases hl : zm_look T.2.1 idx with
         | none => rfl
         | some C =>
           dsimp only
           cases (Nat.ble (r.map fun v => v.category).sum 8 && zn_cl ls r wl && Nat.ble (c + C.2.1) T.2.2.1 && Nat.ble (s + C.2.2) T.2.2.2) with
           | false => rfl
           | true =>
             dsimp only
             rw [zi_all_o hC hl wl [.ref n] M M']
             cases C.1 wl [.ref n] M with
             | none => rfl
             | some q =>
               dsimp only [Option.map]
               cases Nat.ble wl.length q.1.length <;> rfl)
theorem zi_step {T : zn_T} (hT : zi_tb T = true) (hC : zi_all T.2.1) {S : zn_S} {M' : zm_I} : zn_step T (zi_g M' S) = (zn_step T S).map (zi_g M') := by
  obtain ⟨⟨pc, ls, st, M⟩, wl, c, s⟩ := S
  unfold zn_step
  dsimp only
  cases hl : zm_look T.1 pc with
  | none => rfl
  | some q =>
    obtain ⟨i, a, b⟩ := q
    have hi : zi_nm i a b = true := List.all_eq_true.mp hT _ (zm_look_mem hl)
    have ord : (match zn_next wl i a b pc ls st M' with
      | some q => some ((q, wl, c, s) : zn_S)
      | none => none) = Option.map (zi_g M') (match zn_next wl i a b pc ls st M with
      | some q => some ((q, wl, c, s) : zn_S)
      | none => none) := by
      rw [zi_next (M := M) (M' := M') hi]
      cases zn_next wl i a b pc ls st M <;> rfl
    dsimp only
    cases i
    case new x =>
      dsimp only
      cases (zn_cl ls st wl && Nat.ble (c + 1) T.2.2.1 && Nat.ble (s + zm_nf a) T.2.2.2 && zn_okf a) <;> rfl
    case newarray t =>
      dsimp only
      cases st with
      | nil => rfl
      | cons v r =>
        cases v <;> first
          | rfl
          | (rename_i n
             dsimp only
             by_cases hn : n < 0
             · rw [if_pos hn, if_pos hn]; rfl
             · rw [if_neg hn, if_neg hn]
               cases (zn_cl ls r wl && Nat.ble (c + 1) T.2.2.1 && Nat.ble (s + n.toNatClampNeg) T.2.2.2 && zn_prim (newarray.typeOf t) && Nat.ble n.toNatClampNeg 100000) <;> rfl)
    case aastore =>
      dsimp only
      rw [zi_as (M := M) (M' := M')]
      cases zn_as wl pc ls st M <;> rfl
    case invokespecial idx =>
      dsimp only
      match a with
      | 0 =>
        cases st with
        | nil => rfl
        | cons v r =>
          cases v <;> first
            | rfl
            | (dsimp only; cases Nat.ble (r.map fun v => v.category).sum 8 <;> rfl)
      | a + 1 => exact zi_ct hC (S := ((pc, ls, st, M), wl, c, s))
    case putfield x =>
      dsimp only
      rw [zi_pr (M := M) (M' := M'), zi_next (M := M) (M' := M') hi]
      cases zn_pr wl a b pc ls st M with
      | some q => rfl
      | none => cases zn_next wl (.putfield x) a b pc ls st M <;> rfl
    all_goals first | exact ord | (cases hi; done)
theorem zi_go {T : zn_T} (hT : zi_tb T = true) (hC : zi_all T.2.1) {stop : Nat} {M' : zm_I} : ∀ (n : Nat) (S : zn_S), zn_go T stop n (zi_g M' S) = (zn_go T stop n S).map (zi_g M')
  | 0, S => rfl
  | n + 1, S => by
    unfold zn_go
    dsimp only
    cases Nat.beq S.1.1 stop with
    | true => rfl
    | false =>
      dsimp only
      rw [zi_step hT hC]
      cases zn_step T S with
      | none => rfl
      | some q => exact zi_go hT hC n q
theorem zi_run {T : zn_T} (hT : zi_tb T = true) (hC : zi_all T.2.1) {nL stop fuel a b : Nat} : zi_in (zn_run T nL stop fuel, a, b) := by
  intro wl av M M'
  show zn_run T nL stop fuel wl av M' = (zn_run T nL stop fuel wl av M).map (fun q => (q.1, M'))
  unfold zn_run
  cases Nat.ble (zm_sl av).length nL with
  | false => rfl
  | true =>
    dsimp only
    have e := zi_go hT hC (stop := stop) (M' := M') fuel ((0, zm_pad nL (zm_sl av), [], M), wl, 0, 0)
    have e : zn_go T stop fuel ((0, zm_pad nL (zm_sl av), [], M'), wl, 0, 0) = _ := e
    rw [e]
    cases zn_go T stop fuel ((0, zm_pad nL (zm_sl av), [], M), wl, 0, 0) with
    | none => rfl
    | some S =>
      obtain ⟨⟨pc, ls, st, M1⟩, w1, c, s⟩ := S
      dsimp only [Option.map]
      cases st with
      | nil =>
        dsimp only
        cases (Nat.beq c T.2.2.1 && Nat.beq s T.2.2.2) <;> rfl
      | cons v r => rfl
def zi_z0 : zm_I := (fun _ _ => 0, fun _ _ => 0)
def zi_S0 (ks : List Nat) (k : Nat) (M : zm_I) : zn_S := ((0, [some (.ref 0), some (.int (Int32.ofNat k)), none], [], M), zL_w ks, 0, 0)
def zi_S1 (ks : List Nat) (k : Nat) (M : zm_I) : zn_S := ((38, [some (.ref 0), some (.int (Int32.ofNat k)), some (.ref (196 + 10 * ks.length))], [], M), zL_w (ks ++ [k]), 10, 171)
def zi_chk (ks : List Nat) (k : Nat) : Bool := match zn_go zU_img 38 60 (zi_S0 ks k zi_z0) with
  | some S => Nat.beq S.1.1 38 && decide (S.1.2.1 = [some (.ref 0), some (.int (Int32.ofNat k)), some (.ref (196 + 10 * ks.length))]) && decide (S.1.2.2.1 = []) && zn_eqL S.2.1 (zL_w (ks ++ [k])) && Nat.beq S.2.2.1 10 && Nat.beq S.2.2.2 171
  | none => false
theorem zi_chk_ok : zK_all.all (fun ks => (List.range 3).all (fun k => match zK_ix ks k with
  | some _ => true
  | none => zi_chk ks k)) = true := by decide +kernel
theorem zi_tX0 : zi_tb zU_X0_init = true := by decide +kernel
theorem zi_timg : zi_tb zU_img = true := by decide +kernel
theorem zi_aimg : zi_all zU_img.2.1 := ⟨zi_run zi_tX0 trivial, trivial⟩
theorem zi_goM {ks : List Nat} (h : ks ∈ zK_all) {k : Nat} (hk : k < 3) (hi : zK_ix ks k = none) (M : zm_I) : zn_go zU_img 38 60 (zi_S0 ks k M) = some (zi_S1 ks k M) := by
  have hc := List.all_eq_true.mp (List.all_eq_true.mp zi_chk_ok ks h) k (List.mem_range.mpr hk)
  rw [hi] at hc
  have hc : zi_chk ks k = true := hc
  have e := zi_go zi_timg zi_aimg (stop := 38) (M' := M) 60 (zi_S0 ks k zi_z0)
  have e : zn_go zU_img 38 60 (zi_S0 ks k M) = _ := e
  rw [e]
  unfold zi_chk at hc
  cases hz : zn_go zU_img 38 60 (zi_S0 ks k zi_z0) with
  | none => rw [hz] at hc; cases hc
  | some S =>
    rw [hz] at hc
    obtain ⟨⟨pc, ls, st, M1⟩, w1, c, s⟩ := S
    simp only [Bool.and_eq_true, decide_eq_true_eq] at hc
    obtain ⟨⟨⟨⟨⟨h1, h2⟩, h3⟩, h4⟩, h5⟩, h6⟩ := hc
    have h1 := Nat.eq_of_beq_eq_true h1
    have h4 := zn_eqL_ok h4
    have h5 := Nat.eq_of_beq_eq_true h5
    have h6 := Nat.eq_of_beq_eq_true h6
    subst h1 h2 h3 h4 h5 h6
    rfl
/-! rows over any world -/
theorem zy_gf {kn : zm_N} {wl : zm_L} {n ci f : Nat} {rs : List Value} {ls : List (Option Value)} {st : List Value} {M : zm_I} (h : wl[n]? = some (.inl ci, rs)) : zm_gf kn wl ci f ls (.ref n :: st) M = kn ls (zm_vA M n rs (zm_ty ci f) f :: st) M := by
  unfold zm_gf
  simp only [h, Nat.beq_refl]
theorem zy_alq {kn : zm_N} {wl : zm_L} {n len : Nat} {C : String} {rs : List Value} {x : Int32} {ls : List (Option Value)} {st : List Value} {M : zm_I} (h : wl[n]? = some (.inr (.object C, len), rs)) (hx : ¬ (x < 0 ∨ len ≤ x.toNatClampNeg)) : zm_al kn none wl 3 ls (.int x :: .ref n :: st) M = match rs.getD x.toNatClampNeg .null with
  | .ref q => kn ls (.ref q :: st) M
  | .null => kn ls (.null :: st) M
  | _ => none := by
  unfold zm_al
  simp only [h]
  rw [if_neg hx]
  rfl
theorem zi_three {l : Int32} (h0 : ¬ l < 0) (h3 : l < 3) : ∃ k, k < 3 ∧ l = Int32.ofNat k := by
  have h0 := Int32.not_lt.mp h0
  rw [Int32.le_iff_toInt_le] at h0
  rw [Int32.lt_iff_toInt_lt] at h3
  have e0 : (0 : Int32).toInt = 0 := by decide
  have e3 : (3 : Int32).toInt = 3 := by decide
  refine ⟨l.toInt.toNat, by omega, Int32.toInt_inj.mp ?_⟩
  rw [Int32.toInt_ofNat_of_lt (by omega)]
  omega
theorem zi_k3 : ∀ k, k < 3 → ¬ (Int32.ofNat k < 0 ∨ 3 ≤ (Int32.ofNat k).toNatClampNeg) ∧ (Int32.ofNat k).toNatClampNeg = k ∧ ¬ Int32.ofNat k < 0 ∧ Int32.ofNat k < 3 := by decide
theorem zK_rD (ks : List Nat) : ∀ k, k < 3 → [zK_r ks 0, zK_r ks 1, zK_r ks 2].getD k .null = zK_r ks k := by
  intro k hk
  match k, hk with
  | 0, _ => rfl
  | 1, _ => rfl
  | 2, _ => rfl
  | k + 3, h => omega
abbrev zi_ls (k : Nat) (o : Option Value) : List (Option Value) := [some (.ref 0), some (.int (Int32.ofNat k)), o]
/-- the stretch that reads images[k] -/
theorem zi_read {T : zm_T} {b0 : List (Instr × Nat × Nat)} {off : Int} {pcT pcN : Nat} (hT : zm_look T.1 12 = some [(.aload_n 0, 0, 0), (.getfield 26, 9, 3), (.iload_n 1, 0, 0), (.aaload, 0, 0), (.astore_n 2, 0, 0), (.aload_n 2, 0, 0), (.ifnonnull off, 0, 0)]) (hs : T.2.2.2.2 = none) (hp : zm_tg 20 off = pcT) {ks : List Nat} {k : Nat} (hk : k < 3) (M : zm_I) (K : zm_S → zm_R) : zm_step T (zL_w ks) K (12, zi_ls k none, [], M) = match zK_ix ks k with
  | some i => K (pcT, zi_ls k (some (.ref (196 + 10 * i))), [], M)
  | none => K (23, zi_ls k (some .null), [], M) := by
  obtain ⟨h1, h2, -, -⟩ := zi_k3 k hk
  unfold zm_step
  simp only [hT]
  have e1 : zm_seq T (zL_w ks) K [(.aload_n 0, 0, 0), (.getfield 26, 9, 3), (.iload_n 1, 0, 0), (.aaload, 0, 0), (.astore_n 2, 0, 0), (.aload_n 2, 0, 0), (.ifnonnull off, 0, 0)] 12 (zi_ls k none) [] M = zm_gf (zm_seq T (zL_w ks) K [(.iload_n 1, 0, 0), (.aaload, 0, 0), (.astore_n 2, 0, 0), (.aload_n 2, 0, 0), (.ifnonnull off, 0, 0)] 16) (zL_w ks) 9 3 (zi_ls k none) [.ref 0] M := rfl
  rw [e1, zy_gf (zK_0 ks)]
  have e2 : zm_seq T (zL_w ks) K [(.iload_n 1, 0, 0), (.aaload, 0, 0), (.astore_n 2, 0, 0), (.aload_n 2, 0, 0), (.ifnonnull off, 0, 0)] 16 (zi_ls k none) [zm_vA M 0 zK_c0 (zm_ty 9 3) 3] M = zm_al (zm_seq T (zL_w ks) K [(.astore_n 2, 0, 0), (.aload_n 2, 0, 0), (.ifnonnull off, 0, 0)] 18) T.2.2.2.2 (zL_w ks) 3 (zi_ls k none) [.int (Int32.ofNat k), .ref 164] M := rfl
  rw [e2, hs, zy_alq (zK_164 ks) h1, h2, zK_rD ks k hk]
  subst hp
  unfold zK_r
  cases zK_ix ks k <;> rfl
end
