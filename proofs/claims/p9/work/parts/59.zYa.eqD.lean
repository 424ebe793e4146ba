/-! 59.zYa.eqD, 59.zYb.eqE, 59.zYc.A, 59.zYd.B -/
section
/-! EQUATIONS OF STRETCHES, printed by program (wip/law/eqs/gen.py) -/
def zW_D : zm_L := [(.inl 2, [.ref 1, .ref 2, .ref 3, .ref 4, .ref 5, .ref 6, .ref 7]), (.inr (.int, 5), []), (.inr (.int, 5), []), (.inr (.int, 5), []), (.inr (.int, 5), []), (.inr (.int, 5), []), (.inr (.int, 5), []), (.inr (.int, 6), [])]
def zW_DB : zm_L := [(.inl 2, [.ref 1, .ref 2, .ref 3, .ref 4, .ref 5, .ref 6, .ref 7]), (.inr (.int, 5), []), (.inr (.int, 5), []), (.inr (.int, 5), []), (.inr (.int, 5), []), (.inr (.int, 5), []), (.inr (.int, 5), []), (.inr (.int, 6), []), (.inl 0, [.null, .null, .null, .null, .null, .null, .null, .null, .ref 9, .ref 10, .ref 11, .ref 12, .ref 13, .ref 14, .ref 15, .ref 16, .ref 17]), (.inr (.int, 6), []), (.inr (.int, 5), []), (.inr (.int, 5), []), (.inr (.int, 5), []), (.inr (.int, 5), []), (.inr (.int, 5), []), (.inr (.int, 41), []), (.inr (.int, 41), []), (.inr (.int, 41), [])]
noncomputable def zv_X2_dawn_DB_0 (I : Nat → Nat → Int32) (J : Nat → Nat → Int64) : zm_R := zm_V zT_X2_dawn zW_DB (0, [some (.ref 0), some (.ref 8), none], [], (I, J))
noncomputable def zv_X2_dawn_DB_2 (I : Nat → Nat → Int32) (J : Nat → Nat → Int64) (l2 : Int32) : zm_R := zm_V zT_X2_dawn zW_DB (2, [some (.ref 0), some (.ref 8), some (.int l2)], [], (I, J))
noncomputable def zv_X2_dawn_DB_7 (I : Nat → Nat → Int32) (J : Nat → Nat → Int64) (l2 : Int32) : zm_R := zm_V zT_X2_dawn zW_DB (7, [some (.ref 0), some (.ref 8), some (.int l2)], [], (I, J))
noncomputable def zv_X2_dawn_DB_61 (I : Nat → Nat → Int32) (J : Nat → Nat → Int64) (l2 : Int32) : zm_R := zm_V zT_X2_dawn zW_DB (61, [some (.ref 0), some (.ref 8), some (.int l2)], [], (I, J))
noncomputable def zv_X2_dawn_DB_63 (I : Nat → Nat → Int32) (J : Nat → Nat → Int64) (l2 : Int32) : zm_R := zm_V zT_X2_dawn zW_DB (63, [some (.ref 0), some (.ref 8), some (.int l2)], [], (I, J))
noncomputable def zv_X2_dawn_DB_69 (I : Nat → Nat → Int32) (J : Nat → Nat → Int64) (l2 : Int32) : zm_R := zm_V zT_X2_dawn zW_DB (69, [some (.ref 0), some (.ref 8), some (.int l2)], [], (I, J))
noncomputable def zv_X2_dawn_DB_82 (I : Nat → Nat → Int32) (J : Nat → Nat → Int64) (l2 : Int32) : zm_R := zm_V zT_X2_dawn zW_DB (82, [some (.ref 0), some (.ref 8), some (.int l2)], [], (I, J))
noncomputable def zv_X2_dawn_DB_99 (I : Nat → Nat → Int32) (J : Nat → Nat → Int64) (l2 : Int32) : zm_R := zm_V zT_X2_dawn zW_DB (99, [some (.ref 0), some (.ref 8), some (.int l2)], [], (I, J))
noncomputable def zv_X2_dawn_DB_107 (I : Nat → Nat → Int32) (J : Nat → Nat → Int64) (l2 : Int32) : zm_R := zm_V zT_X2_dawn zW_DB (107, [some (.ref 0), some (.ref 8), some (.int l2)], [], (I, J))
noncomputable def zv_X2_dawn_DB_130 (I : Nat → Nat → Int32) (J : Nat → Nat → Int64) (l2 : Int32) : zm_R := zm_V zT_X2_dawn zW_DB (130, [some (.ref 0), some (.ref 8), some (.int l2)], [], (I, J))
theorem zq_X2_dawn_DB_0 (I : Nat → Nat → Int32) (J : Nat → Nat → Int64) : zv_X2_dawn_DB_0 I J = zv_X2_dawn_DB_2 I J 0 := (zm_V_eq _ _ _).trans ((fun (k : zm_S → zm_R) => (rfl : zm_step zT_X2_dawn zW_DB k (0, [some (.ref 0), some (.ref 8), none], [], (I, J)) = k (2, [some (.ref 0), some (.ref 8), some (.int 0)], [], (I, J)))) (zm_V zT_X2_dawn zW_DB))
theorem zq_X2_dawn_DB_2 (I : Nat → Nat → Int32) (J : Nat → Nat → Int64) (l2 : Int32) : zv_X2_dawn_DB_2 I J l2 = if 5 ≤ l2 then zv_X2_dawn_DB_61 I J l2 else zv_X2_dawn_DB_7 I J l2 := (zm_V_eq _ _ _).trans ((fun (k : zm_S → zm_R) => (rfl : zm_step zT_X2_dawn zW_DB k (2, [some (.ref 0), some (.ref 8), some (.int l2)], [], (I, J)) = if 5 ≤ l2 then k (61, [some (.ref 0), some (.ref 8), some (.int l2)], [], (I, J)) else k (7, [some (.ref 0), some (.ref 8), some (.int l2)], [], (I, J)))) (zm_V zT_X2_dawn zW_DB))
set_option maxRecDepth 20000 in
theorem zq_X2_dawn_DB_7 (I : Nat → Nat → Int32) (J : Nat → Nat → Int64) (l2 : Int32) : zv_X2_dawn_DB_7 I J l2 = if (l2 : Int32) < 0 ∨ 5 ≤ Int32.toNatClampNeg l2 then none else if (l2 : Int32) < 0 ∨ 5 ≤ Int32.toNatClampNeg l2 then none else if (l2 : Int32) < 0 ∨ 5 ≤ Int32.toNatClampNeg l2 then none else if (l2 : Int32) < 0 ∨ 5 ≤ Int32.toNatClampNeg l2 then none else if (l2 : Int32) < 0 ∨ 5 ≤ Int32.toNatClampNeg l2 then none else if (l2 : Int32) < 0 ∨ 5 ≤ Int32.toNatClampNeg l2 then none else if (l2 : Int32) < 0 ∨ 5 ≤ Int32.toNatClampNeg l2 then none else zv_X2_dawn_DB_2 (zm_w (zm_w (zm_w (zm_w (zm_w (zm_w I 1 (Int32.toNatClampNeg l2) (-2)) 2 (Int32.toNatClampNeg l2) ((zm_w I 1 (Int32.toNatClampNeg l2) (-2)) 10 (Int32.toNatClampNeg l2))) 3 (Int32.toNatClampNeg l2) (-1)) 4 (Int32.toNatClampNeg l2) 0) 5 (Int32.toNatClampNeg l2) (-1)) 6 (Int32.toNatClampNeg l2) 0) J (l2 + 1) := (zm_V_eq _ _ _).trans ((fun (k : zm_S → zm_R) => (rfl : zm_step zT_X2_dawn zW_DB k (7, [some (.ref 0), some (.ref 8), some (.int l2)], [], (I, J)) = if (l2 : Int32) < 0 ∨ 5 ≤ Int32.toNatClampNeg l2 then none else if (l2 : Int32) < 0 ∨ 5 ≤ Int32.toNatClampNeg l2 then none else if (l2 : Int32) < 0 ∨ 5 ≤ Int32.toNatClampNeg l2 then none else if (l2 : Int32) < 0 ∨ 5 ≤ Int32.toNatClampNeg l2 then none else if (l2 : Int32) < 0 ∨ 5 ≤ Int32.toNatClampNeg l2 then none else if (l2 : Int32) < 0 ∨ 5 ≤ Int32.toNatClampNeg l2 then none else if (l2 : Int32) < 0 ∨ 5 ≤ Int32.toNatClampNeg l2 then none else k (2, [some (.ref 0), some (.ref 8), some (.int (l2 + 1))], [], ((zm_w (zm_w (zm_w (zm_w (zm_w (zm_w I 1 (Int32.toNatClampNeg l2) (-2)) 2 (Int32.toNatClampNeg l2) ((zm_w I 1 (Int32.toNatClampNeg l2) (-2)) 10 (Int32.toNatClampNeg l2))) 3 (Int32.toNatClampNeg l2) (-1)) 4 (Int32.toNatClampNeg l2) 0) 5 (Int32.toNatClampNeg l2) (-1)) 6 (Int32.toNatClampNeg l2) 0), J)))) (zm_V zT_X2_dawn zW_DB))
theorem zq_X2_dawn_DB_61 (I : Nat → Nat → Int32) (J : Nat → Nat → Int64) (l2 : Int32) : zv_X2_dawn_DB_61 I J l2 = zv_X2_dawn_DB_63 I J 0 := (zm_V_eq _ _ _).trans ((fun (k : zm_S → zm_R) => (rfl : zm_step zT_X2_dawn zW_DB k (61, [some (.ref 0), some (.ref 8), some (.int l2)], [], (I, J)) = k (63, [some (.ref 0), some (.ref 8), some (.int 0)], [], (I, J)))) (zm_V zT_X2_dawn zW_DB))
theorem zq_X2_dawn_DB_63 (I : Nat → Nat → Int32) (J : Nat → Nat → Int64) (l2 : Int32) : zv_X2_dawn_DB_63 I J l2 = if 6 ≤ l2 then zv_X2_dawn_DB_82 I J l2 else zv_X2_dawn_DB_69 I J l2 := (zm_V_eq _ _ _).trans ((fun (k : zm_S → zm_R) => (rfl : zm_step zT_X2_dawn zW_DB k (63, [some (.ref 0), some (.ref 8), some (.int l2)], [], (I, J)) = if 6 ≤ l2 then k (82, [some (.ref 0), some (.ref 8), some (.int l2)], [], (I, J)) else k (69, [some (.ref 0), some (.ref 8), some (.int l2)], [], (I, J)))) (zm_V zT_X2_dawn zW_DB))
theorem zq_X2_dawn_DB_69 (I : Nat → Nat → Int32) (J : Nat → Nat → Int64) (l2 : Int32) : zv_X2_dawn_DB_69 I J l2 = if (l2 : Int32) < 0 ∨ 6 ≤ Int32.toNatClampNeg l2 then none else zv_X2_dawn_DB_63 (zm_w I 7 (Int32.toNatClampNeg l2) (-1)) J (l2 + 1) := (zm_V_eq _ _ _).trans ((fun (k : zm_S → zm_R) => (rfl : zm_step zT_X2_dawn zW_DB k (69, [some (.ref 0), some (.ref 8), some (.int l2)], [], (I, J)) = if (l2 : Int32) < 0 ∨ 6 ≤ Int32.toNatClampNeg l2 then none else k (63, [some (.ref 0), some (.ref 8), some (.int (l2 + 1))], [], ((zm_w I 7 (Int32.toNatClampNeg l2) (-1)), J)))) (zm_V zT_X2_dawn zW_DB))
theorem zq_X2_dawn_DB_82 (I : Nat → Nat → Int32) (J : Nat → Nat → Int64) (l2 : Int32) : zv_X2_dawn_DB_82 I J l2 = zv_X2_dawn_DB_99 (zm_w I 0 7 0) (zm_wl (zm_wl J 0 9 0) 0 8 0) 0 := (zm_V_eq _ _ _).trans ((fun (k : zm_S → zm_R) => (rfl : zm_step zT_X2_dawn zW_DB k (82, [some (.ref 0), some (.ref 8), some (.int l2)], [], (I, J)) = k (99, [some (.ref 0), some (.ref 8), some (.int 0)], [], ((zm_w I 0 7 0), (zm_wl (zm_wl J 0 9 0) 0 8 0))))) (zm_V zT_X2_dawn zW_DB))
theorem zq_X2_dawn_DB_99 (I : Nat → Nat → Int32) (J : Nat → Nat → Int64) (l2 : Int32) : zv_X2_dawn_DB_99 I J l2 = if (I 8 7) ≤ l2 then zv_X2_dawn_DB_130 I J l2 else zv_X2_dawn_DB_107 I J l2 := (zm_V_eq _ _ _).trans ((fun (k : zm_S → zm_R) => (rfl : zm_step zT_X2_dawn zW_DB k (99, [some (.ref 0), some (.ref 8), some (.int l2)], [], (I, J)) = if (I 8 7) ≤ l2 then k (130, [some (.ref 0), some (.ref 8), some (.int l2)], [], (I, J)) else k (107, [some (.ref 0), some (.ref 8), some (.int l2)], [], (I, J)))) (zm_V zT_X2_dawn zW_DB))
theorem zq_X2_dawn_DB_107 (I : Nat → Nat → Int32) (J : Nat → Nat → Int64) (l2 : Int32) : zv_X2_dawn_DB_107 I J l2 = if (l2 : Int32) < 0 ∨ 41 ≤ Int32.toNatClampNeg l2 then none else zv_X2_dawn_DB_99 I (zm_wl J 0 8 ((J 0 8) ||| (1 <<< (Int32.toInt64 (I 17 (Int32.toNatClampNeg l2)) &&& 63)))) (l2 + 1) := (zm_V_eq _ _ _).trans ((fun (k : zm_S → zm_R) => (rfl : zm_step zT_X2_dawn zW_DB k (107, [some (.ref 0), some (.ref 8), some (.int l2)], [], (I, J)) = if (l2 : Int32) < 0 ∨ 41 ≤ Int32.toNatClampNeg l2 then none else k (99, [some (.ref 0), some (.ref 8), some (.int (l2 + 1))], [], (I, (zm_wl J 0 8 ((J 0 8) ||| (1 <<< (Int32.toInt64 (I 17 (Int32.toNatClampNeg l2)) &&& 63)))))))) (zm_V zT_X2_dawn zW_DB))
theorem zq_X2_dawn_DB_130 (I : Nat → Nat → Int32) (J : Nat → Nat → Int64) (l2 : Int32) : zv_X2_dawn_DB_130 I J l2 = some (none, (I, J)) := (zm_V_eq _ _ _).trans ((fun (k : zm_S → zm_R) => (rfl : zm_step zT_X2_dawn zW_DB k (130, [some (.ref 0), some (.ref 8), some (.int l2)], [], (I, J)) = some (none, (I, J)))) (zm_V zT_X2_dawn zW_DB))
theorem zf_X2_dawn_DB (I : Nat → Nat → Int32) (J : Nat → Nat → Int64) : zF_X2_dawn zW_DB [.ref 0, .ref 8] (I, J) = zv_X2_dawn_DB_0 I J := rfl
noncomputable def zv_X2_settle_DB_0 (I : Nat → Nat → Int32) (J : Nat → Nat → Int64) (l2 : Int32) : zm_R := zm_V zT_X2_settle zW_DB (0, [some (.ref 0), some (.ref 8), some (.int l2), none], [], (I, J))
noncomputable def zv_X2_settle_DB_13 (I : Nat → Nat → Int32) (J : Nat → Nat → Int64) (l2 : Int32) : zm_R := zm_V zT_X2_settle zW_DB (13, [some (.ref 0), some (.ref 8), some (.int l2), none], [], (I, J))
noncomputable def zv_X2_settle_DB_19 (I : Nat → Nat → Int32) (J : Nat → Nat → Int64) (l2 : Int32) : zm_R := zm_V zT_X2_settle zW_DB (19, [some (.ref 0), some (.ref 8), some (.int l2), none], [], (I, J))
noncomputable def zv_X2_settle_DB_21 (I : Nat → Nat → Int32) (J : Nat → Nat → Int64) (l2 : Int32) (l3 : Int32) : zm_R := zm_V zT_X2_settle zW_DB (21, [some (.ref 0), some (.ref 8), some (.int l2), some (.int l3)], [], (I, J))
noncomputable def zv_X2_settle_DB_29 (I : Nat → Nat → Int32) (J : Nat → Nat → Int64) (l2 : Int32) (l3 : Int32) : zm_R := zm_V zT_X2_settle zW_DB (29, [some (.ref 0), some (.ref 8), some (.int l2), some (.int l3)], [], (I, J))
noncomputable def zv_X2_settle_DB_39 (I : Nat → Nat → Int32) (J : Nat → Nat → Int64) (l2 : Int32) (l3 : Int32) : zm_R := zm_V zT_X2_settle zW_DB (39, [some (.ref 0), some (.ref 8), some (.int l2), some (.int l3)], [], (I, J))
noncomputable def zv_X2_settle_DB_45 (I : Nat → Nat → Int32) (J : Nat → Nat → Int64) (l2 : Int32) (l3 : Int32) : zm_R := zm_V zT_X2_settle zW_DB (45, [some (.ref 0), some (.ref 8), some (.int l2), some (.int l3)], [], (I, J))
noncomputable def zv_X2_settle_DB_51 (I : Nat → Nat → Int32) (J : Nat → Nat → Int64) (l2 : Int32) (l3 : Int32) : zm_R := zm_V zT_X2_settle zW_DB (51, [some (.ref 0), some (.ref 8), some (.int l2), some (.int l3)], [], (I, J))
noncomputable def zv_X2_settle_DB_53 (I : Nat → Nat → Int32) (J : Nat → Nat → Int64) (l2 : Int32) (l3 : Int32) : zm_R := zm_V zT_X2_settle zW_DB (53, [some (.ref 0), some (.ref 8), some (.int l2), some (.int l3)], [], (I, J))
noncomputable def zv_X2_settle_DB_61 (I : Nat → Nat → Int32) (J : Nat → Nat → Int64) (l2 : Int32) (l3 : Int32) : zm_R := zm_V zT_X2_settle zW_DB (61, [some (.ref 0), some (.ref 8), some (.int l2), some (.int l3)], [], (I, J))
noncomputable def zv_X2_settle_DB_71 (I : Nat → Nat → Int32) (J : Nat → Nat → Int64) (l2 : Int32) (l3 : Int32) : zm_R := zm_V zT_X2_settle zW_DB (71, [some (.ref 0), some (.ref 8), some (.int l2), some (.int l3)], [], (I, J))
noncomputable def zv_X2_settle_DB_77 (I : Nat → Nat → Int32) (J : Nat → Nat → Int64) (l2 : Int32) (l3 : Int32) : zm_R := zm_V zT_X2_settle zW_DB (77, [some (.ref 0), some (.ref 8), some (.int l2), some (.int l3)], [], (I, J))
noncomputable def zv_X2_settle_DB_83 (I : Nat → Nat → Int32) (J : Nat → Nat → Int64) (l2 : Int32) (l3 : Int32) : zm_R := zm_V zT_X2_settle zW_DB (83, [some (.ref 0), some (.ref 8), some (.int l2), some (.int l3)], [], (I, J))
theorem zq_X2_settle_DB_0 (I : Nat → Nat → Int32) (J : Nat → Nat → Int64) (l2 : Int32) : zv_X2_settle_DB_0 I J l2 = if (lg_cmp (((Int64.toUInt64 (J 0 8) >>> ((Int32.toInt64 l2).toUInt64 &&& Int64.toUInt64 63)).toInt64) &&& 1) 0) = 0 then zv_X2_settle_DB_19 I J l2 else zv_X2_settle_DB_13 I J l2 := (zm_V_eq _ _ _).trans ((fun (k : zm_S → zm_R) => (rfl : zm_step zT_X2_settle zW_DB k (0, [some (.ref 0), some (.ref 8), some (.int l2), none], [], (I, J)) = if (lg_cmp (((Int64.toUInt64 (J 0 8) >>> ((Int32.toInt64 l2).toUInt64 &&& Int64.toUInt64 63)).toInt64) &&& 1) 0) = 0 then k (19, [some (.ref 0), some (.ref 8), some (.int l2), none], [], (I, J)) else k (13, [some (.ref 0), some (.ref 8), some (.int l2), none], [], (I, J)))) (zm_V zT_X2_settle zW_DB))
theorem zc_X2_settle_DB_13 (I : Nat → Nat → Int32) (J : Nat → Nat → Int64) (l2 : Int32) {I2 : Nat → Nat → Int32} {J2 : Nat → Nat → Int64} (hF : zF_X2_moveAll zW_DB [.ref 0, .ref 8, .int l2] (I, J) = some (none, (I2, J2))) : zv_X2_settle_DB_13 I J l2 = zv_X2_settle_DB_19 I2 J2 l2 := by
  have e : ∀ k : zm_S → zm_R, zm_step zT_X2_settle zW_DB k (13, [some (.ref 0), some (.ref 8), some (.int l2), none], [], (I, J)) = zm_app (3, some 2, true, [], zF_X2_moveAll) zW_DB [.ref 0, .ref 8, .int l2] (I, J) (fun v N => k (19, [some (.ref 0), some (.ref 8), some (.int l2), none], v.toList ++ [], N)) := fun k => rfl
  have g := zm_app_s (C := (3, some 2, true, [], zF_X2_moveAll)) (wl := zW_DB) (as := [.ref 0, .ref 8, .int l2]) (M := (I, J)) (k := fun v N => zm_V zT_X2_settle zW_DB (19, [some (.ref 0), some (.ref 8), some (.int l2), none], v.toList ++ [], N)) rfl rfl hF
  exact (zm_V_eq _ _ _).trans ((e _).trans g)
theorem zq_X2_settle_DB_19 (I : Nat → Nat → Int32) (J : Nat → Nat → Int64) (l2 : Int32) : zv_X2_settle_DB_19 I J l2 = zv_X2_settle_DB_21 I J l2 0 := (zm_V_eq _ _ _).trans ((fun (k : zm_S → zm_R) => (rfl : zm_step zT_X2_settle zW_DB k (19, [some (.ref 0), some (.ref 8), some (.int l2), none], [], (I, J)) = k (21, [some (.ref 0), some (.ref 8), some (.int l2), some (.int 0)], [], (I, J)))) (zm_V zT_X2_settle zW_DB))
theorem zq_X2_settle_DB_21 (I : Nat → Nat → Int32) (J : Nat → Nat → Int64) (l2 : Int32) (l3 : Int32) : zv_X2_settle_DB_21 I J l2 l3 = if (I 8 6) ≤ l3 then zv_X2_settle_DB_51 I J l2 l3 else zv_X2_settle_DB_29 I J l2 l3 := (zm_V_eq _ _ _).trans ((fun (k : zm_S → zm_R) => (rfl : zm_step zT_X2_settle zW_DB k (21, [some (.ref 0), some (.ref 8), some (.int l2), some (.int l3)], [], (I, J)) = if (I 8 6) ≤ l3 then k (51, [some (.ref 0), some (.ref 8), some (.int l2), some (.int l3)], [], (I, J)) else k (29, [some (.ref 0), some (.ref 8), some (.int l2), some (.int l3)], [], (I, J)))) (zm_V zT_X2_settle zW_DB))
theorem zq_X2_settle_DB_29 (I : Nat → Nat → Int32) (J : Nat → Nat → Int64) (l2 : Int32) (l3 : Int32) : zv_X2_settle_DB_29 I J l2 l3 = if (l3 : Int32) < 0 ∨ 5 ≤ Int32.toNatClampNeg l3 then none else if (I 1 (Int32.toNatClampNeg l3)) = (-1) then zv_X2_settle_DB_39 I J l2 l3 else zv_X2_settle_DB_45 I J l2 l3 := (zm_V_eq _ _ _).trans ((fun (k : zm_S → zm_R) => (rfl : zm_step zT_X2_settle zW_DB k (29, [some (.ref 0), some (.ref 8), some (.int l2), some (.int l3)], [], (I, J)) = if (l3 : Int32) < 0 ∨ 5 ≤ Int32.toNatClampNeg l3 then none else if (I 1 (Int32.toNatClampNeg l3)) = (-1) then k (39, [some (.ref 0), some (.ref 8), some (.int l2), some (.int l3)], [], (I, J)) else k (45, [some (.ref 0), some (.ref 8), some (.int l2), some (.int l3)], [], (I, J)))) (zm_V zT_X2_settle zW_DB))
theorem zc_X2_settle_DB_39 (I : Nat → Nat → Int32) (J : Nat → Nat → Int64) (l2 : Int32) (l3 : Int32) {I2 : Nat → Nat → Int32} {J2 : Nat → Nat → Int64} (hF : zF_X2_sitDown zW_DB [.ref 0, .ref 8, .int l3] (I, J) = some (none, (I2, J2))) : zv_X2_settle_DB_39 I J l2 l3 = zv_X2_settle_DB_45 I2 J2 l2 l3 := by
  have e : ∀ k : zm_S → zm_R, zm_step zT_X2_settle zW_DB k (39, [some (.ref 0), some (.ref 8), some (.int l2), some (.int l3)], [], (I, J)) = zm_app (3, some 2, true, [], zF_X2_sitDown) zW_DB [.ref 0, .ref 8, .int l3] (I, J) (fun v N => k (45, [some (.ref 0), some (.ref 8), some (.int l2), some (.int l3)], v.toList ++ [], N)) := fun k => rfl
  have g := zm_app_s (C := (3, some 2, true, [], zF_X2_sitDown)) (wl := zW_DB) (as := [.ref 0, .ref 8, .int l3]) (M := (I, J)) (k := fun v N => zm_V zT_X2_settle zW_DB (45, [some (.ref 0), some (.ref 8), some (.int l2), some (.int l3)], v.toList ++ [], N)) rfl rfl hF
  exact (zm_V_eq _ _ _).trans ((e _).trans g)
theorem zq_X2_settle_DB_45 (I : Nat → Nat → Int32) (J : Nat → Nat → Int64) (l2 : Int32) (l3 : Int32) : zv_X2_settle_DB_45 I J l2 l3 = zv_X2_settle_DB_21 I J l2 (l3 + 1) := (zm_V_eq _ _ _).trans ((fun (k : zm_S → zm_R) => (rfl : zm_step zT_X2_settle zW_DB k (45, [some (.ref 0), some (.ref 8), some (.int l2), some (.int l3)], [], (I, J)) = k (21, [some (.ref 0), some (.ref 8), some (.int l2), some (.int (l3 + 1))], [], (I, J)))) (zm_V zT_X2_settle zW_DB))
theorem zq_X2_settle_DB_51 (I : Nat → Nat → Int32) (J : Nat → Nat → Int64) (l2 : Int32) (l3 : Int32) : zv_X2_settle_DB_51 I J l2 l3 = zv_X2_settle_DB_53 I J l2 0 := (zm_V_eq _ _ _).trans ((fun (k : zm_S → zm_R) => (rfl : zm_step zT_X2_settle zW_DB k (51, [some (.ref 0), some (.ref 8), some (.int l2), some (.int l3)], [], (I, J)) = k (53, [some (.ref 0), some (.ref 8), some (.int l2), some (.int 0)], [], (I, J)))) (zm_V zT_X2_settle zW_DB))
theorem zq_X2_settle_DB_53 (I : Nat → Nat → Int32) (J : Nat → Nat → Int64) (l2 : Int32) (l3 : Int32) : zv_X2_settle_DB_53 I J l2 l3 = if (I 8 6) ≤ l3 then zv_X2_settle_DB_83 I J l2 l3 else zv_X2_settle_DB_61 I J l2 l3 := (zm_V_eq _ _ _).trans ((fun (k : zm_S → zm_R) => (rfl : zm_step zT_X2_settle zW_DB k (53, [some (.ref 0), some (.ref 8), some (.int l2), some (.int l3)], [], (I, J)) = if (I 8 6) ≤ l3 then k (83, [some (.ref 0), some (.ref 8), some (.int l2), some (.int l3)], [], (I, J)) else k (61, [some (.ref 0), some (.ref 8), some (.int l2), some (.int l3)], [], (I, J)))) (zm_V zT_X2_settle zW_DB))
theorem zq_X2_settle_DB_61 (I : Nat → Nat → Int32) (J : Nat → Nat → Int64) (l2 : Int32) (l3 : Int32) : zv_X2_settle_DB_61 I J l2 l3 = if (l3 : Int32) < 0 ∨ 5 ≤ Int32.toNatClampNeg l3 then none else if (I 11 (Int32.toNatClampNeg l3)) = l2 then zv_X2_settle_DB_71 I J l2 l3 else zv_X2_settle_DB_77 I J l2 l3 := (zm_V_eq _ _ _).trans ((fun (k : zm_S → zm_R) => (rfl : zm_step zT_X2_settle zW_DB k (61, [some (.ref 0), some (.ref 8), some (.int l2), some (.int l3)], [], (I, J)) = if (l3 : Int32) < 0 ∨ 5 ≤ Int32.toNatClampNeg l3 then none else if (I 11 (Int32.toNatClampNeg l3)) = l2 then k (71, [some (.ref 0), some (.ref 8), some (.int l2), some (.int l3)], [], (I, J)) else k (77, [some (.ref 0), some (.ref 8), some (.int l2), some (.int l3)], [], (I, J)))) (zm_V zT_X2_settle zW_DB))
theorem zc_X2_settle_DB_71 (I : Nat → Nat → Int32) (J : Nat → Nat → Int64) (l2 : Int32) (l3 : Int32) {I2 : Nat → Nat → Int32} {J2 : Nat → Nat → Int64} (hF : zF_X2_sitDown zW_DB [.ref 0, .ref 8, .int l3] (I, J) = some (none, (I2, J2))) : zv_X2_settle_DB_71 I J l2 l3 = zv_X2_settle_DB_77 I2 J2 l2 l3 := by
  have e : ∀ k : zm_S → zm_R, zm_step zT_X2_settle zW_DB k (71, [some (.ref 0), some (.ref 8), some (.int l2), some (.int l3)], [], (I, J)) = zm_app (3, some 2, true, [], zF_X2_sitDown) zW_DB [.ref 0, .ref 8, .int l3] (I, J) (fun v N => k (77, [some (.ref 0), some (.ref 8), some (.int l2), some (.int l3)], v.toList ++ [], N)) := fun k => rfl
  have g := zm_app_s (C := (3, some 2, true, [], zF_X2_sitDown)) (wl := zW_DB) (as := [.ref 0, .ref 8, .int l3]) (M := (I, J)) (k := fun v N => zm_V zT_X2_settle zW_DB (77, [some (.ref 0), some (.ref 8), some (.int l2), some (.int l3)], v.toList ++ [], N)) rfl rfl hF
  exact (zm_V_eq _ _ _).trans ((e _).trans g)
theorem zq_X2_settle_DB_77 (I : Nat → Nat → Int32) (J : Nat → Nat → Int64) (l2 : Int32) (l3 : Int32) : zv_X2_settle_DB_77 I J l2 l3 = zv_X2_settle_DB_53 I J l2 (l3 + 1) := (zm_V_eq _ _ _).trans ((fun (k : zm_S → zm_R) => (rfl : zm_step zT_X2_settle zW_DB k (77, [some (.ref 0), some (.ref 8), some (.int l2), some (.int l3)], [], (I, J)) = k (53, [some (.ref 0), some (.ref 8), some (.int l2), some (.int (l3 + 1))], [], (I, J)))) (zm_V zT_X2_settle zW_DB))
theorem zq_X2_settle_DB_83 (I : Nat → Nat → Int32) (J : Nat → Nat → Int64) (l2 : Int32) (l3 : Int32) : zv_X2_settle_DB_83 I J l2 l3 = some (none, (I, J)) := (zm_V_eq _ _ _).trans ((fun (k : zm_S → zm_R) => (rfl : zm_step zT_X2_settle zW_DB k (83, [some (.ref 0), some (.ref 8), some (.int l2), some (.int l3)], [], (I, J)) = some (none, (I, J)))) (zm_V zT_X2_settle zW_DB))
theorem zf_X2_settle_DB (I : Nat → Nat → Int32) (J : Nat → Nat → Int64) (l2 : Int32) : zF_X2_settle zW_DB [.ref 0, .ref 8, .int l2] (I, J) = zv_X2_settle_DB_0 I J l2 := rfl
noncomputable def zv_X2_finish_DB_0 (I : Nat → Nat → Int32) (J : Nat → Nat → Int64) (l2 : Int32) (l3 : Int64) : zm_R := zm_V zT_X2_finish zW_DB (0, [some (.ref 0), some (.ref 8), some (.int l2), some (.long l3), none, none, none], [], (I, J))
noncomputable def zv_X2_finish_DB_5 (I : Nat → Nat → Int32) (J : Nat → Nat → Int64) (l2 : Int32) (l3 : Int64) (s0 : Int32) : zm_R := zm_V zT_X2_finish zW_DB (5, [some (.ref 0), some (.ref 8), some (.int l2), some (.long l3), none, none, none], [.int s0], (I, J))
noncomputable def zv_X2_finish_DB_12 (I : Nat → Nat → Int32) (J : Nat → Nat → Int64) (l2 : Int32) (l3 : Int64) (l5 : Int32) : zm_R := zm_V zT_X2_finish zW_DB (12, [some (.ref 0), some (.ref 8), some (.int l2), some (.long l3), none, some (.int l5), none], [], (I, J))
noncomputable def zv_X2_finish_DB_23 (I : Nat → Nat → Int32) (J : Nat → Nat → Int64) (l2 : Int32) (l3 : Int64) (l5 : Int32) : zm_R := zm_V zT_X2_finish zW_DB (23, [some (.ref 0), some (.ref 8), some (.int l2), some (.long l3), none, some (.int l5), none], [], (I, J))
noncomputable def zv_X2_finish_DB_27 (I : Nat → Nat → Int32) (J : Nat → Nat → Int64) (l2 : Int32) (l3 : Int64) (l5 : Int32) : zm_R := zm_V zT_X2_finish zW_DB (27, [some (.ref 0), some (.ref 8), some (.int l2), some (.long l3), none, some (.int l5), none], [], (I, J))
noncomputable def zv_X2_finish_DB_28 (I : Nat → Nat → Int32) (J : Nat → Nat → Int64) (l2 : Int32) (l3 : Int64) (l5 : Int32) (s0 : Int32) : zm_R := zm_V zT_X2_finish zW_DB (28, [some (.ref 0), some (.ref 8), some (.int l2), some (.long l3), none, some (.int l5), none], [.int s0], (I, J))
noncomputable def zv_X2_finish_DB_35 (I : Nat → Nat → Int32) (J : Nat → Nat → Int64) (l2 : Int32) (l3 : Int64) (l5 : Int32) (l6 : Int32) : zm_R := zm_V zT_X2_finish zW_DB (35, [some (.ref 0), some (.ref 8), some (.int l2), some (.long l3), none, some (.int l5), some (.int l6)], [], (I, J))
noncomputable def zv_X2_finish_DB_48 (I : Nat → Nat → Int32) (J : Nat → Nat → Int64) (l2 : Int32) (l3 : Int64) (l5 : Int32) (l6 : Int32) : zm_R := zm_V zT_X2_finish zW_DB (48, [some (.ref 0), some (.ref 8), some (.int l2), some (.long l3), none, some (.int l5), some (.int l6)], [], (I, J))
noncomputable def zv_X2_finish_DB_54 (I : Nat → Nat → Int32) (J : Nat → Nat → Int64) (l2 : Int32) (l3 : Int64) (l5 : Int32) (l6 : Int32) (s0 : Int32) : zm_R := zm_V zT_X2_finish zW_DB (54, [some (.ref 0), some (.ref 8), some (.int l2), some (.long l3), none, some (.int l5), some (.int l6)], [.int s0, .ref 0], (I, J))
noncomputable def zv_X2_finish_DB_58 (I : Nat → Nat → Int32) (J : Nat → Nat → Int64) (l2 : Int32) (l3 : Int64) (l5 : Int32) (l6 : Int32) : zm_R := zm_V zT_X2_finish zW_DB (58, [some (.ref 0), some (.ref 8), some (.int l2), some (.long l3), none, some (.int l5), some (.int l6)], [], (I, J))
noncomputable def zv_X2_finish_DB_63 (I : Nat → Nat → Int32) (J : Nat → Nat → Int64) (l2 : Int32) (l3 : Int64) (l5 : Int32) (l6 : Int32) : zm_R := zm_V zT_X2_finish zW_DB (63, [some (.ref 0), some (.ref 8), some (.int l2), some (.long l3), none, some (.int l5), some (.int l6)], [], (I, J))
theorem zc_X2_finish_DB_0 (I : Nat → Nat → Int32) (J : Nat → Nat → Int64) (l2 : Int32) (l3 : Int64) {N : zm_I} {r : Int32} (hF : zF_X0_callsTill zW_B [.ref 0, .int l2] (zm_sub2 [(8, 10)] (I, J)) = some (some (.int r), N)) : zv_X2_finish_DB_0 I J l2 l3 = zv_X2_finish_DB_5 (zm_mrg [(8, 10)] (I, J) N).1 (zm_mrg [(8, 10)] (I, J) N).2 l2 l3 r := by
  have e : ∀ k : zm_S → zm_R, zm_step zT_X2_finish zW_DB k (0, [some (.ref 0), some (.ref 8), some (.int l2), some (.long l3), none, none, none], [], (I, J)) = zm_app (2, some 0, false, [(0, 10)], zF_X0_callsTill) zW_DB [.ref 8, .int l2] (I, J) (fun v N => k (5, [some (.ref 0), some (.ref 8), some (.int l2), some (.long l3), none, none, none], v.toList ++ [], N)) := fun k => rfl
  have g := zm_app_l (C := (2, some 0, false, [(0, 10)], zF_X0_callsTill)) (wl := zW_DB) (as := [.ref 8, .int l2]) (wc := zW_B) (ac := [.ref 0, .int l2]) (bs := [(8, 10)]) (M := (I, J)) (k := fun v N => zm_V zT_X2_finish zW_DB (5, [some (.ref 0), some (.ref 8), some (.int l2), some (.long l3), none, none, none], v.toList ++ [], N)) rfl rfl rfl rfl rfl rfl hF
  exact (zm_V_eq _ _ _).trans ((e _).trans g)
theorem zq_X2_finish_DB_5 (I : Nat → Nat → Int32) (J : Nat → Nat → Int64) (l2 : Int32) (l3 : Int64) (s0 : Int32) : zv_X2_finish_DB_5 I J l2 l3 s0 = if s0 ≤ 0 then zv_X2_finish_DB_27 I J l2 l3 s0 else zv_X2_finish_DB_12 I J l2 l3 s0 := (zm_V_eq _ _ _).trans ((fun (k : zm_S → zm_R) => (rfl : zm_step zT_X2_finish zW_DB k (5, [some (.ref 0), some (.ref 8), some (.int l2), some (.long l3), none, none, none], [.int s0], (I, J)) = if s0 ≤ 0 then k (27, [some (.ref 0), some (.ref 8), some (.int l2), some (.long l3), none, some (.int s0), none], [], (I, J)) else k (12, [some (.ref 0), some (.ref 8), some (.int l2), some (.long l3), none, some (.int s0), none], [], (I, J)))) (zm_V zT_X2_finish zW_DB))
theorem zq_X2_finish_DB_12 (I : Nat → Nat → Int32) (J : Nat → Nat → Int64) (l2 : Int32) (l3 : Int64) (l5 : Int32) : zv_X2_finish_DB_12 I J l2 l3 l5 = if (l5 * (I 8 3)) = l2 then zv_X2_finish_DB_23 I J l2 l3 l5 else zv_X2_finish_DB_27 I J l2 l3 l5 := (zm_V_eq _ _ _).trans ((fun (k : zm_S → zm_R) => (rfl : zm_step zT_X2_finish zW_DB k (12, [some (.ref 0), some (.ref 8), some (.int l2), some (.long l3), none, some (.int l5), none], [], (I, J)) = if (l5 * (I 8 3)) = l2 then k (23, [some (.ref 0), some (.ref 8), some (.int l2), some (.long l3), none, some (.int l5), none], [], (I, J)) else k (27, [some (.ref 0), some (.ref 8), some (.int l2), some (.long l3), none, some (.int l5), none], [], (I, J)))) (zm_V zT_X2_finish zW_DB))
theorem zq_X2_finish_DB_23 (I : Nat → Nat → Int32) (J : Nat → Nat → Int64) (l2 : Int32) (l3 : Int64) (l5 : Int32) : zv_X2_finish_DB_23 I J l2 l3 l5 = zv_X2_finish_DB_28 I J l2 l3 l5 1 := (zm_V_eq _ _ _).trans ((fun (k : zm_S → zm_R) => (rfl : zm_step zT_X2_finish zW_DB k (23, [some (.ref 0), some (.ref 8), some (.int l2), some (.long l3), none, some (.int l5), none], [], (I, J)) = k (28, [some (.ref 0), some (.ref 8), some (.int l2), some (.long l3), none, some (.int l5), none], [.int 1], (I, J)))) (zm_V zT_X2_finish zW_DB))
theorem zq_X2_finish_DB_27 (I : Nat → Nat → Int32) (J : Nat → Nat → Int64) (l2 : Int32) (l3 : Int64) (l5 : Int32) : zv_X2_finish_DB_27 I J l2 l3 l5 = zv_X2_finish_DB_28 I J l2 l3 l5 0 := (zm_V_eq _ _ _).trans ((fun (k : zm_S → zm_R) => (rfl : zm_step zT_X2_finish zW_DB k (27, [some (.ref 0), some (.ref 8), some (.int l2), some (.long l3), none, some (.int l5), none], [], (I, J)) = k (28, [some (.ref 0), some (.ref 8), some (.int l2), some (.long l3), none, some (.int l5), none], [.int 0], (I, J)))) (zm_V zT_X2_finish zW_DB))
theorem zq_X2_finish_DB_28 (I : Nat → Nat → Int32) (J : Nat → Nat → Int64) (l2 : Int32) (l3 : Int64) (l5 : Int32) (s0 : Int32) : zv_X2_finish_DB_28 I J l2 l3 l5 s0 = if s0 = 0 then zv_X2_finish_DB_58 I J l2 l3 l5 s0 else zv_X2_finish_DB_35 I J l2 l3 l5 s0 := (zm_V_eq _ _ _).trans ((fun (k : zm_S → zm_R) => (rfl : zm_step zT_X2_finish zW_DB k (28, [some (.ref 0), some (.ref 8), some (.int l2), some (.long l3), none, some (.int l5), none], [.int s0], (I, J)) = if s0 = 0 then k (58, [some (.ref 0), some (.ref 8), some (.int l2), some (.long l3), none, some (.int l5), some (.int s0)], [], (I, J)) else k (35, [some (.ref 0), some (.ref 8), some (.int l2), some (.long l3), none, some (.int l5), some (.int s0)], [], (I, J)))) (zm_V zT_X2_finish zW_DB))
theorem zq_X2_finish_DB_35 (I : Nat → Nat → Int32) (J : Nat → Nat → Int64) (l2 : Int32) (l3 : Int64) (l5 : Int32) (l6 : Int32) : zv_X2_finish_DB_35 I J l2 l3 l5 l6 = if (lg_cmp (((Int64.toUInt64 l3 >>> ((Int32.toInt64 (l5 - 1)).toUInt64 &&& Int64.toUInt64 63)).toInt64) &&& 1) 0) = 0 then zv_X2_finish_DB_48 I J l2 l3 l5 l6 else zv_X2_finish_DB_58 I J l2 l3 l5 l6 := (zm_V_eq _ _ _).trans ((fun (k : zm_S → zm_R) => (rfl : zm_step zT_X2_finish zW_DB k (35, [some (.ref 0), some (.ref 8), some (.int l2), some (.long l3), none, some (.int l5), some (.int l6)], [], (I, J)) = if (lg_cmp (((Int64.toUInt64 l3 >>> ((Int32.toInt64 (l5 - 1)).toUInt64 &&& Int64.toUInt64 63)).toInt64) &&& 1) 0) = 0 then k (48, [some (.ref 0), some (.ref 8), some (.int l2), some (.long l3), none, some (.int l5), some (.int l6)], [], (I, J)) else k (58, [some (.ref 0), some (.ref 8), some (.int l2), some (.long l3), none, some (.int l5), some (.int l6)], [], (I, J)))) (zm_V zT_X2_finish zW_DB))
theorem zc_X2_finish_DB_48 (I : Nat → Nat → Int32) (J : Nat → Nat → Int64) (l2 : Int32) (l3 : Int64) (l5 : Int32) (l6 : Int32) {I2 : Nat → Nat → Int32} {J2 : Nat → Nat → Int64} {r : Int32} (hF : zF_X2_firstThere zW_DB [.ref 0, .ref 8] (I, J) = some (some (.int r), (I2, J2))) : zv_X2_finish_DB_48 I J l2 l3 l5 l6 = zv_X2_finish_DB_54 I2 J2 l2 l3 l5 l6 r := by
  have e : ∀ k : zm_S → zm_R, zm_step zT_X2_finish zW_DB k (48, [some (.ref 0), some (.ref 8), some (.int l2), some (.long l3), none, some (.int l5), some (.int l6)], [], (I, J)) = zm_app (2, some 2, true, [], zF_X2_firstThere) zW_DB [.ref 0, .ref 8] (I, J) (fun v N => k (54, [some (.ref 0), some (.ref 8), some (.int l2), some (.long l3), none, some (.int l5), some (.int l6)], v.toList ++ [.ref 0], N)) := fun k => rfl
  have g := zm_app_s (C := (2, some 2, true, [], zF_X2_firstThere)) (wl := zW_DB) (as := [.ref 0, .ref 8]) (M := (I, J)) (k := fun v N => zm_V zT_X2_finish zW_DB (54, [some (.ref 0), some (.ref 8), some (.int l2), some (.long l3), none, some (.int l5), some (.int l6)], v.toList ++ [.ref 0], N)) rfl rfl hF
  exact (zm_V_eq _ _ _).trans ((e _).trans g)
theorem zc_X2_finish_DB_54 (I : Nat → Nat → Int32) (J : Nat → Nat → Int64) (l2 : Int32) (l3 : Int64) (l5 : Int32) (l6 : Int32) (s0 : Int32) {I2 : Nat → Nat → Int32} {J2 : Nat → Nat → Int64} (hF : zF_X2_admit zW_DB [.ref 0, .int s0, .int l2] (I, J) = some (none, (I2, J2))) : zv_X2_finish_DB_54 I J l2 l3 l5 l6 s0 = zv_X2_finish_DB_58 I2 J2 l2 l3 l5 l6 := by
  have e : ∀ k : zm_S → zm_R, zm_step zT_X2_finish zW_DB k (54, [some (.ref 0), some (.ref 8), some (.int l2), some (.long l3), none, some (.int l5), some (.int l6)], [.int s0, .ref 0], (I, J)) = zm_app (3, some 2, true, [], zF_X2_admit) zW_DB [.ref 0, .int s0, .int l2] (I, J) (fun v N => k (58, [some (.ref 0), some (.ref 8), some (.int l2), some (.long l3), none, some (.int l5), some (.int l6)], v.toList ++ [], N)) := fun k => rfl
  have g := zm_app_s (C := (3, some 2, true, [], zF_X2_admit)) (wl := zW_DB) (as := [.ref 0, .int s0, .int l2]) (M := (I, J)) (k := fun v N => zm_V zT_X2_finish zW_DB (58, [some (.ref 0), some (.ref 8), some (.int l2), some (.long l3), none, some (.int l5), some (.int l6)], v.toList ++ [], N)) rfl rfl hF
  exact (zm_V_eq _ _ _).trans ((e _).trans g)
theorem zc_X2_finish_DB_58 (I : Nat → Nat → Int32) (J : Nat → Nat → Int64) (l2 : Int32) (l3 : Int64) (l5 : Int32) (l6 : Int32) {I2 : Nat → Nat → Int32} {J2 : Nat → Nat → Int64} (hF : zF_X2_growAll zW_DB [.ref 0, .ref 8] (I, J) = some (none, (I2, J2))) : zv_X2_finish_DB_58 I J l2 l3 l5 l6 = zv_X2_finish_DB_63 I2 J2 l2 l3 l5 l6 := by
  have e : ∀ k : zm_S → zm_R, zm_step zT_X2_finish zW_DB k (58, [some (.ref 0), some (.ref 8), some (.int l2), some (.long l3), none, some (.int l5), some (.int l6)], [], (I, J)) = zm_app (2, some 2, true, [], zF_X2_growAll) zW_DB [.ref 0, .ref 8] (I, J) (fun v N => k (63, [some (.ref 0), some (.ref 8), some (.int l2), some (.long l3), none, some (.int l5), some (.int l6)], v.toList ++ [], N)) := fun k => rfl
  have g := zm_app_s (C := (2, some 2, true, [], zF_X2_growAll)) (wl := zW_DB) (as := [.ref 0, .ref 8]) (M := (I, J)) (k := fun v N => zm_V zT_X2_finish zW_DB (63, [some (.ref 0), some (.ref 8), some (.int l2), some (.long l3), none, some (.int l5), some (.int l6)], v.toList ++ [], N)) rfl rfl hF
  exact (zm_V_eq _ _ _).trans ((e _).trans g)
theorem zq_X2_finish_DB_63 (I : Nat → Nat → Int32) (J : Nat → Nat → Int64) (l2 : Int32) (l3 : Int64) (l5 : Int32) (l6 : Int32) : zv_X2_finish_DB_63 I J l2 l3 l5 l6 = some (none, (I, J)) := (zm_V_eq _ _ _).trans ((fun (k : zm_S → zm_R) => (rfl : zm_step zT_X2_finish zW_DB k (63, [some (.ref 0), some (.ref 8), some (.int l2), some (.long l3), none, some (.int l5), some (.int l6)], [], (I, J)) = some (none, (I, J)))) (zm_V zT_X2_finish zW_DB))
theorem zf_X2_finish_DB (I : Nat → Nat → Int32) (J : Nat → Nat → Int64) (l2 : Int32) (l3 : Int64) : zF_X2_finish zW_DB [.ref 0, .ref 8, .int l2, .long l3] (I, J) = zv_X2_finish_DB_0 I J l2 l3 := rfl
noncomputable def zv_X2_moveAll_DB_0 (I : Nat → Nat → Int32) (J : Nat → Nat → Int64) (l2 : Int32) : zm_R := zm_V zT_X2_moveAll zW_DB (0, [some (.ref 0), some (.ref 8), some (.int l2), none, none, none], [], (I, J))
noncomputable def zv_X2_moveAll_DB_2 (I : Nat → Nat → Int32) (J : Nat → Nat → Int64) (l2 : Int32) (l3 : Int32) (l4 : Option Value) (l5 : Option Value) : zm_R := zm_V zT_X2_moveAll zW_DB (2, [some (.ref 0), some (.ref 8), some (.int l2), some (.int l3), l4, l5], [], (I, J))
noncomputable def zv_X2_moveAll_DB_10 (I : Nat → Nat → Int32) (J : Nat → Nat → Int64) (l2 : Int32) (l3 : Int32) (l4 : Option Value) (l5 : Option Value) : zm_R := zm_V zT_X2_moveAll zW_DB (10, [some (.ref 0), some (.ref 8), some (.int l2), some (.int l3), l4, l5], [], (I, J))
noncomputable def zv_X2_moveAll_DB_36 (I : Nat → Nat → Int32) (J : Nat → Nat → Int64) (l2 : Int32) (l3 : Int32) (l4 : Int32) (l5 : Int32) : zm_R := zm_V zT_X2_moveAll zW_DB (36, [some (.ref 0), some (.ref 8), some (.int l2), some (.int l3), some (.int l4), some (.int l5)], [], (I, J))
noncomputable def zv_X2_moveAll_DB_47 (I : Nat → Nat → Int32) (J : Nat → Nat → Int64) (l2 : Int32) (l3 : Int32) (l4 : Int32) (l5 : Int32) : zm_R := zm_V zT_X2_moveAll zW_DB (47, [some (.ref 0), some (.ref 8), some (.int l2), some (.int l3), some (.int l4), some (.int l5)], [], (I, J))
noncomputable def zv_X2_moveAll_DB_58 (I : Nat → Nat → Int32) (J : Nat → Nat → Int64) (l2 : Int32) (l3 : Int32) (l4 : Int32) (l5 : Int32) : zm_R := zm_V zT_X2_moveAll zW_DB (58, [some (.ref 0), some (.ref 8), some (.int l2), some (.int l3), some (.int l4), some (.int l5)], [], (I, J))
noncomputable def zv_X2_moveAll_DB_64 (I : Nat → Nat → Int32) (J : Nat → Nat → Int64) (l2 : Int32) (l3 : Int32) (l4 : Int32) (l5 : Int32) : zm_R := zm_V zT_X2_moveAll zW_DB (64, [some (.ref 0), some (.ref 8), some (.int l2), some (.int l3), some (.int l4), some (.int l5)], [], (I, J))
noncomputable def zv_X2_moveAll_DB_94 (I : Nat → Nat → Int32) (J : Nat → Nat → Int64) (l2 : Int32) (l3 : Int32) (l4 : Int32) (l5 : Int32) : zm_R := zm_V zT_X2_moveAll zW_DB (94, [some (.ref 0), some (.ref 8), some (.int l2), some (.int l3), some (.int l4), some (.int l5)], [], (I, J))
noncomputable def zv_X2_moveAll_DB_100 (I : Nat → Nat → Int32) (J : Nat → Nat → Int64) (l2 : Int32) (l3 : Int32) (l4 : Option Value) (l5 : Option Value) : zm_R := zm_V zT_X2_moveAll zW_DB (100, [some (.ref 0), some (.ref 8), some (.int l2), some (.int l3), l4, l5], [], (I, J))
theorem zq_X2_moveAll_DB_0 (I : Nat → Nat → Int32) (J : Nat → Nat → Int64) (l2 : Int32) : zv_X2_moveAll_DB_0 I J l2 = zv_X2_moveAll_DB_2 I J l2 0 none none := (zm_V_eq _ _ _).trans ((fun (k : zm_S → zm_R) => (rfl : zm_step zT_X2_moveAll zW_DB k (0, [some (.ref 0), some (.ref 8), some (.int l2), none, none, none], [], (I, J)) = k (2, [some (.ref 0), some (.ref 8), some (.int l2), some (.int 0), none, none], [], (I, J)))) (zm_V zT_X2_moveAll zW_DB))
theorem zq_X2_moveAll_DB_2 (I : Nat → Nat → Int32) (J : Nat → Nat → Int64) (l2 : Int32) (l3 : Int32) (l4 : Option Value) (l5 : Option Value) : zv_X2_moveAll_DB_2 I J l2 l3 l4 l5 = if (I 8 7) ≤ l3 then zv_X2_moveAll_DB_100 I J l2 l3 l4 l5 else zv_X2_moveAll_DB_10 I J l2 l3 l4 l5 := (zm_V_eq _ _ _).trans ((fun (k : zm_S → zm_R) => (rfl : zm_step zT_X2_moveAll zW_DB k (2, [some (.ref 0), some (.ref 8), some (.int l2), some (.int l3), l4, l5], [], (I, J)) = if (I 8 7) ≤ l3 then k (100, [some (.ref 0), some (.ref 8), some (.int l2), some (.int l3), l4, l5], [], (I, J)) else k (10, [some (.ref 0), some (.ref 8), some (.int l2), some (.int l3), l4, l5], [], (I, J)))) (zm_V zT_X2_moveAll zW_DB))
theorem zq_X2_moveAll_DB_10 (I : Nat → Nat → Int32) (J : Nat → Nat → Int64) (l2 : Int32) (l3 : Int32) (l4 : Option Value) (l5 : Option Value) : zv_X2_moveAll_DB_10 I J l2 l3 l4 l5 = if (l3 : Int32) < 0 ∨ 41 ≤ Int32.toNatClampNeg l3 then none else if (l3 : Int32) < 0 ∨ 41 ≤ Int32.toNatClampNeg l3 then none else if (l3 : Int32) < 0 ∨ 41 ≤ Int32.toNatClampNeg l3 then none else if (I 17 (Int32.toNatClampNeg l3)) = l2 then zv_X2_moveAll_DB_36 I J l2 l3 (I 15 (Int32.toNatClampNeg l3)) (I 16 (Int32.toNatClampNeg l3)) else zv_X2_moveAll_DB_94 I J l2 l3 (I 15 (Int32.toNatClampNeg l3)) (I 16 (Int32.toNatClampNeg l3)) := (zm_V_eq _ _ _).trans ((fun (k : zm_S → zm_R) => (rfl : zm_step zT_X2_moveAll zW_DB k (10, [some (.ref 0), some (.ref 8), some (.int l2), some (.int l3), l4, l5], [], (I, J)) = if (l3 : Int32) < 0 ∨ 41 ≤ Int32.toNatClampNeg l3 then none else if (l3 : Int32) < 0 ∨ 41 ≤ Int32.toNatClampNeg l3 then none else if (l3 : Int32) < 0 ∨ 41 ≤ Int32.toNatClampNeg l3 then none else if (I 17 (Int32.toNatClampNeg l3)) = l2 then k (36, [some (.ref 0), some (.ref 8), some (.int l2), some (.int l3), some (.int (I 15 (Int32.toNatClampNeg l3))), some (.int (I 16 (Int32.toNatClampNeg l3)))], [], (I, J)) else k (94, [some (.ref 0), some (.ref 8), some (.int l2), some (.int l3), some (.int (I 15 (Int32.toNatClampNeg l3))), some (.int (I 16 (Int32.toNatClampNeg l3)))], [], (I, J)))) (zm_V zT_X2_moveAll zW_DB))
theorem zq_X2_moveAll_DB_36 (I : Nat → Nat → Int32) (J : Nat → Nat → Int64) (l2 : Int32) (l3 : Int32) (l4 : Int32) (l5 : Int32) : zv_X2_moveAll_DB_36 I J l2 l3 l4 l5 = if (l4 : Int32) < 0 ∨ 5 ≤ Int32.toNatClampNeg l4 then none else if (I 1 (Int32.toNatClampNeg l4)) < (-1) then zv_X2_moveAll_DB_94 I J l2 l3 l4 l5 else zv_X2_moveAll_DB_47 I J l2 l3 l4 l5 := (zm_V_eq _ _ _).trans ((fun (k : zm_S → zm_R) => (rfl : zm_step zT_X2_moveAll zW_DB k (36, [some (.ref 0), some (.ref 8), some (.int l2), some (.int l3), some (.int l4), some (.int l5)], [], (I, J)) = if (l4 : Int32) < 0 ∨ 5 ≤ Int32.toNatClampNeg l4 then none else if (I 1 (Int32.toNatClampNeg l4)) < (-1) then k (94, [some (.ref 0), some (.ref 8), some (.int l2), some (.int l3), some (.int l4), some (.int l5)], [], (I, J)) else k (47, [some (.ref 0), some (.ref 8), some (.int l2), some (.int l3), some (.int l4), some (.int l5)], [], (I, J)))) (zm_V zT_X2_moveAll zW_DB))
theorem zq_X2_moveAll_DB_47 (I : Nat → Nat → Int32) (J : Nat → Nat → Int64) (l2 : Int32) (l3 : Int32) (l4 : Int32) (l5 : Int32) : zv_X2_moveAll_DB_47 I J l2 l3 l4 l5 = if (l5 : Int32) < 0 ∨ 6 ≤ Int32.toNatClampNeg l5 then none else if (I 7 (Int32.toNatClampNeg l5)) = (-1) then zv_X2_moveAll_DB_58 I J l2 l3 l4 l5 else zv_X2_moveAll_DB_94 I J l2 l3 l4 l5 := (zm_V_eq _ _ _).trans ((fun (k : zm_S → zm_R) => (rfl : zm_step zT_X2_moveAll zW_DB k (47, [some (.ref 0), some (.ref 8), some (.int l2), some (.int l3), some (.int l4), some (.int l5)], [], (I, J)) = if (l5 : Int32) < 0 ∨ 6 ≤ Int32.toNatClampNeg l5 then none else if (I 7 (Int32.toNatClampNeg l5)) = (-1) then k (58, [some (.ref 0), some (.ref 8), some (.int l2), some (.int l3), some (.int l4), some (.int l5)], [], (I, J)) else k (94, [some (.ref 0), some (.ref 8), some (.int l2), some (.int l3), some (.int l4), some (.int l5)], [], (I, J)))) (zm_V zT_X2_moveAll zW_DB))
theorem zc_X2_moveAll_DB_58 (I : Nat → Nat → Int32) (J : Nat → Nat → Int64) (l2 : Int32) (l3 : Int32) (l4 : Int32) (l5 : Int32) {I2 : Nat → Nat → Int32} {J2 : Nat → Nat → Int64} (hF : zF_X2_leaveSeat zW_DB [.ref 0, .int l4] (I, J) = some (none, (I2, J2))) : zv_X2_moveAll_DB_58 I J l2 l3 l4 l5 = zv_X2_moveAll_DB_64 I2 J2 l2 l3 l4 l5 := by
  have e : ∀ k : zm_S → zm_R, zm_step zT_X2_moveAll zW_DB k (58, [some (.ref 0), some (.ref 8), some (.int l2), some (.int l3), some (.int l4), some (.int l5)], [], (I, J)) = zm_app (2, some 2, true, [], zF_X2_leaveSeat) zW_DB [.ref 0, .int l4] (I, J) (fun v N => k (64, [some (.ref 0), some (.ref 8), some (.int l2), some (.int l3), some (.int l4), some (.int l5)], v.toList ++ [], N)) := fun k => rfl
  have g := zm_app_s (C := (2, some 2, true, [], zF_X2_leaveSeat)) (wl := zW_DB) (as := [.ref 0, .int l4]) (M := (I, J)) (k := fun v N => zm_V zT_X2_moveAll zW_DB (64, [some (.ref 0), some (.ref 8), some (.int l2), some (.int l3), some (.int l4), some (.int l5)], v.toList ++ [], N)) rfl rfl hF
  exact (zm_V_eq _ _ _).trans ((e _).trans g)
theorem zq_X2_moveAll_DB_64 (I : Nat → Nat → Int32) (J : Nat → Nat → Int64) (l2 : Int32) (l3 : Int32) (l4 : Int32) (l5 : Int32) : zv_X2_moveAll_DB_64 I J l2 l3 l4 l5 = if (l5 : Int32) < 0 ∨ 6 ≤ Int32.toNatClampNeg l5 then none else if (l4 : Int32) < 0 ∨ 5 ≤ Int32.toNatClampNeg l4 then none else zv_X2_moveAll_DB_94 (zm_w (zm_w I 7 (Int32.toNatClampNeg l5) l4) 1 (Int32.toNatClampNeg l4) l5) (zm_wl J 0 9 ((J 0 9) ||| (1 <<< (Int32.toInt64 l3 &&& 63)))) l2 l3 l4 l5 := (zm_V_eq _ _ _).trans ((fun (k : zm_S → zm_R) => (rfl : zm_step zT_X2_moveAll zW_DB k (64, [some (.ref 0), some (.ref 8), some (.int l2), some (.int l3), some (.int l4), some (.int l5)], [], (I, J)) = if (l5 : Int32) < 0 ∨ 6 ≤ Int32.toNatClampNeg l5 then none else if (l4 : Int32) < 0 ∨ 5 ≤ Int32.toNatClampNeg l4 then none else k (94, [some (.ref 0), some (.ref 8), some (.int l2), some (.int l3), some (.int l4), some (.int l5)], [], ((zm_w (zm_w I 7 (Int32.toNatClampNeg l5) l4) 1 (Int32.toNatClampNeg l4) l5), (zm_wl J 0 9 ((J 0 9) ||| (1 <<< (Int32.toInt64 l3 &&& 63)))))))) (zm_V zT_X2_moveAll zW_DB))
theorem zq_X2_moveAll_DB_94 (I : Nat → Nat → Int32) (J : Nat → Nat → Int64) (l2 : Int32) (l3 : Int32) (l4 : Int32) (l5 : Int32) : zv_X2_moveAll_DB_94 I J l2 l3 l4 l5 = zv_X2_moveAll_DB_2 I J l2 (l3 + 1) (some (.int l4)) (some (.int l5)) := (zm_V_eq _ _ _).trans ((fun (k : zm_S → zm_R) => (rfl : zm_step zT_X2_moveAll zW_DB k (94, [some (.ref 0), some (.ref 8), some (.int l2), some (.int l3), some (.int l4), some (.int l5)], [], (I, J)) = k (2, [some (.ref 0), some (.ref 8), some (.int l2), some (.int (l3 + 1)), some (.int l4), some (.int l5)], [], (I, J)))) (zm_V zT_X2_moveAll zW_DB))
theorem zq_X2_moveAll_DB_100 (I : Nat → Nat → Int32) (J : Nat → Nat → Int64) (l2 : Int32) (l3 : Int32) (l4 : Option Value) (l5 : Option Value) : zv_X2_moveAll_DB_100 I J l2 l3 l4 l5 = some (none, (I, J)) := (zm_V_eq _ _ _).trans ((fun (k : zm_S → zm_R) => (rfl : zm_step zT_X2_moveAll zW_DB k (100, [some (.ref 0), some (.ref 8), some (.int l2), some (.int l3), l4, l5], [], (I, J)) = some (none, (I, J)))) (zm_V zT_X2_moveAll zW_DB))
theorem zf_X2_moveAll_DB (I : Nat → Nat → Int32) (J : Nat → Nat → Int64) (l2 : Int32) : zF_X2_moveAll zW_DB [.ref 0, .ref 8, .int l2] (I, J) = zv_X2_moveAll_DB_0 I J l2 := rfl
noncomputable def zv_X2_sitDown_DB_0 (I : Nat → Nat → Int32) (J : Nat → Nat → Int64) (l2 : Int32) : zm_R := zm_V zT_X2_sitDown zW_DB (0, [some (.ref 0), some (.ref 8), some (.int l2), none, none], [], (I, J))
noncomputable def zv_X2_sitDown_DB_17 (I : Nat → Nat → Int32) (J : Nat → Nat → Int64) (l2 : Int32) (l3 : Int32) (l4 : Int32) : zm_R := zm_V zT_X2_sitDown zW_DB (17, [some (.ref 0), some (.ref 8), some (.int l2), some (.int l3), some (.int l4)], [], (I, J))
noncomputable def zv_X2_sitDown_DB_26 (I : Nat → Nat → Int32) (J : Nat → Nat → Int64) (l2 : Int32) (l3 : Int32) (l4 : Int32) : zm_R := zm_V zT_X2_sitDown zW_DB (26, [some (.ref 0), some (.ref 8), some (.int l2), some (.int l3), some (.int l4)], [], (I, J))
noncomputable def zv_X2_sitDown_DB_36 (I : Nat → Nat → Int32) (J : Nat → Nat → Int64) (l2 : Int32) (l3 : Int32) (l4 : Int32) : zm_R := zm_V zT_X2_sitDown zW_DB (36, [some (.ref 0), some (.ref 8), some (.int l2), some (.int l3), some (.int l4)], [], (I, J))
noncomputable def zv_X2_sitDown_DB_51 (I : Nat → Nat → Int32) (J : Nat → Nat → Int64) (l2 : Int32) (l3 : Int32) (l4 : Int32) : zm_R := zm_V zT_X2_sitDown zW_DB (51, [some (.ref 0), some (.ref 8), some (.int l2), some (.int l3), some (.int l4)], [], (I, J))
noncomputable def zv_X2_sitDown_DB_61 (I : Nat → Nat → Int32) (J : Nat → Nat → Int64) (l2 : Int32) (l3 : Int32) (l4 : Int32) : zm_R := zm_V zT_X2_sitDown zW_DB (61, [some (.ref 0), some (.ref 8), some (.int l2), some (.int l3), some (.int l4)], [], (I, J))
noncomputable def zv_X2_sitDown_DB_67 (I : Nat → Nat → Int32) (J : Nat → Nat → Int64) (l2 : Int32) (l3 : Int32) (l4 : Int32) : zm_R := zm_V zT_X2_sitDown zW_DB (67, [some (.ref 0), some (.ref 8), some (.int l2), some (.int l3), some (.int l4)], [], (I, J))
noncomputable def zv_X2_sitDown_DB_68 (I : Nat → Nat → Int32) (J : Nat → Nat → Int64) (l2 : Int32) (l3 : Int32) (l4 : Int32) (s0 : Int32) : zm_R := zm_V zT_X2_sitDown zW_DB (68, [some (.ref 0), some (.ref 8), some (.int l2), some (.int l3), some (.int l4)], [.int s0], (I, J))
noncomputable def zv_X2_sitDown_DB_75 (I : Nat → Nat → Int32) (J : Nat → Nat → Int64) (l2 : Int32) (l3 : Int32) (l4 : Int32) : zm_R := zm_V zT_X2_sitDown zW_DB (75, [some (.ref 0), some (.ref 8), some (.int l2), some (.int l3), some (.int l4)], [], (I, J))
theorem zq_X2_sitDown_DB_0 (I : Nat → Nat → Int32) (J : Nat → Nat → Int64) (l2 : Int32) : zv_X2_sitDown_DB_0 I J l2 = if (l2 : Int32) < 0 ∨ 5 ≤ Int32.toNatClampNeg l2 then none else if (l2 : Int32) < 0 ∨ 5 ≤ Int32.toNatClampNeg l2 then none else zv_X2_sitDown_DB_17 (zm_w I 1 (Int32.toNatClampNeg l2) (-1)) J l2 ((zm_w I 1 (Int32.toNatClampNeg l2) (-1)) 12 (Int32.toNatClampNeg l2)) 0 := (zm_V_eq _ _ _).trans ((fun (k : zm_S → zm_R) => (rfl : zm_step zT_X2_sitDown zW_DB k (0, [some (.ref 0), some (.ref 8), some (.int l2), none, none], [], (I, J)) = if (l2 : Int32) < 0 ∨ 5 ≤ Int32.toNatClampNeg l2 then none else if (l2 : Int32) < 0 ∨ 5 ≤ Int32.toNatClampNeg l2 then none else k (17, [some (.ref 0), some (.ref 8), some (.int l2), some (.int ((zm_w I 1 (Int32.toNatClampNeg l2) (-1)) 12 (Int32.toNatClampNeg l2))), some (.int 0)], [], ((zm_w I 1 (Int32.toNatClampNeg l2) (-1)), J)))) (zm_V zT_X2_sitDown zW_DB))
theorem zq_X2_sitDown_DB_17 (I : Nat → Nat → Int32) (J : Nat → Nat → Int64) (l2 : Int32) (l3 : Int32) (l4 : Int32) : zv_X2_sitDown_DB_17 I J l2 l3 l4 = if (I 8 5) ≤ l4 then zv_X2_sitDown_DB_75 I J l2 l3 l4 else zv_X2_sitDown_DB_26 I J l2 l3 l4 := (zm_V_eq _ _ _).trans ((fun (k : zm_S → zm_R) => (rfl : zm_step zT_X2_sitDown zW_DB k (17, [some (.ref 0), some (.ref 8), some (.int l2), some (.int l3), some (.int l4)], [], (I, J)) = if (I 8 5) ≤ l4 then k (75, [some (.ref 0), some (.ref 8), some (.int l2), some (.int l3), some (.int l4)], [], (I, J)) else k (26, [some (.ref 0), some (.ref 8), some (.int l2), some (.int l3), some (.int l4)], [], (I, J)))) (zm_V zT_X2_sitDown zW_DB))
theorem zq_X2_sitDown_DB_26 (I : Nat → Nat → Int32) (J : Nat → Nat → Int64) (l2 : Int32) (l3 : Int32) (l4 : Int32) : zv_X2_sitDown_DB_26 I J l2 l3 l4 = if (l3 : Int32) < 0 ∨ 6 ≤ Int32.toNatClampNeg l3 then none else if (I 7 (Int32.toNatClampNeg l3)) = (-1) then zv_X2_sitDown_DB_36 I J l2 l3 l4 else zv_X2_sitDown_DB_51 I J l2 l3 l4 := (zm_V_eq _ _ _).trans ((fun (k : zm_S → zm_R) => (rfl : zm_step zT_X2_sitDown zW_DB k (26, [some (.ref 0), some (.ref 8), some (.int l2), some (.int l3), some (.int l4)], [], (I, J)) = if (l3 : Int32) < 0 ∨ 6 ≤ Int32.toNatClampNeg l3 then none else if (I 7 (Int32.toNatClampNeg l3)) = (-1) then k (36, [some (.ref 0), some (.ref 8), some (.int l2), some (.int l3), some (.int l4)], [], (I, J)) else k (51, [some (.ref 0), some (.ref 8), some (.int l2), some (.int l3), some (.int l4)], [], (I, J)))) (zm_V zT_X2_sitDown zW_DB))
theorem zq_X2_sitDown_DB_36 (I : Nat → Nat → Int32) (J : Nat → Nat → Int64) (l2 : Int32) (l3 : Int32) (l4 : Int32) : zv_X2_sitDown_DB_36 I J l2 l3 l4 = if (l3 : Int32) < 0 ∨ 6 ≤ Int32.toNatClampNeg l3 then none else if (l2 : Int32) < 0 ∨ 5 ≤ Int32.toNatClampNeg l2 then none else some (none, ((zm_w (zm_w I 7 (Int32.toNatClampNeg l3) l2) 1 (Int32.toNatClampNeg l2) l3), J)) := (zm_V_eq _ _ _).trans ((fun (k : zm_S → zm_R) => (rfl : zm_step zT_X2_sitDown zW_DB k (36, [some (.ref 0), some (.ref 8), some (.int l2), some (.int l3), some (.int l4)], [], (I, J)) = if (l3 : Int32) < 0 ∨ 6 ≤ Int32.toNatClampNeg l3 then none else if (l2 : Int32) < 0 ∨ 5 ≤ Int32.toNatClampNeg l2 then none else some (none, ((zm_w (zm_w I 7 (Int32.toNatClampNeg l3) l2) 1 (Int32.toNatClampNeg l2) l3), J)))) (zm_V zT_X2_sitDown zW_DB))
theorem zq_X2_sitDown_DB_51 (I : Nat → Nat → Int32) (J : Nat → Nat → Int64) (l2 : Int32) (l3 : Int32) (l4 : Int32) : zv_X2_sitDown_DB_51 I J l2 l3 l4 = if (I 8 5) ≤ (l3 + 1) then zv_X2_sitDown_DB_67 I J l2 l3 l4 else zv_X2_sitDown_DB_61 I J l2 l3 l4 := (zm_V_eq _ _ _).trans ((fun (k : zm_S → zm_R) => (rfl : zm_step zT_X2_sitDown zW_DB k (51, [some (.ref 0), some (.ref 8), some (.int l2), some (.int l3), some (.int l4)], [], (I, J)) = if (I 8 5) ≤ (l3 + 1) then k (67, [some (.ref 0), some (.ref 8), some (.int l2), some (.int l3), some (.int l4)], [], (I, J)) else k (61, [some (.ref 0), some (.ref 8), some (.int l2), some (.int l3), some (.int l4)], [], (I, J)))) (zm_V zT_X2_sitDown zW_DB))
theorem zq_X2_sitDown_DB_61 (I : Nat → Nat → Int32) (J : Nat → Nat → Int64) (l2 : Int32) (l3 : Int32) (l4 : Int32) : zv_X2_sitDown_DB_61 I J l2 l3 l4 = zv_X2_sitDown_DB_68 I J l2 l3 l4 (l3 + 1) := (zm_V_eq _ _ _).trans ((fun (k : zm_S → zm_R) => (rfl : zm_step zT_X2_sitDown zW_DB k (61, [some (.ref 0), some (.ref 8), some (.int l2), some (.int l3), some (.int l4)], [], (I, J)) = k (68, [some (.ref 0), some (.ref 8), some (.int l2), some (.int l3), some (.int l4)], [.int (l3 + 1)], (I, J)))) (zm_V zT_X2_sitDown zW_DB))
theorem zq_X2_sitDown_DB_67 (I : Nat → Nat → Int32) (J : Nat → Nat → Int64) (l2 : Int32) (l3 : Int32) (l4 : Int32) : zv_X2_sitDown_DB_67 I J l2 l3 l4 = zv_X2_sitDown_DB_68 I J l2 l3 l4 0 := (zm_V_eq _ _ _).trans ((fun (k : zm_S → zm_R) => (rfl : zm_step zT_X2_sitDown zW_DB k (67, [some (.ref 0), some (.ref 8), some (.int l2), some (.int l3), some (.int l4)], [], (I, J)) = k (68, [some (.ref 0), some (.ref 8), some (.int l2), some (.int l3), some (.int l4)], [.int 0], (I, J)))) (zm_V zT_X2_sitDown zW_DB))
theorem zq_X2_sitDown_DB_68 (I : Nat → Nat → Int32) (J : Nat → Nat → Int64) (l2 : Int32) (l3 : Int32) (l4 : Int32) (s0 : Int32) : zv_X2_sitDown_DB_68 I J l2 l3 l4 s0 = zv_X2_sitDown_DB_17 I J l2 s0 (l4 + 1) := (zm_V_eq _ _ _).trans ((fun (k : zm_S → zm_R) => (rfl : zm_step zT_X2_sitDown zW_DB k (68, [some (.ref 0), some (.ref 8), some (.int l2), some (.int l3), some (.int l4)], [.int s0], (I, J)) = k (17, [some (.ref 0), some (.ref 8), some (.int l2), some (.int s0), some (.int (l4 + 1))], [], (I, J)))) (zm_V zT_X2_sitDown zW_DB))
theorem zq_X2_sitDown_DB_75 (I : Nat → Nat → Int32) (J : Nat → Nat → Int64) (l2 : Int32) (l3 : Int32) (l4 : Int32) : zv_X2_sitDown_DB_75 I J l2 l3 l4 = some (none, (I, J)) := (zm_V_eq _ _ _).trans ((fun (k : zm_S → zm_R) => (rfl : zm_step zT_X2_sitDown zW_DB k (75, [some (.ref 0), some (.ref 8), some (.int l2), some (.int l3), some (.int l4)], [], (I, J)) = some (none, (I, J)))) (zm_V zT_X2_sitDown zW_DB))
theorem zf_X2_sitDown_DB (I : Nat → Nat → Int32) (J : Nat → Nat → Int64) (l2 : Int32) : zF_X2_sitDown zW_DB [.ref 0, .ref 8, .int l2] (I, J) = zv_X2_sitDown_DB_0 I J l2 := rfl
noncomputable def zv_X2_firstThere_DB_0 (I : Nat → Nat → Int32) (J : Nat → Nat → Int64) : zm_R := zm_V zT_X2_firstThere zW_DB (0, [some (.ref 0), some (.ref 8), none, none], [], (I, J))
noncomputable def zv_X2_firstThere_DB_4 (I : Nat → Nat → Int32) (J : Nat → Nat → Int64) (l2 : Int32) (l3 : Int32) : zm_R := zm_V zT_X2_firstThere zW_DB (4, [some (.ref 0), some (.ref 8), some (.int l2), some (.int l3)], [], (I, J))
noncomputable def zv_X2_firstThere_DB_12 (I : Nat → Nat → Int32) (J : Nat → Nat → Int64) (l2 : Int32) (l3 : Int32) : zm_R := zm_V zT_X2_firstThere zW_DB (12, [some (.ref 0), some (.ref 8), some (.int l2), some (.int l3)], [], (I, J))
noncomputable def zv_X2_firstThere_DB_22 (I : Nat → Nat → Int32) (J : Nat → Nat → Int64) (l2 : Int32) (l3 : Int32) : zm_R := zm_V zT_X2_firstThere zW_DB (22, [some (.ref 0), some (.ref 8), some (.int l2), some (.int l3)], [], (I, J))
noncomputable def zv_X2_firstThere_DB_27 (I : Nat → Nat → Int32) (J : Nat → Nat → Int64) (l2 : Int32) (l3 : Int32) : zm_R := zm_V zT_X2_firstThere zW_DB (27, [some (.ref 0), some (.ref 8), some (.int l2), some (.int l3)], [], (I, J))
noncomputable def zv_X2_firstThere_DB_42 (I : Nat → Nat → Int32) (J : Nat → Nat → Int64) (l2 : Int32) (l3 : Int32) : zm_R := zm_V zT_X2_firstThere zW_DB (42, [some (.ref 0), some (.ref 8), some (.int l2), some (.int l3)], [], (I, J))
noncomputable def zv_X2_firstThere_DB_44 (I : Nat → Nat → Int32) (J : Nat → Nat → Int64) (l2 : Int32) (l3 : Int32) : zm_R := zm_V zT_X2_firstThere zW_DB (44, [some (.ref 0), some (.ref 8), some (.int l2), some (.int l3)], [], (I, J))
noncomputable def zv_X2_firstThere_DB_50 (I : Nat → Nat → Int32) (J : Nat → Nat → Int64) (l2 : Int32) (l3 : Int32) : zm_R := zm_V zT_X2_firstThere zW_DB (50, [some (.ref 0), some (.ref 8), some (.int l2), some (.int l3)], [], (I, J))
theorem zq_X2_firstThere_DB_0 (I : Nat → Nat → Int32) (J : Nat → Nat → Int64) : zv_X2_firstThere_DB_0 I J = zv_X2_firstThere_DB_4 I J (-1) 0 := (zm_V_eq _ _ _).trans ((fun (k : zm_S → zm_R) => (rfl : zm_step zT_X2_firstThere zW_DB k (0, [some (.ref 0), some (.ref 8), none, none], [], (I, J)) = k (4, [some (.ref 0), some (.ref 8), some (.int (-1)), some (.int 0)], [], (I, J)))) (zm_V zT_X2_firstThere zW_DB))
theorem zq_X2_firstThere_DB_4 (I : Nat → Nat → Int32) (J : Nat → Nat → Int64) (l2 : Int32) (l3 : Int32) : zv_X2_firstThere_DB_4 I J l2 l3 = if (I 8 6) ≤ l3 then zv_X2_firstThere_DB_50 I J l2 l3 else zv_X2_firstThere_DB_12 I J l2 l3 := (zm_V_eq _ _ _).trans ((fun (k : zm_S → zm_R) => (rfl : zm_step zT_X2_firstThere zW_DB k (4, [some (.ref 0), some (.ref 8), some (.int l2), some (.int l3)], [], (I, J)) = if (I 8 6) ≤ l3 then k (50, [some (.ref 0), some (.ref 8), some (.int l2), some (.int l3)], [], (I, J)) else k (12, [some (.ref 0), some (.ref 8), some (.int l2), some (.int l3)], [], (I, J)))) (zm_V zT_X2_firstThere zW_DB))
theorem zq_X2_firstThere_DB_12 (I : Nat → Nat → Int32) (J : Nat → Nat → Int64) (l2 : Int32) (l3 : Int32) : zv_X2_firstThere_DB_12 I J l2 l3 = if (l3 : Int32) < 0 ∨ 5 ≤ Int32.toNatClampNeg l3 then none else if (I 1 (Int32.toNatClampNeg l3)) < (-1) then zv_X2_firstThere_DB_44 I J l2 l3 else zv_X2_firstThere_DB_22 I J l2 l3 := (zm_V_eq _ _ _).trans ((fun (k : zm_S → zm_R) => (rfl : zm_step zT_X2_firstThere zW_DB k (12, [some (.ref 0), some (.ref 8), some (.int l2), some (.int l3)], [], (I, J)) = if (l3 : Int32) < 0 ∨ 5 ≤ Int32.toNatClampNeg l3 then none else if (I 1 (Int32.toNatClampNeg l3)) < (-1) then k (44, [some (.ref 0), some (.ref 8), some (.int l2), some (.int l3)], [], (I, J)) else k (22, [some (.ref 0), some (.ref 8), some (.int l2), some (.int l3)], [], (I, J)))) (zm_V zT_X2_firstThere zW_DB))
theorem zq_X2_firstThere_DB_22 (I : Nat → Nat → Int32) (J : Nat → Nat → Int64) (l2 : Int32) (l3 : Int32) : zv_X2_firstThere_DB_22 I J l2 l3 = if l2 = (-1) then zv_X2_firstThere_DB_42 I J l2 l3 else zv_X2_firstThere_DB_27 I J l2 l3 := (zm_V_eq _ _ _).trans ((fun (k : zm_S → zm_R) => (rfl : zm_step zT_X2_firstThere zW_DB k (22, [some (.ref 0), some (.ref 8), some (.int l2), some (.int l3)], [], (I, J)) = if l2 = (-1) then k (42, [some (.ref 0), some (.ref 8), some (.int l2), some (.int l3)], [], (I, J)) else k (27, [some (.ref 0), some (.ref 8), some (.int l2), some (.int l3)], [], (I, J)))) (zm_V zT_X2_firstThere zW_DB))
theorem zq_X2_firstThere_DB_27 (I : Nat → Nat → Int32) (J : Nat → Nat → Int64) (l2 : Int32) (l3 : Int32) : zv_X2_firstThere_DB_27 I J l2 l3 = if (l3 : Int32) < 0 ∨ 5 ≤ Int32.toNatClampNeg l3 then none else if (l2 : Int32) < 0 ∨ 5 ≤ Int32.toNatClampNeg l2 then none else if (I 11 (Int32.toNatClampNeg l2)) ≤ (I 11 (Int32.toNatClampNeg l3)) then zv_X2_firstThere_DB_44 I J l2 l3 else zv_X2_firstThere_DB_42 I J l2 l3 := (zm_V_eq _ _ _).trans ((fun (k : zm_S → zm_R) => (rfl : zm_step zT_X2_firstThere zW_DB k (27, [some (.ref 0), some (.ref 8), some (.int l2), some (.int l3)], [], (I, J)) = if (l3 : Int32) < 0 ∨ 5 ≤ Int32.toNatClampNeg l3 then none else if (l2 : Int32) < 0 ∨ 5 ≤ Int32.toNatClampNeg l2 then none else if (I 11 (Int32.toNatClampNeg l2)) ≤ (I 11 (Int32.toNatClampNeg l3)) then k (44, [some (.ref 0), some (.ref 8), some (.int l2), some (.int l3)], [], (I, J)) else k (42, [some (.ref 0), some (.ref 8), some (.int l2), some (.int l3)], [], (I, J)))) (zm_V zT_X2_firstThere zW_DB))
theorem zq_X2_firstThere_DB_42 (I : Nat → Nat → Int32) (J : Nat → Nat → Int64) (l2 : Int32) (l3 : Int32) : zv_X2_firstThere_DB_42 I J l2 l3 = zv_X2_firstThere_DB_44 I J l3 l3 := (zm_V_eq _ _ _).trans ((fun (k : zm_S → zm_R) => (rfl : zm_step zT_X2_firstThere zW_DB k (42, [some (.ref 0), some (.ref 8), some (.int l2), some (.int l3)], [], (I, J)) = k (44, [some (.ref 0), some (.ref 8), some (.int l3), some (.int l3)], [], (I, J)))) (zm_V zT_X2_firstThere zW_DB))
theorem zq_X2_firstThere_DB_44 (I : Nat → Nat → Int32) (J : Nat → Nat → Int64) (l2 : Int32) (l3 : Int32) : zv_X2_firstThere_DB_44 I J l2 l3 = zv_X2_firstThere_DB_4 I J l2 (l3 + 1) := (zm_V_eq _ _ _).trans ((fun (k : zm_S → zm_R) => (rfl : zm_step zT_X2_firstThere zW_DB k (44, [some (.ref 0), some (.ref 8), some (.int l2), some (.int l3)], [], (I, J)) = k (4, [some (.ref 0), some (.ref 8), some (.int l2), some (.int (l3 + 1))], [], (I, J)))) (zm_V zT_X2_firstThere zW_DB))
theorem zq_X2_firstThere_DB_50 (I : Nat → Nat → Int32) (J : Nat → Nat → Int64) (l2 : Int32) (l3 : Int32) : zv_X2_firstThere_DB_50 I J l2 l3 = some (some (.int l2), (I, J)) := (zm_V_eq _ _ _).trans ((fun (k : zm_S → zm_R) => (rfl : zm_step zT_X2_firstThere zW_DB k (50, [some (.ref 0), some (.ref 8), some (.int l2), some (.int l3)], [], (I, J)) = some (some (.int l2), (I, J)))) (zm_V zT_X2_firstThere zW_DB))
theorem zf_X2_firstThere_DB (I : Nat → Nat → Int32) (J : Nat → Nat → Int64) : zF_X2_firstThere zW_DB [.ref 0, .ref 8] (I, J) = zv_X2_firstThere_DB_0 I J := rfl
noncomputable def zv_X2_live_DB_0 (I : Nat → Nat → Int32) (J : Nat → Nat → Int64) (l2 : Int64) : zm_R := zm_V zT_X2_live zW_DB (0, [some (.ref 0), some (.ref 8), some (.long l2), none, none], [], (I, J))
noncomputable def zv_X2_live_DB_5 (I : Nat → Nat → Int32) (J : Nat → Nat → Int64) (l2 : Int64) : zm_R := zm_V zT_X2_live zW_DB (5, [some (.ref 0), some (.ref 8), some (.long l2), none, none], [], (I, J))
noncomputable def zv_X2_live_DB_8 (I : Nat → Nat → Int32) (J : Nat → Nat → Int64) (l2 : Int64) (l4 : Int32) : zm_R := zm_V zT_X2_live zW_DB (8, [some (.ref 0), some (.ref 8), some (.long l2), none, some (.int l4)], [], (I, J))
noncomputable def zv_X2_live_DB_15 (I : Nat → Nat → Int32) (J : Nat → Nat → Int64) (l2 : Int64) (l4 : Int32) : zm_R := zm_V zT_X2_live zW_DB (15, [some (.ref 0), some (.ref 8), some (.long l2), none, some (.int l4)], [], (I, J))
noncomputable def zv_X2_live_DB_26 (I : Nat → Nat → Int32) (J : Nat → Nat → Int64) (l2 : Int64) (l4 : Int32) : zm_R := zm_V zT_X2_live zW_DB (26, [some (.ref 0), some (.ref 8), some (.long l2), none, some (.int l4)], [], (I, J))
noncomputable def zv_X2_live_DB_33 (I : Nat → Nat → Int32) (J : Nat → Nat → Int64) (l2 : Int64) (l4 : Int32) : zm_R := zm_V zT_X2_live zW_DB (33, [some (.ref 0), some (.ref 8), some (.long l2), none, some (.int l4)], [], (I, J))
noncomputable def zv_X2_live_DB_41 (I : Nat → Nat → Int32) (J : Nat → Nat → Int64) (l2 : Int64) (l4 : Int32) : zm_R := zm_V zT_X2_live zW_DB (41, [some (.ref 0), some (.ref 8), some (.long l2), none, some (.int l4)], [], (I, J))
noncomputable def zv_X2_live_DB_47 (I : Nat → Nat → Int32) (J : Nat → Nat → Int64) (l2 : Int64) (l4 : Int32) : zm_R := zm_V zT_X2_live zW_DB (47, [some (.ref 0), some (.ref 8), some (.long l2), none, some (.int l4)], [], (I, J))
theorem zc_X2_live_DB_0 (I : Nat → Nat → Int32) (J : Nat → Nat → Int64) (l2 : Int64) {I2 : Nat → Nat → Int32} {J2 : Nat → Nat → Int64} (hF : zF_X2_dawn zW_DB [.ref 0, .ref 8] (I, J) = some (none, (I2, J2))) : zv_X2_live_DB_0 I J l2 = zv_X2_live_DB_5 I2 J2 l2 := by
  have e : ∀ k : zm_S → zm_R, zm_step zT_X2_live zW_DB k (0, [some (.ref 0), some (.ref 8), some (.long l2), none, none], [], (I, J)) = zm_app (2, some 2, true, [], zF_X2_dawn) zW_DB [.ref 0, .ref 8] (I, J) (fun v N => k (5, [some (.ref 0), some (.ref 8), some (.long l2), none, none], v.toList ++ [], N)) := fun k => rfl
  have g := zm_app_s (C := (2, some 2, true, [], zF_X2_dawn)) (wl := zW_DB) (as := [.ref 0, .ref 8]) (M := (I, J)) (k := fun v N => zm_V zT_X2_live zW_DB (5, [some (.ref 0), some (.ref 8), some (.long l2), none, none], v.toList ++ [], N)) rfl rfl hF
  exact (zm_V_eq _ _ _).trans ((e _).trans g)
theorem zq_X2_live_DB_5 (I : Nat → Nat → Int32) (J : Nat → Nat → Int64) (l2 : Int64) : zv_X2_live_DB_5 I J l2 = zv_X2_live_DB_8 I J l2 0 := (zm_V_eq _ _ _).trans ((fun (k : zm_S → zm_R) => (rfl : zm_step zT_X2_live zW_DB k (5, [some (.ref 0), some (.ref 8), some (.long l2), none, none], [], (I, J)) = k (8, [some (.ref 0), some (.ref 8), some (.long l2), none, some (.int 0)], [], (I, J)))) (zm_V zT_X2_live zW_DB))
theorem zq_X2_live_DB_8 (I : Nat → Nat → Int32) (J : Nat → Nat → Int64) (l2 : Int64) (l4 : Int32) : zv_X2_live_DB_8 I J l2 l4 = if 60 < l4 then zv_X2_live_DB_47 I J l2 l4 else zv_X2_live_DB_15 I J l2 l4 := (zm_V_eq _ _ _).trans ((fun (k : zm_S → zm_R) => (rfl : zm_step zT_X2_live zW_DB k (8, [some (.ref 0), some (.ref 8), some (.long l2), none, some (.int l4)], [], (I, J)) = if 60 < l4 then k (47, [some (.ref 0), some (.ref 8), some (.long l2), none, some (.int l4)], [], (I, J)) else k (15, [some (.ref 0), some (.ref 8), some (.long l2), none, some (.int l4)], [], (I, J)))) (zm_V zT_X2_live zW_DB))
theorem zq_X2_live_DB_15 (I : Nat → Nat → Int32) (J : Nat → Nat → Int64) (l2 : Int64) (l4 : Int32) : zv_X2_live_DB_15 I J l2 l4 = if (I 8 6) ≤ (I 0 7) then zv_X2_live_DB_47 I J l2 l4 else zv_X2_live_DB_26 I J l2 l4 := (zm_V_eq _ _ _).trans ((fun (k : zm_S → zm_R) => (rfl : zm_step zT_X2_live zW_DB k (15, [some (.ref 0), some (.ref 8), some (.long l2), none, some (.int l4)], [], (I, J)) = if (I 8 6) ≤ (I 0 7) then k (47, [some (.ref 0), some (.ref 8), some (.long l2), none, some (.int l4)], [], (I, J)) else k (26, [some (.ref 0), some (.ref 8), some (.long l2), none, some (.int l4)], [], (I, J)))) (zm_V zT_X2_live zW_DB))
theorem zc_X2_live_DB_26 (I : Nat → Nat → Int32) (J : Nat → Nat → Int64) (l2 : Int64) (l4 : Int32) {I2 : Nat → Nat → Int32} {J2 : Nat → Nat → Int64} (hF : zF_X2_settle zW_DB [.ref 0, .ref 8, .int l4] (I, J) = some (none, (I2, J2))) : zv_X2_live_DB_26 I J l2 l4 = zv_X2_live_DB_33 I2 J2 l2 l4 := by
  have e : ∀ k : zm_S → zm_R, zm_step zT_X2_live zW_DB k (26, [some (.ref 0), some (.ref 8), some (.long l2), none, some (.int l4)], [], (I, J)) = zm_app (3, some 2, true, [], zF_X2_settle) zW_DB [.ref 0, .ref 8, .int l4] (I, J) (fun v N => k (33, [some (.ref 0), some (.ref 8), some (.long l2), none, some (.int l4)], v.toList ++ [], N)) := fun k => rfl
  have g := zm_app_s (C := (3, some 2, true, [], zF_X2_settle)) (wl := zW_DB) (as := [.ref 0, .ref 8, .int l4]) (M := (I, J)) (k := fun v N => zm_V zT_X2_live zW_DB (33, [some (.ref 0), some (.ref 8), some (.long l2), none, some (.int l4)], v.toList ++ [], N)) rfl rfl hF
  exact (zm_V_eq _ _ _).trans ((e _).trans g)
theorem zc_X2_live_DB_33 (I : Nat → Nat → Int32) (J : Nat → Nat → Int64) (l2 : Int64) (l4 : Int32) {I2 : Nat → Nat → Int32} {J2 : Nat → Nat → Int64} (hF : zF_X2_finish zW_DB [.ref 0, .ref 8, .int l4, .long l2] (I, J) = some (none, (I2, J2))) : zv_X2_live_DB_33 I J l2 l4 = zv_X2_live_DB_41 I2 J2 l2 l4 := by
  have e : ∀ k : zm_S → zm_R, zm_step zT_X2_live zW_DB k (33, [some (.ref 0), some (.ref 8), some (.long l2), none, some (.int l4)], [], (I, J)) = zm_app (4, some 2, true, [], zF_X2_finish) zW_DB [.ref 0, .ref 8, .int l4, .long l2] (I, J) (fun v N => k (41, [some (.ref 0), some (.ref 8), some (.long l2), none, some (.int l4)], v.toList ++ [], N)) := fun k => rfl
  have g := zm_app_s (C := (4, some 2, true, [], zF_X2_finish)) (wl := zW_DB) (as := [.ref 0, .ref 8, .int l4, .long l2]) (M := (I, J)) (k := fun v N => zm_V zT_X2_live zW_DB (41, [some (.ref 0), some (.ref 8), some (.long l2), none, some (.int l4)], v.toList ++ [], N)) rfl rfl hF
  exact (zm_V_eq _ _ _).trans ((e _).trans g)
theorem zq_X2_live_DB_41 (I : Nat → Nat → Int32) (J : Nat → Nat → Int64) (l2 : Int64) (l4 : Int32) : zv_X2_live_DB_41 I J l2 l4 = zv_X2_live_DB_8 I J l2 (l4 + 1) := (zm_V_eq _ _ _).trans ((fun (k : zm_S → zm_R) => (rfl : zm_step zT_X2_live zW_DB k (41, [some (.ref 0), some (.ref 8), some (.long l2), none, some (.int l4)], [], (I, J)) = k (8, [some (.ref 0), some (.ref 8), some (.long l2), none, some (.int (l4 + 1))], [], (I, J)))) (zm_V zT_X2_live zW_DB))
theorem zq_X2_live_DB_47 (I : Nat → Nat → Int32) (J : Nat → Nat → Int64) (l2 : Int64) (l4 : Int32) : zv_X2_live_DB_47 I J l2 l4 = some (none, (I, J)) := (zm_V_eq _ _ _).trans ((fun (k : zm_S → zm_R) => (rfl : zm_step zT_X2_live zW_DB k (47, [some (.ref 0), some (.ref 8), some (.long l2), none, some (.int l4)], [], (I, J)) = some (none, (I, J)))) (zm_V zT_X2_live zW_DB))
theorem zf_X2_live_DB (I : Nat → Nat → Int32) (J : Nat → Nat → Int64) (l2 : Int64) : zF_X2_live zW_DB [.ref 0, .ref 8, .long l2] (I, J) = zv_X2_live_DB_0 I J l2 := rfl
noncomputable def zv_X2_leaveSeat_D_0 (I : Nat → Nat → Int32) (J : Nat → Nat → Int64) (l1 : Int32) : zm_R := zm_V zT_X2_leaveSeat zW_D (0, [some (.ref 0), some (.int l1)], [], (I, J))
noncomputable def zv_X2_leaveSeat_D_9 (I : Nat → Nat → Int32) (J : Nat → Nat → Int64) (l1 : Int32) : zm_R := zm_V zT_X2_leaveSeat zW_D (9, [some (.ref 0), some (.int l1)], [], (I, J))
noncomputable def zv_X2_leaveSeat_D_21 (I : Nat → Nat → Int32) (J : Nat → Nat → Int64) (l1 : Int32) : zm_R := zm_V zT_X2_leaveSeat zW_D (21, [some (.ref 0), some (.int l1)], [], (I, J))
theorem zq_X2_leaveSeat_D_0 (I : Nat → Nat → Int32) (J : Nat → Nat → Int64) (l1 : Int32) : zv_X2_leaveSeat_D_0 I J l1 = if (l1 : Int32) < 0 ∨ 5 ≤ Int32.toNatClampNeg l1 then none else if (I 1 (Int32.toNatClampNeg l1)) < 0 then zv_X2_leaveSeat_D_21 I J l1 else zv_X2_leaveSeat_D_9 I J l1 := (zm_V_eq _ _ _).trans ((fun (k : zm_S → zm_R) => (rfl : zm_step zT_X2_leaveSeat zW_D k (0, [some (.ref 0), some (.int l1)], [], (I, J)) = if (l1 : Int32) < 0 ∨ 5 ≤ Int32.toNatClampNeg l1 then none else if (I 1 (Int32.toNatClampNeg l1)) < 0 then k (21, [some (.ref 0), some (.int l1)], [], (I, J)) else k (9, [some (.ref 0), some (.int l1)], [], (I, J)))) (zm_V zT_X2_leaveSeat zW_D))
theorem zq_X2_leaveSeat_D_9 (I : Nat → Nat → Int32) (J : Nat → Nat → Int64) (l1 : Int32) : zv_X2_leaveSeat_D_9 I J l1 = if (l1 : Int32) < 0 ∨ 5 ≤ Int32.toNatClampNeg l1 then none else if ((I 1 (Int32.toNatClampNeg l1)) : Int32) < 0 ∨ 6 ≤ Int32.toNatClampNeg (I 1 (Int32.toNatClampNeg l1)) then none else zv_X2_leaveSeat_D_21 (zm_w I 7 (Int32.toNatClampNeg (I 1 (Int32.toNatClampNeg l1))) (-1)) J l1 := (zm_V_eq _ _ _).trans ((fun (k : zm_S → zm_R) => (rfl : zm_step zT_X2_leaveSeat zW_D k (9, [some (.ref 0), some (.int l1)], [], (I, J)) = if (l1 : Int32) < 0 ∨ 5 ≤ Int32.toNatClampNeg l1 then none else if ((I 1 (Int32.toNatClampNeg l1)) : Int32) < 0 ∨ 6 ≤ Int32.toNatClampNeg (I 1 (Int32.toNatClampNeg l1)) then none else k (21, [some (.ref 0), some (.int l1)], [], ((zm_w I 7 (Int32.toNatClampNeg (I 1 (Int32.toNatClampNeg l1))) (-1)), J)))) (zm_V zT_X2_leaveSeat zW_D))
theorem zq_X2_leaveSeat_D_21 (I : Nat → Nat → Int32) (J : Nat → Nat → Int64) (l1 : Int32) : zv_X2_leaveSeat_D_21 I J l1 = some (none, (I, J)) := (zm_V_eq _ _ _).trans ((fun (k : zm_S → zm_R) => (rfl : zm_step zT_X2_leaveSeat zW_D k (21, [some (.ref 0), some (.int l1)], [], (I, J)) = some (none, (I, J)))) (zm_V zT_X2_leaveSeat zW_D))
theorem zf_X2_leaveSeat_D (I : Nat → Nat → Int32) (J : Nat → Nat → Int64) (l1 : Int32) : zF_X2_leaveSeat zW_D [.ref 0, .int l1] (I, J) = zv_X2_leaveSeat_D_0 I J l1 := rfl
noncomputable def zv_X2_leaveSeat_DB_0 (I : Nat → Nat → Int32) (J : Nat → Nat → Int64) (l1 : Int32) : zm_R := zm_V zT_X2_leaveSeat zW_DB (0, [some (.ref 0), some (.int l1)], [], (I, J))
noncomputable def zv_X2_leaveSeat_DB_9 (I : Nat → Nat → Int32) (J : Nat → Nat → Int64) (l1 : Int32) : zm_R := zm_V zT_X2_leaveSeat zW_DB (9, [some (.ref 0), some (.int l1)], [], (I, J))
noncomputable def zv_X2_leaveSeat_DB_21 (I : Nat → Nat → Int32) (J : Nat → Nat → Int64) (l1 : Int32) : zm_R := zm_V zT_X2_leaveSeat zW_DB (21, [some (.ref 0), some (.int l1)], [], (I, J))
theorem zq_X2_leaveSeat_DB_0 (I : Nat → Nat → Int32) (J : Nat → Nat → Int64) (l1 : Int32) : zv_X2_leaveSeat_DB_0 I J l1 = if (l1 : Int32) < 0 ∨ 5 ≤ Int32.toNatClampNeg l1 then none else if (I 1 (Int32.toNatClampNeg l1)) < 0 then zv_X2_leaveSeat_DB_21 I J l1 else zv_X2_leaveSeat_DB_9 I J l1 := (zm_V_eq _ _ _).trans ((fun (k : zm_S → zm_R) => (rfl : zm_step zT_X2_leaveSeat zW_DB k (0, [some (.ref 0), some (.int l1)], [], (I, J)) = if (l1 : Int32) < 0 ∨ 5 ≤ Int32.toNatClampNeg l1 then none else if (I 1 (Int32.toNatClampNeg l1)) < 0 then k (21, [some (.ref 0), some (.int l1)], [], (I, J)) else k (9, [some (.ref 0), some (.int l1)], [], (I, J)))) (zm_V zT_X2_leaveSeat zW_DB))
theorem zq_X2_leaveSeat_DB_9 (I : Nat → Nat → Int32) (J : Nat → Nat → Int64) (l1 : Int32) : zv_X2_leaveSeat_DB_9 I J l1 = if (l1 : Int32) < 0 ∨ 5 ≤ Int32.toNatClampNeg l1 then none else if ((I 1 (Int32.toNatClampNeg l1)) : Int32) < 0 ∨ 6 ≤ Int32.toNatClampNeg (I 1 (Int32.toNatClampNeg l1)) then none else zv_X2_leaveSeat_DB_21 (zm_w I 7 (Int32.toNatClampNeg (I 1 (Int32.toNatClampNeg l1))) (-1)) J l1 := (zm_V_eq _ _ _).trans ((fun (k : zm_S → zm_R) => (rfl : zm_step zT_X2_leaveSeat zW_DB k (9, [some (.ref 0), some (.int l1)], [], (I, J)) = if (l1 : Int32) < 0 ∨ 5 ≤ Int32.toNatClampNeg l1 then none else if ((I 1 (Int32.toNatClampNeg l1)) : Int32) < 0 ∨ 6 ≤ Int32.toNatClampNeg (I 1 (Int32.toNatClampNeg l1)) then none else k (21, [some (.ref 0), some (.int l1)], [], ((zm_w I 7 (Int32.toNatClampNeg (I 1 (Int32.toNatClampNeg l1))) (-1)), J)))) (zm_V zT_X2_leaveSeat zW_DB))
theorem zq_X2_leaveSeat_DB_21 (I : Nat → Nat → Int32) (J : Nat → Nat → Int64) (l1 : Int32) : zv_X2_leaveSeat_DB_21 I J l1 = some (none, (I, J)) := (zm_V_eq _ _ _).trans ((fun (k : zm_S → zm_R) => (rfl : zm_step zT_X2_leaveSeat zW_DB k (21, [some (.ref 0), some (.int l1)], [], (I, J)) = some (none, (I, J)))) (zm_V zT_X2_leaveSeat zW_DB))
theorem zf_X2_leaveSeat_DB (I : Nat → Nat → Int32) (J : Nat → Nat → Int64) (l1 : Int32) : zF_X2_leaveSeat zW_DB [.ref 0, .int l1] (I, J) = zv_X2_leaveSeat_DB_0 I J l1 := rfl
noncomputable def zv_X2_admit_D_0 (I : Nat → Nat → Int32) (J : Nat → Nat → Int64) (l1 : Int32) (l2 : Int32) : zm_R := zm_V zT_X2_admit zW_D (0, [some (.ref 0), some (.int l1), some (.int l2)], [], (I, J))
noncomputable def zv_X2_admit_D_5 (I : Nat → Nat → Int32) (J : Nat → Nat → Int64) (l1 : Int32) (l2 : Int32) : zm_R := zm_V zT_X2_admit zW_D (5, [some (.ref 0), some (.int l1), some (.int l2)], [], (I, J))
noncomputable def zv_X2_admit_D_6 (I : Nat → Nat → Int32) (J : Nat → Nat → Int64) (l1 : Int32) (l2 : Int32) : zm_R := zm_V zT_X2_admit zW_D (6, [some (.ref 0), some (.int l1), some (.int l2)], [], (I, J))
noncomputable def zv_X2_admit_D_11 (I : Nat → Nat → Int32) (J : Nat → Nat → Int64) (l1 : Int32) (l2 : Int32) : zm_R := zm_V zT_X2_admit zW_D (11, [some (.ref 0), some (.int l1), some (.int l2)], [], (I, J))
theorem zq_X2_admit_D_0 (I : Nat → Nat → Int32) (J : Nat → Nat → Int64) (l1 : Int32) (l2 : Int32) : zv_X2_admit_D_0 I J l1 l2 = if l1 = (-1) then zv_X2_admit_D_5 I J l1 l2 else zv_X2_admit_D_6 I J l1 l2 := (zm_V_eq _ _ _).trans ((fun (k : zm_S → zm_R) => (rfl : zm_step zT_X2_admit zW_D k (0, [some (.ref 0), some (.int l1), some (.int l2)], [], (I, J)) = if l1 = (-1) then k (5, [some (.ref 0), some (.int l1), some (.int l2)], [], (I, J)) else k (6, [some (.ref 0), some (.int l1), some (.int l2)], [], (I, J)))) (zm_V zT_X2_admit zW_D))
theorem zq_X2_admit_D_5 (I : Nat → Nat → Int32) (J : Nat → Nat → Int64) (l1 : Int32) (l2 : Int32) : zv_X2_admit_D_5 I J l1 l2 = some (none, (I, J)) := (zm_V_eq _ _ _).trans ((fun (k : zm_S → zm_R) => (rfl : zm_step zT_X2_admit zW_D k (5, [some (.ref 0), some (.int l1), some (.int l2)], [], (I, J)) = some (none, (I, J)))) (zm_V zT_X2_admit zW_D))
theorem zc_X2_admit_D_6 (I : Nat → Nat → Int32) (J : Nat → Nat → Int64) (l1 : Int32) (l2 : Int32) {I2 : Nat → Nat → Int32} {J2 : Nat → Nat → Int64} (hF : zF_X2_leaveSeat zW_D [.ref 0, .int l1] (I, J) = some (none, (I2, J2))) : zv_X2_admit_D_6 I J l1 l2 = zv_X2_admit_D_11 I2 J2 l1 l2 := by
  have e : ∀ k : zm_S → zm_R, zm_step zT_X2_admit zW_D k (6, [some (.ref 0), some (.int l1), some (.int l2)], [], (I, J)) = zm_app (2, some 2, true, [], zF_X2_leaveSeat) zW_D [.ref 0, .int l1] (I, J) (fun v N => k (11, [some (.ref 0), some (.int l1), some (.int l2)], v.toList ++ [], N)) := fun k => rfl
  have g := zm_app_s (C := (2, some 2, true, [], zF_X2_leaveSeat)) (wl := zW_D) (as := [.ref 0, .int l1]) (M := (I, J)) (k := fun v N => zm_V zT_X2_admit zW_D (11, [some (.ref 0), some (.int l1), some (.int l2)], v.toList ++ [], N)) rfl rfl hF
  exact (zm_V_eq _ _ _).trans ((e _).trans g)
theorem zq_X2_admit_D_11 (I : Nat → Nat → Int32) (J : Nat → Nat → Int64) (l1 : Int32) (l2 : Int32) : zv_X2_admit_D_11 I J l1 l2 = if (l1 : Int32) < 0 ∨ 5 ≤ Int32.toNatClampNeg l1 then none else if (l1 : Int32) < 0 ∨ 5 ≤ Int32.toNatClampNeg l1 then none else if (l1 : Int32) < 0 ∨ 5 ≤ Int32.toNatClampNeg l1 then none else if (l1 : Int32) < 0 ∨ 5 ≤ Int32.toNatClampNeg l1 then none else some (none, ((zm_w (zm_w (zm_w (zm_w I 1 (Int32.toNatClampNeg l1) (-3)) 5 (Int32.toNatClampNeg l1) l2) 6 (Int32.toNatClampNeg l1) ((zm_w (zm_w I 1 (Int32.toNatClampNeg l1) (-3)) 5 (Int32.toNatClampNeg l1) l2) 2 (Int32.toNatClampNeg l1))) 0 7 (((zm_w (zm_w (zm_w I 1 (Int32.toNatClampNeg l1) (-3)) 5 (Int32.toNatClampNeg l1) l2) 6 (Int32.toNatClampNeg l1) ((zm_w (zm_w I 1 (Int32.toNatClampNeg l1) (-3)) 5 (Int32.toNatClampNeg l1) l2) 2 (Int32.toNatClampNeg l1))) 0 7) + 1)), J)) := (zm_V_eq _ _ _).trans ((fun (k : zm_S → zm_R) => (rfl : zm_step zT_X2_admit zW_D k (11, [some (.ref 0), some (.int l1), some (.int l2)], [], (I, J)) = if (l1 : Int32) < 0 ∨ 5 ≤ Int32.toNatClampNeg l1 then none else if (l1 : Int32) < 0 ∨ 5 ≤ Int32.toNatClampNeg l1 then none else if (l1 : Int32) < 0 ∨ 5 ≤ Int32.toNatClampNeg l1 then none else if (l1 : Int32) < 0 ∨ 5 ≤ Int32.toNatClampNeg l1 then none else some (none, ((zm_w (zm_w (zm_w (zm_w I 1 (Int32.toNatClampNeg l1) (-3)) 5 (Int32.toNatClampNeg l1) l2) 6 (Int32.toNatClampNeg l1) ((zm_w (zm_w I 1 (Int32.toNatClampNeg l1) (-3)) 5 (Int32.toNatClampNeg l1) l2) 2 (Int32.toNatClampNeg l1))) 0 7 (((zm_w (zm_w (zm_w I 1 (Int32.toNatClampNeg l1) (-3)) 5 (Int32.toNatClampNeg l1) l2) 6 (Int32.toNatClampNeg l1) ((zm_w (zm_w I 1 (Int32.toNatClampNeg l1) (-3)) 5 (Int32.toNatClampNeg l1) l2) 2 (Int32.toNatClampNeg l1))) 0 7) + 1)), J)))) (zm_V zT_X2_admit zW_D))
theorem zf_X2_admit_D (I : Nat → Nat → Int32) (J : Nat → Nat → Int64) (l1 : Int32) (l2 : Int32) : zF_X2_admit zW_D [.ref 0, .int l1, .int l2] (I, J) = zv_X2_admit_D_0 I J l1 l2 := rfl
noncomputable def zv_X2_admit_DB_0 (I : Nat → Nat → Int32) (J : Nat → Nat → Int64) (l1 : Int32) (l2 : Int32) : zm_R := zm_V zT_X2_admit zW_DB (0, [some (.ref 0), some (.int l1), some (.int l2)], [], (I, J))
noncomputable def zv_X2_admit_DB_5 (I : Nat → Nat → Int32) (J : Nat → Nat → Int64) (l1 : Int32) (l2 : Int32) : zm_R := zm_V zT_X2_admit zW_DB (5, [some (.ref 0), some (.int l1), some (.int l2)], [], (I, J))
noncomputable def zv_X2_admit_DB_6 (I : Nat → Nat → Int32) (J : Nat → Nat → Int64) (l1 : Int32) (l2 : Int32) : zm_R := zm_V zT_X2_admit zW_DB (6, [some (.ref 0), some (.int l1), some (.int l2)], [], (I, J))
noncomputable def zv_X2_admit_DB_11 (I : Nat → Nat → Int32) (J : Nat → Nat → Int64) (l1 : Int32) (l2 : Int32) : zm_R := zm_V zT_X2_admit zW_DB (11, [some (.ref 0), some (.int l1), some (.int l2)], [], (I, J))
theorem zq_X2_admit_DB_0 (I : Nat → Nat → Int32) (J : Nat → Nat → Int64) (l1 : Int32) (l2 : Int32) : zv_X2_admit_DB_0 I J l1 l2 = if l1 = (-1) then zv_X2_admit_DB_5 I J l1 l2 else zv_X2_admit_DB_6 I J l1 l2 := (zm_V_eq _ _ _).trans ((fun (k : zm_S → zm_R) => (rfl : zm_step zT_X2_admit zW_DB k (0, [some (.ref 0), some (.int l1), some (.int l2)], [], (I, J)) = if l1 = (-1) then k (5, [some (.ref 0), some (.int l1), some (.int l2)], [], (I, J)) else k (6, [some (.ref 0), some (.int l1), some (.int l2)], [], (I, J)))) (zm_V zT_X2_admit zW_DB))
theorem zq_X2_admit_DB_5 (I : Nat → Nat → Int32) (J : Nat → Nat → Int64) (l1 : Int32) (l2 : Int32) : zv_X2_admit_DB_5 I J l1 l2 = some (none, (I, J)) := (zm_V_eq _ _ _).trans ((fun (k : zm_S → zm_R) => (rfl : zm_step zT_X2_admit zW_DB k (5, [some (.ref 0), some (.int l1), some (.int l2)], [], (I, J)) = some (none, (I, J)))) (zm_V zT_X2_admit zW_DB))
theorem zc_X2_admit_DB_6 (I : Nat → Nat → Int32) (J : Nat → Nat → Int64) (l1 : Int32) (l2 : Int32) {I2 : Nat → Nat → Int32} {J2 : Nat → Nat → Int64} (hF : zF_X2_leaveSeat zW_DB [.ref 0, .int l1] (I, J) = some (none, (I2, J2))) : zv_X2_admit_DB_6 I J l1 l2 = zv_X2_admit_DB_11 I2 J2 l1 l2 := by
  have e : ∀ k : zm_S → zm_R, zm_step zT_X2_admit zW_DB k (6, [some (.ref 0), some (.int l1), some (.int l2)], [], (I, J)) = zm_app (2, some 2, true, [], zF_X2_leaveSeat) zW_DB [.ref 0, .int l1] (I, J) (fun v N => k (11, [some (.ref 0), some (.int l1), some (.int l2)], v.toList ++ [], N)) := fun k => rfl
  have g := zm_app_s (C := (2, some 2, true, [], zF_X2_leaveSeat)) (wl := zW_DB) (as := [.ref 0, .int l1]) (M := (I, J)) (k := fun v N => zm_V zT_X2_admit zW_DB (11, [some (.ref 0), some (.int l1), some (.int l2)], v.toList ++ [], N)) rfl rfl hF
  exact (zm_V_eq _ _ _).trans ((e _).trans g)
theorem zq_X2_admit_DB_11 (I : Nat → Nat → Int32) (J : Nat → Nat → Int64) (l1 : Int32) (l2 : Int32) : zv_X2_admit_DB_11 I J l1 l2 = if (l1 : Int32) < 0 ∨ 5 ≤ Int32.toNatClampNeg l1 then none else if (l1 : Int32) < 0 ∨ 5 ≤ Int32.toNatClampNeg l1 then none else if (l1 : Int32) < 0 ∨ 5 ≤ Int32.toNatClampNeg l1 then none else if (l1 : Int32) < 0 ∨ 5 ≤ Int32.toNatClampNeg l1 then none else some (none, ((zm_w (zm_w (zm_w (zm_w I 1 (Int32.toNatClampNeg l1) (-3)) 5 (Int32.toNatClampNeg l1) l2) 6 (Int32.toNatClampNeg l1) ((zm_w (zm_w I 1 (Int32.toNatClampNeg l1) (-3)) 5 (Int32.toNatClampNeg l1) l2) 2 (Int32.toNatClampNeg l1))) 0 7 (((zm_w (zm_w (zm_w I 1 (Int32.toNatClampNeg l1) (-3)) 5 (Int32.toNatClampNeg l1) l2) 6 (Int32.toNatClampNeg l1) ((zm_w (zm_w I 1 (Int32.toNatClampNeg l1) (-3)) 5 (Int32.toNatClampNeg l1) l2) 2 (Int32.toNatClampNeg l1))) 0 7) + 1)), J)) := (zm_V_eq _ _ _).trans ((fun (k : zm_S → zm_R) => (rfl : zm_step zT_X2_admit zW_DB k (11, [some (.ref 0), some (.int l1), some (.int l2)], [], (I, J)) = if (l1 : Int32) < 0 ∨ 5 ≤ Int32.toNatClampNeg l1 then none else if (l1 : Int32) < 0 ∨ 5 ≤ Int32.toNatClampNeg l1 then none else if (l1 : Int32) < 0 ∨ 5 ≤ Int32.toNatClampNeg l1 then none else if (l1 : Int32) < 0 ∨ 5 ≤ Int32.toNatClampNeg l1 then none else some (none, ((zm_w (zm_w (zm_w (zm_w I 1 (Int32.toNatClampNeg l1) (-3)) 5 (Int32.toNatClampNeg l1) l2) 6 (Int32.toNatClampNeg l1) ((zm_w (zm_w I 1 (Int32.toNatClampNeg l1) (-3)) 5 (Int32.toNatClampNeg l1) l2) 2 (Int32.toNatClampNeg l1))) 0 7 (((zm_w (zm_w (zm_w I 1 (Int32.toNatClampNeg l1) (-3)) 5 (Int32.toNatClampNeg l1) l2) 6 (Int32.toNatClampNeg l1) ((zm_w (zm_w I 1 (Int32.toNatClampNeg l1) (-3)) 5 (Int32.toNatClampNeg l1) l2) 2 (Int32.toNatClampNeg l1))) 0 7) + 1)), J)))) (zm_V zT_X2_admit zW_DB))
theorem zf_X2_admit_DB (I : Nat → Nat → Int32) (J : Nat → Nat → Int64) (l1 : Int32) (l2 : Int32) : zF_X2_admit zW_DB [.ref 0, .int l1, .int l2] (I, J) = zv_X2_admit_DB_0 I J l1 l2 := rfl
noncomputable def zv_X0_callsTill_B_0 (I : Nat → Nat → Int32) (J : Nat → Nat → Int64) (l1 : Int32) : zm_R := zm_V zT_X0_callsTill zW_B (0, [some (.ref 0), some (.int l1)], [], (I, J))
noncomputable def zv_X0_callsTill_B_7 (I : Nat → Nat → Int32) (J : Nat → Nat → Int64) (l1 : Int32) : zm_R := zm_V zT_X0_callsTill zW_B (7, [some (.ref 0), some (.int l1)], [], (I, J))
noncomputable def zv_X0_callsTill_B_16 (I : Nat → Nat → Int32) (J : Nat → Nat → Int64) (l1 : Int32) : zm_R := zm_V zT_X0_callsTill zW_B (16, [some (.ref 0), some (.int l1)], [], (I, J))
noncomputable def zv_X0_callsTill_B_17 (I : Nat → Nat → Int32) (J : Nat → Nat → Int64) (l1 : Int32) (s0 : Int32) : zm_R := zm_V zT_X0_callsTill zW_B (17, [some (.ref 0), some (.int l1)], [.int s0], (I, J))
theorem zq_X0_callsTill_B_0 (I : Nat → Nat → Int32) (J : Nat → Nat → Int64) (l1 : Int32) : zv_X0_callsTill_B_0 I J l1 = if (I 0 3) ≤ 0 then zv_X0_callsTill_B_16 I J l1 else zv_X0_callsTill_B_7 I J l1 := (zm_V_eq _ _ _).trans ((fun (k : zm_S → zm_R) => (rfl : zm_step zT_X0_callsTill zW_B k (0, [some (.ref 0), some (.int l1)], [], (I, J)) = if (I 0 3) ≤ 0 then k (16, [some (.ref 0), some (.int l1)], [], (I, J)) else k (7, [some (.ref 0), some (.int l1)], [], (I, J)))) (zm_V zT_X0_callsTill zW_B))
theorem zq_X0_callsTill_B_7 (I : Nat → Nat → Int32) (J : Nat → Nat → Int64) (l1 : Int32) : zv_X0_callsTill_B_7 I J l1 = if ((I 0 3) : Int32) = 0 then none else zv_X0_callsTill_B_17 I J l1 (l1 / (I 0 3)) := (zm_V_eq _ _ _).trans ((fun (k : zm_S → zm_R) => (rfl : zm_step zT_X0_callsTill zW_B k (7, [some (.ref 0), some (.int l1)], [], (I, J)) = if ((I 0 3) : Int32) = 0 then none else k (17, [some (.ref 0), some (.int l1)], [.int (l1 / (I 0 3))], (I, J)))) (zm_V zT_X0_callsTill zW_B))
theorem zq_X0_callsTill_B_16 (I : Nat → Nat → Int32) (J : Nat → Nat → Int64) (l1 : Int32) : zv_X0_callsTill_B_16 I J l1 = zv_X0_callsTill_B_17 I J l1 0 := (zm_V_eq _ _ _).trans ((fun (k : zm_S → zm_R) => (rfl : zm_step zT_X0_callsTill zW_B k (16, [some (.ref 0), some (.int l1)], [], (I, J)) = k (17, [some (.ref 0), some (.int l1)], [.int 0], (I, J)))) (zm_V zT_X0_callsTill zW_B))
theorem zq_X0_callsTill_B_17 (I : Nat → Nat → Int32) (J : Nat → Nat → Int64) (l1 : Int32) (s0 : Int32) : zv_X0_callsTill_B_17 I J l1 s0 = some (some (.int s0), (I, J)) := (zm_V_eq _ _ _).trans ((fun (k : zm_S → zm_R) => (rfl : zm_step zT_X0_callsTill zW_B k (17, [some (.ref 0), some (.int l1)], [.int s0], (I, J)) = some (some (.int s0), (I, J)))) (zm_V zT_X0_callsTill zW_B))
theorem zf_X0_callsTill_B (I : Nat → Nat → Int32) (J : Nat → Nat → Int64) (l1 : Int32) : zF_X0_callsTill zW_B [.ref 0, .int l1] (I, J) = zv_X0_callsTill_B_0 I J l1 := rfl
noncomputable def zv_X3_keep_YB_0 (I : Nat → Nat → Int32) (J : Nat → Nat → Int64) : zm_R := zm_V zT_X3_keep zW_YB (0, [some (.ref 0), some (.ref 11), none], [], (I, J))
noncomputable def zv_X3_keep_YB_8 (I : Nat → Nat → Int32) (J : Nat → Nat → Int64) : zm_R := zm_V zT_X3_keep zW_YB (8, [some (.ref 0), some (.ref 11), none], [], (I, J))
noncomputable def zv_X3_keep_YB_16 (I : Nat → Nat → Int32) (J : Nat → Nat → Int64) : zm_R := zm_V zT_X3_keep zW_YB (16, [some (.ref 0), some (.ref 11), none], [], (I, J))
noncomputable def zv_X3_keep_YB_24 (I : Nat → Nat → Int32) (J : Nat → Nat → Int64) : zm_R := zm_V zT_X3_keep zW_YB (24, [some (.ref 0), some (.ref 11), none], [], (I, J))
noncomputable def zv_X3_keep_YB_26 (I : Nat → Nat → Int32) (J : Nat → Nat → Int64) (l2 : Int32) : zm_R := zm_V zT_X3_keep zW_YB (26, [some (.ref 0), some (.ref 11), some (.int l2)], [], (I, J))
noncomputable def zv_X3_keep_YB_32 (I : Nat → Nat → Int32) (J : Nat → Nat → Int64) (l2 : Int32) : zm_R := zm_V zT_X3_keep zW_YB (32, [some (.ref 0), some (.ref 11), some (.int l2)], [], (I, J))
noncomputable def zv_X3_keep_YB_46 (I : Nat → Nat → Int32) (J : Nat → Nat → Int64) (l2 : Int32) : zm_R := zm_V zT_X3_keep zW_YB (46, [some (.ref 0), some (.ref 11), some (.int l2)], [], (I, J))
noncomputable def zv_X3_keep_YB_55 (I : Nat → Nat → Int32) (J : Nat → Nat → Int64) (l2 : Int32) : zm_R := zm_V zT_X3_keep zW_YB (55, [some (.ref 0), some (.ref 11), some (.int l2)], [], (I, J))
noncomputable def zv_X3_keep_YB_61 (I : Nat → Nat → Int32) (J : Nat → Nat → Int64) (l2 : Int32) : zm_R := zm_V zT_X3_keep zW_YB (61, [some (.ref 0), some (.ref 11), some (.int l2)], [], (I, J))
noncomputable def zv_X3_keep_YB_71 (I : Nat → Nat → Int32) (J : Nat → Nat → Int64) (l2 : Int32) : zm_R := zm_V zT_X3_keep zW_YB (71, [some (.ref 0), some (.ref 11), some (.int l2)], [], (I, J))
noncomputable def zv_X3_keep_YB_77 (I : Nat → Nat → Int32) (J : Nat → Nat → Int64) (l2 : Int32) : zm_R := zm_V zT_X3_keep zW_YB (77, [some (.ref 0), some (.ref 11), some (.int l2)], [], (I, J))
theorem zc_X3_keep_YB_0 (I : Nat → Nat → Int32) (J : Nat → Nat → Int64) {N : zm_I} (hF : zF_J7_fill_53178 [(.inr (.int, 305), [])] [.ref 0, .int (-1)] (zm_sub2 [(9, 1)] (I, J)) = some (none, N)) : zv_X3_keep_YB_0 I J = zv_X3_keep_YB_8 (zm_mrg [(9, 1)] (I, J) N).1 (zm_mrg [(9, 1)] (I, J) N).2  := by
  have e : ∀ k : zm_S → zm_R, zm_step zT_X3_keep zW_YB k (0, [some (.ref 0), some (.ref 11), none], [], (I, J)) = zm_app (2, none, false, [(0, 1)], zF_J7_fill_53178) zW_YB [.ref 9, .int (-1)] (I, J) (fun v N => k (8, [some (.ref 0), some (.ref 11), none], v.toList ++ [], N)) := fun k => rfl
  have g := zm_app_l (C := (2, none, false, [(0, 1)], zF_J7_fill_53178)) (wl := zW_YB) (as := [.ref 9, .int (-1)]) (wc := [(.inr (.int, 305), [])]) (ac := [.ref 0, .int (-1)]) (bs := [(9, 1)]) (M := (I, J)) (k := fun v N => zm_V zT_X3_keep zW_YB (8, [some (.ref 0), some (.ref 11), none], v.toList ++ [], N)) rfl rfl rfl rfl rfl rfl hF
  exact (zm_V_eq _ _ _).trans ((e _).trans g)
theorem zc_X3_keep_YB_8 (I : Nat → Nat → Int32) (J : Nat → Nat → Int64) {N : zm_I} (hF : zF_J7_fill_53178 [(.inr (.int, 305), [])] [.ref 0, .int (-1)] (zm_sub2 [(10, 1)] (I, J)) = some (none, N)) : zv_X3_keep_YB_8 I J = zv_X3_keep_YB_16 (zm_mrg [(10, 1)] (I, J) N).1 (zm_mrg [(10, 1)] (I, J) N).2  := by
  have e : ∀ k : zm_S → zm_R, zm_step zT_X3_keep zW_YB k (8, [some (.ref 0), some (.ref 11), none], [], (I, J)) = zm_app (2, none, false, [(0, 1)], zF_J7_fill_53178) zW_YB [.ref 10, .int (-1)] (I, J) (fun v N => k (16, [some (.ref 0), some (.ref 11), none], v.toList ++ [], N)) := fun k => rfl
  have g := zm_app_l (C := (2, none, false, [(0, 1)], zF_J7_fill_53178)) (wl := zW_YB) (as := [.ref 10, .int (-1)]) (wc := [(.inr (.int, 305), [])]) (ac := [.ref 0, .int (-1)]) (bs := [(10, 1)]) (M := (I, J)) (k := fun v N => zm_V zT_X3_keep zW_YB (16, [some (.ref 0), some (.ref 11), none], v.toList ++ [], N)) rfl rfl rfl rfl rfl rfl hF
  exact (zm_V_eq _ _ _).trans ((e _).trans g)
theorem zc_X3_keep_YB_16 (I : Nat → Nat → Int32) (J : Nat → Nat → Int64) {N : zm_I} (hF : zF_X2_dawn zW_DB [.ref 0, .ref 8] (zm_sub2 [(1, 8), (11, 10)] (I, J)) = some (none, N)) : zv_X3_keep_YB_16 I J = zv_X3_keep_YB_24 (zm_mrg [(1, 8), (11, 10)] (I, J) N).1 (zm_mrg [(1, 8), (11, 10)] (I, J) N).2  := by
  have e : ∀ k : zm_S → zm_R, zm_step zT_X3_keep zW_YB k (16, [some (.ref 0), some (.ref 11), none], [], (I, J)) = zm_app (2, some 2, false, [(0, 8), (1, 10)], zF_X2_dawn) zW_YB [.ref 1, .ref 11] (I, J) (fun v N => k (24, [some (.ref 0), some (.ref 11), none], v.toList ++ [], N)) := fun k => rfl
  have g := zm_app_l (C := (2, some 2, false, [(0, 8), (1, 10)], zF_X2_dawn)) (wl := zW_YB) (as := [.ref 1, .ref 11]) (wc := zW_DB) (ac := [.ref 0, .ref 8]) (bs := [(1, 8), (11, 10)]) (M := (I, J)) (k := fun v N => zm_V zT_X3_keep zW_YB (24, [some (.ref 0), some (.ref 11), none], v.toList ++ [], N)) rfl rfl rfl rfl rfl rfl hF
  exact (zm_V_eq _ _ _).trans ((e _).trans g)
theorem zq_X3_keep_YB_24 (I : Nat → Nat → Int32) (J : Nat → Nat → Int64) : zv_X3_keep_YB_24 I J = zv_X3_keep_YB_26 I J 0 := (zm_V_eq _ _ _).trans ((fun (k : zm_S → zm_R) => (rfl : zm_step zT_X3_keep zW_YB k (24, [some (.ref 0), some (.ref 11), none], [], (I, J)) = k (26, [some (.ref 0), some (.ref 11), some (.int 0)], [], (I, J)))) (zm_V zT_X3_keep zW_YB))
theorem zq_X3_keep_YB_26 (I : Nat → Nat → Int32) (J : Nat → Nat → Int64) (l2 : Int32) : zv_X3_keep_YB_26 I J l2 = if 60 < l2 then zv_X3_keep_YB_77 I J l2 else zv_X3_keep_YB_32 I J l2 := (zm_V_eq _ _ _).trans ((fun (k : zm_S → zm_R) => (rfl : zm_step zT_X3_keep zW_YB k (26, [some (.ref 0), some (.ref 11), some (.int l2)], [], (I, J)) = if 60 < l2 then k (77, [some (.ref 0), some (.ref 11), some (.int l2)], [], (I, J)) else k (32, [some (.ref 0), some (.ref 11), some (.int l2)], [], (I, J)))) (zm_V zT_X3_keep zW_YB))
theorem zq_X3_keep_YB_32 (I : Nat → Nat → Int32) (J : Nat → Nat → Int64) (l2 : Int32) : zv_X3_keep_YB_32 I J l2 = if (I 11 6) ≤ (I 1 7) then zv_X3_keep_YB_77 I J l2 else zv_X3_keep_YB_46 I J l2 := (zm_V_eq _ _ _).trans ((fun (k : zm_S → zm_R) => (rfl : zm_step zT_X3_keep zW_YB k (32, [some (.ref 0), some (.ref 11), some (.int l2)], [], (I, J)) = if (I 11 6) ≤ (I 1 7) then k (77, [some (.ref 0), some (.ref 11), some (.int l2)], [], (I, J)) else k (46, [some (.ref 0), some (.ref 11), some (.int l2)], [], (I, J)))) (zm_V zT_X3_keep zW_YB))
theorem zc_X3_keep_YB_46 (I : Nat → Nat → Int32) (J : Nat → Nat → Int64) (l2 : Int32) {N : zm_I} (hF : zF_X2_settle zW_DB [.ref 0, .ref 8, .int l2] (zm_sub2 [(1, 8), (11, 10)] (I, J)) = some (none, N)) : zv_X3_keep_YB_46 I J l2 = zv_X3_keep_YB_55 (zm_mrg [(1, 8), (11, 10)] (I, J) N).1 (zm_mrg [(1, 8), (11, 10)] (I, J) N).2 l2 := by
  have e : ∀ k : zm_S → zm_R, zm_step zT_X3_keep zW_YB k (46, [some (.ref 0), some (.ref 11), some (.int l2)], [], (I, J)) = zm_app (3, some 2, false, [(0, 8), (1, 10)], zF_X2_settle) zW_YB [.ref 1, .ref 11, .int l2] (I, J) (fun v N => k (55, [some (.ref 0), some (.ref 11), some (.int l2)], v.toList ++ [], N)) := fun k => rfl
  have g := zm_app_l (C := (3, some 2, false, [(0, 8), (1, 10)], zF_X2_settle)) (wl := zW_YB) (as := [.ref 1, .ref 11, .int l2]) (wc := zW_DB) (ac := [.ref 0, .ref 8, .int l2]) (bs := [(1, 8), (11, 10)]) (M := (I, J)) (k := fun v N => zm_V zT_X3_keep zW_YB (55, [some (.ref 0), some (.ref 11), some (.int l2)], v.toList ++ [], N)) rfl rfl rfl rfl rfl rfl hF
  exact (zm_V_eq _ _ _).trans ((e _).trans g)
theorem zc_X3_keep_YB_55 (I : Nat → Nat → Int32) (J : Nat → Nat → Int64) (l2 : Int32) {I2 : Nat → Nat → Int32} {J2 : Nat → Nat → Int64} (hF : zF_X3_note zW_YB [.ref 0, .ref 11, .int l2] (I, J) = some (none, (I2, J2))) : zv_X3_keep_YB_55 I J l2 = zv_X3_keep_YB_61 I2 J2 l2 := by
  have e : ∀ k : zm_S → zm_R, zm_step zT_X3_keep zW_YB k (55, [some (.ref 0), some (.ref 11), some (.int l2)], [], (I, J)) = zm_app (3, some 3, true, [], zF_X3_note) zW_YB [.ref 0, .ref 11, .int l2] (I, J) (fun v N => k (61, [some (.ref 0), some (.ref 11), some (.int l2)], v.toList ++ [], N)) := fun k => rfl
  have g := zm_app_s (C := (3, some 3, true, [], zF_X3_note)) (wl := zW_YB) (as := [.ref 0, .ref 11, .int l2]) (M := (I, J)) (k := fun v N => zm_V zT_X3_keep zW_YB (61, [some (.ref 0), some (.ref 11), some (.int l2)], v.toList ++ [], N)) rfl rfl hF
  exact (zm_V_eq _ _ _).trans ((e _).trans g)
theorem zc_X3_keep_YB_61 (I : Nat → Nat → Int32) (J : Nat → Nat → Int64) (l2 : Int32) {N : zm_I} (hF : zF_X2_finish zW_DB [.ref 0, .ref 8, .int l2, .long 0] (zm_sub2 [(1, 8), (11, 10)] (I, J)) = some (none, N)) : zv_X3_keep_YB_61 I J l2 = zv_X3_keep_YB_71 (zm_mrg [(1, 8), (11, 10)] (I, J) N).1 (zm_mrg [(1, 8), (11, 10)] (I, J) N).2 l2 := by
  have e : ∀ k : zm_S → zm_R, zm_step zT_X3_keep zW_YB k (61, [some (.ref 0), some (.ref 11), some (.int l2)], [], (I, J)) = zm_app (4, some 2, false, [(0, 8), (1, 10)], zF_X2_finish) zW_YB [.ref 1, .ref 11, .int l2, .long 0] (I, J) (fun v N => k (71, [some (.ref 0), some (.ref 11), some (.int l2)], v.toList ++ [], N)) := fun k => rfl
  have g := zm_app_l (C := (4, some 2, false, [(0, 8), (1, 10)], zF_X2_finish)) (wl := zW_YB) (as := [.ref 1, .ref 11, .int l2, .long 0]) (wc := zW_DB) (ac := [.ref 0, .ref 8, .int l2, .long 0]) (bs := [(1, 8), (11, 10)]) (M := (I, J)) (k := fun v N => zm_V zT_X3_keep zW_YB (71, [some (.ref 0), some (.ref 11), some (.int l2)], v.toList ++ [], N)) rfl rfl rfl rfl rfl rfl hF
  exact (zm_V_eq _ _ _).trans ((e _).trans g)
theorem zq_X3_keep_YB_71 (I : Nat → Nat → Int32) (J : Nat → Nat → Int64) (l2 : Int32) : zv_X3_keep_YB_71 I J l2 = zv_X3_keep_YB_26 I J (l2 + 1) := (zm_V_eq _ _ _).trans ((fun (k : zm_S → zm_R) => (rfl : zm_step zT_X3_keep zW_YB k (71, [some (.ref 0), some (.ref 11), some (.int l2)], [], (I, J)) = k (26, [some (.ref 0), some (.ref 11), some (.int (l2 + 1))], [], (I, J)))) (zm_V zT_X3_keep zW_YB))
theorem zq_X3_keep_YB_77 (I : Nat → Nat → Int32) (J : Nat → Nat → Int64) (l2 : Int32) : zv_X3_keep_YB_77 I J l2 = some (none, ((zm_w I 0 1 1), J)) := (zm_V_eq _ _ _).trans ((fun (k : zm_S → zm_R) => (rfl : zm_step zT_X3_keep zW_YB k (77, [some (.ref 0), some (.ref 11), some (.int l2)], [], (I, J)) = some (none, ((zm_w I 0 1 1), J)))) (zm_V zT_X3_keep zW_YB))
theorem zf_X3_keep_YB (I : Nat → Nat → Int32) (J : Nat → Nat → Int64) : zF_X3_keep zW_YB [.ref 0, .ref 11] (I, J) = zv_X3_keep_YB_0 I J := rfl
noncomputable def zv_X3_note_YB_0 (I : Nat → Nat → Int32) (J : Nat → Nat → Int64) (l2 : Int32) : zm_R := zm_V zT_X3_note zW_YB (0, [some (.ref 0), some (.ref 11), some (.int l2), none], [], (I, J))
noncomputable def zv_X3_note_YB_2 (I : Nat → Nat → Int32) (J : Nat → Nat → Int64) (l2 : Int32) (l3 : Int32) : zm_R := zm_V zT_X3_note zW_YB (2, [some (.ref 0), some (.ref 11), some (.int l2), some (.int l3)], [], (I, J))
noncomputable def zv_X3_note_YB_10 (I : Nat → Nat → Int32) (J : Nat → Nat → Int64) (l2 : Int32) (l3 : Int32) : zm_R := zm_V zT_X3_note zW_YB (10, [some (.ref 0), some (.ref 11), some (.int l2), some (.int l3)], [], (I, J))
noncomputable def zv_X3_note_YB_23 (I : Nat → Nat → Int32) (J : Nat → Nat → Int64) (l2 : Int32) (l3 : Int32) : zm_R := zm_V zT_X3_note zW_YB (23, [some (.ref 0), some (.ref 11), some (.int l2), some (.int l3)], [], (I, J))
noncomputable def zv_X3_note_YB_63 (I : Nat → Nat → Int32) (J : Nat → Nat → Int64) (l2 : Int32) (l3 : Int32) (s0 : Int32) : zm_R := zm_V zT_X3_note zW_YB (63, [some (.ref 0), some (.ref 11), some (.int l2), some (.int l3)], [.int s0, .ref 10], (I, J))
noncomputable def zv_X3_note_YB_75 (I : Nat → Nat → Int32) (J : Nat → Nat → Int64) (l2 : Int32) (l3 : Int32) (s0 : Int32) : zm_R := zm_V zT_X3_note zW_YB (75, [some (.ref 0), some (.ref 11), some (.int l2), some (.int l3)], [.int s0, .ref 10], (I, J))
noncomputable def zv_X3_note_YB_76 (I : Nat → Nat → Int32) (J : Nat → Nat → Int64) (l2 : Int32) (l3 : Int32) (s0 : Int32) (s1 : Int32) : zm_R := zm_V zT_X3_note zW_YB (76, [some (.ref 0), some (.ref 11), some (.int l2), some (.int l3)], [.int s0, .int s1, .ref 10], (I, J))
noncomputable def zv_X3_note_YB_77 (I : Nat → Nat → Int32) (J : Nat → Nat → Int64) (l2 : Int32) (l3 : Int32) : zm_R := zm_V zT_X3_note zW_YB (77, [some (.ref 0), some (.ref 11), some (.int l2), some (.int l3)], [], (I, J))
noncomputable def zv_X3_note_YB_83 (I : Nat → Nat → Int32) (J : Nat → Nat → Int64) (l2 : Int32) (l3 : Int32) : zm_R := zm_V zT_X3_note zW_YB (83, [some (.ref 0), some (.ref 11), some (.int l2), some (.int l3)], [], (I, J))
theorem zq_X3_note_YB_0 (I : Nat → Nat → Int32) (J : Nat → Nat → Int64) (l2 : Int32) : zv_X3_note_YB_0 I J l2 = zv_X3_note_YB_2 I J l2 0 := (zm_V_eq _ _ _).trans ((fun (k : zm_S → zm_R) => (rfl : zm_step zT_X3_note zW_YB k (0, [some (.ref 0), some (.ref 11), some (.int l2), none], [], (I, J)) = k (2, [some (.ref 0), some (.ref 11), some (.int l2), some (.int 0)], [], (I, J)))) (zm_V zT_X3_note zW_YB))
theorem zq_X3_note_YB_2 (I : Nat → Nat → Int32) (J : Nat → Nat → Int64) (l2 : Int32) (l3 : Int32) : zv_X3_note_YB_2 I J l2 l3 = if (I 11 6) ≤ l3 then zv_X3_note_YB_83 I J l2 l3 else zv_X3_note_YB_10 I J l2 l3 := (zm_V_eq _ _ _).trans ((fun (k : zm_S → zm_R) => (rfl : zm_step zT_X3_note zW_YB k (2, [some (.ref 0), some (.ref 11), some (.int l2), some (.int l3)], [], (I, J)) = if (I 11 6) ≤ l3 then k (83, [some (.ref 0), some (.ref 11), some (.int l2), some (.int l3)], [], (I, J)) else k (10, [some (.ref 0), some (.ref 11), some (.int l2), some (.int l3)], [], (I, J)))) (zm_V zT_X3_note zW_YB))
theorem zq_X3_note_YB_10 (I : Nat → Nat → Int32) (J : Nat → Nat → Int64) (l2 : Int32) (l3 : Int32) : zv_X3_note_YB_10 I J l2 l3 = if (l3 : Int32) < 0 ∨ 5 ≤ Int32.toNatClampNeg l3 then none else if (I 2 (Int32.toNatClampNeg l3)) < (-1) then zv_X3_note_YB_77 I J l2 l3 else zv_X3_note_YB_23 I J l2 l3 := (zm_V_eq _ _ _).trans ((fun (k : zm_S → zm_R) => (rfl : zm_step zT_X3_note zW_YB k (10, [some (.ref 0), some (.ref 11), some (.int l2), some (.int l3)], [], (I, J)) = if (l3 : Int32) < 0 ∨ 5 ≤ Int32.toNatClampNeg l3 then none else if (I 2 (Int32.toNatClampNeg l3)) < (-1) then k (77, [some (.ref 0), some (.ref 11), some (.int l2), some (.int l3)], [], (I, J)) else k (23, [some (.ref 0), some (.ref 11), some (.int l2), some (.int l3)], [], (I, J)))) (zm_V zT_X3_note zW_YB))
theorem zq_X3_note_YB_23 (I : Nat → Nat → Int32) (J : Nat → Nat → Int64) (l2 : Int32) (l3 : Int32) : zv_X3_note_YB_23 I J l2 l3 = if (l3 : Int32) < 0 ∨ 5 ≤ Int32.toNatClampNeg l3 then none else if (((l2 * 5) + l3) : Int32) < 0 ∨ 305 ≤ Int32.toNatClampNeg ((l2 * 5) + l3) then none else if (l3 : Int32) < 0 ∨ 5 ≤ Int32.toNatClampNeg l3 then none else if ((zm_w I 9 (Int32.toNatClampNeg ((l2 * 5) + l3)) (I 3 (Int32.toNatClampNeg l3))) 2 (Int32.toNatClampNeg l3)) < 0 then zv_X3_note_YB_75 (zm_w I 9 (Int32.toNatClampNeg ((l2 * 5) + l3)) (I 3 (Int32.toNatClampNeg l3))) J l2 l3 ((l2 * 5) + l3) else zv_X3_note_YB_63 (zm_w I 9 (Int32.toNatClampNeg ((l2 * 5) + l3)) (I 3 (Int32.toNatClampNeg l3))) J l2 l3 ((l2 * 5) + l3) := (zm_V_eq _ _ _).trans ((fun (k : zm_S → zm_R) => (rfl : zm_step zT_X3_note zW_YB k (23, [some (.ref 0), some (.ref 11), some (.int l2), some (.int l3)], [], (I, J)) = if (l3 : Int32) < 0 ∨ 5 ≤ Int32.toNatClampNeg l3 then none else if (((l2 * 5) + l3) : Int32) < 0 ∨ 305 ≤ Int32.toNatClampNeg ((l2 * 5) + l3) then none else if (l3 : Int32) < 0 ∨ 5 ≤ Int32.toNatClampNeg l3 then none else if ((zm_w I 9 (Int32.toNatClampNeg ((l2 * 5) + l3)) (I 3 (Int32.toNatClampNeg l3))) 2 (Int32.toNatClampNeg l3)) < 0 then k (75, [some (.ref 0), some (.ref 11), some (.int l2), some (.int l3)], [.int ((l2 * 5) + l3), .ref 10], ((zm_w I 9 (Int32.toNatClampNeg ((l2 * 5) + l3)) (I 3 (Int32.toNatClampNeg l3))), J)) else k (63, [some (.ref 0), some (.ref 11), some (.int l2), some (.int l3)], [.int ((l2 * 5) + l3), .ref 10], ((zm_w I 9 (Int32.toNatClampNeg ((l2 * 5) + l3)) (I 3 (Int32.toNatClampNeg l3))), J)))) (zm_V zT_X3_note zW_YB))
theorem zq_X3_note_YB_63 (I : Nat → Nat → Int32) (J : Nat → Nat → Int64) (l2 : Int32) (l3 : Int32) (s0 : Int32) : zv_X3_note_YB_63 I J l2 l3 s0 = if (l3 : Int32) < 0 ∨ 5 ≤ Int32.toNatClampNeg l3 then none else zv_X3_note_YB_76 I J l2 l3 (I 2 (Int32.toNatClampNeg l3)) s0 := (zm_V_eq _ _ _).trans ((fun (k : zm_S → zm_R) => (rfl : zm_step zT_X3_note zW_YB k (63, [some (.ref 0), some (.ref 11), some (.int l2), some (.int l3)], [.int s0, .ref 10], (I, J)) = if (l3 : Int32) < 0 ∨ 5 ≤ Int32.toNatClampNeg l3 then none else k (76, [some (.ref 0), some (.ref 11), some (.int l2), some (.int l3)], [.int (I 2 (Int32.toNatClampNeg l3)), .int s0, .ref 10], (I, J)))) (zm_V zT_X3_note zW_YB))
theorem zq_X3_note_YB_75 (I : Nat → Nat → Int32) (J : Nat → Nat → Int64) (l2 : Int32) (l3 : Int32) (s0 : Int32) : zv_X3_note_YB_75 I J l2 l3 s0 = zv_X3_note_YB_76 I J l2 l3 (-1) s0 := (zm_V_eq _ _ _).trans ((fun (k : zm_S → zm_R) => (rfl : zm_step zT_X3_note zW_YB k (75, [some (.ref 0), some (.ref 11), some (.int l2), some (.int l3)], [.int s0, .ref 10], (I, J)) = k (76, [some (.ref 0), some (.ref 11), some (.int l2), some (.int l3)], [.int (-1), .int s0, .ref 10], (I, J)))) (zm_V zT_X3_note zW_YB))
theorem zq_X3_note_YB_76 (I : Nat → Nat → Int32) (J : Nat → Nat → Int64) (l2 : Int32) (l3 : Int32) (s0 : Int32) (s1 : Int32) : zv_X3_note_YB_76 I J l2 l3 s0 s1 = if (s1 : Int32) < 0 ∨ 305 ≤ Int32.toNatClampNeg s1 then none else zv_X3_note_YB_77 (zm_w I 10 (Int32.toNatClampNeg s1) s0) J l2 l3 := (zm_V_eq _ _ _).trans ((fun (k : zm_S → zm_R) => (rfl : zm_step zT_X3_note zW_YB k (76, [some (.ref 0), some (.ref 11), some (.int l2), some (.int l3)], [.int s0, .int s1, .ref 10], (I, J)) = if (s1 : Int32) < 0 ∨ 305 ≤ Int32.toNatClampNeg s1 then none else k (77, [some (.ref 0), some (.ref 11), some (.int l2), some (.int l3)], [], ((zm_w I 10 (Int32.toNatClampNeg s1) s0), J)))) (zm_V zT_X3_note zW_YB))
theorem zq_X3_note_YB_77 (I : Nat → Nat → Int32) (J : Nat → Nat → Int64) (l2 : Int32) (l3 : Int32) : zv_X3_note_YB_77 I J l2 l3 = zv_X3_note_YB_2 I J l2 (l3 + 1) := (zm_V_eq _ _ _).trans ((fun (k : zm_S → zm_R) => (rfl : zm_step zT_X3_note zW_YB k (77, [some (.ref 0), some (.ref 11), some (.int l2), some (.int l3)], [], (I, J)) = k (2, [some (.ref 0), some (.ref 11), some (.int l2), some (.int (l3 + 1))], [], (I, J)))) (zm_V zT_X3_note zW_YB))
theorem zq_X3_note_YB_83 (I : Nat → Nat → Int32) (J : Nat → Nat → Int64) (l2 : Int32) (l3 : Int32) : zv_X3_note_YB_83 I J l2 l3 = some (none, (I, J)) := (zm_V_eq _ _ _).trans ((fun (k : zm_S → zm_R) => (rfl : zm_step zT_X3_note zW_YB k (83, [some (.ref 0), some (.ref 11), some (.int l2), some (.int l3)], [], (I, J)) = some (none, (I, J)))) (zm_V zT_X3_note zW_YB))
theorem zf_X3_note_YB (I : Nat → Nat → Int32) (J : Nat → Nat → Int64) (l2 : Int32) : zF_X3_note zW_YB [.ref 0, .ref 11, .int l2] (I, J) = zv_X3_note_YB_0 I J l2 := rfl
noncomputable def zv_X9_livedToday_X_0 (I : Nat → Nat → Int32) (J : Nat → Nat → Int64) : zm_R := zm_V zT_X9_livedToday zW_X (0, [some (.ref 0)], [], (I, J))
noncomputable def zv_X9_livedToday_X_10 (I : Nat → Nat → Int32) (J : Nat → Nat → Int64) : zm_R := zm_V zT_X9_livedToday zW_X (10, [some (.ref 0)], [], (I, J))
noncomputable def zv_X9_livedToday_X_21 (I : Nat → Nat → Int32) (J : Nat → Nat → Int64) : zm_R := zm_V zT_X9_livedToday zW_X (21, [some (.ref 0)], [], (I, J))
set_option maxRecDepth 20000 in
theorem zq_X9_livedToday_X_0 (I : Nat → Nat → Int32) (J : Nat → Nat → Int64) : zv_X9_livedToday_X_0 I J = if (I 21 1) = 0 then zv_X9_livedToday_X_10 I J else zv_X9_livedToday_X_21 I J := (zm_V_eq _ _ _).trans ((fun (k : zm_S → zm_R) => (rfl : zm_step zT_X9_livedToday zW_X k (0, [some (.ref 0)], [], (I, J)) = if (I 21 1) = 0 then k (10, [some (.ref 0)], [], (I, J)) else k (21, [some (.ref 0)], [], (I, J)))) (zm_V zT_X9_livedToday zW_X))
set_option maxRecDepth 20000 in
theorem zc_X9_livedToday_X_10 (I : Nat → Nat → Int32) (J : Nat → Nat → Int64) {N : zm_I} (hF : zF_X3_keep zW_YB [.ref 0, .ref 11] (zm_sub2 [(21, 11), (1, 10)] (I, J)) = some (none, N)) : zv_X9_livedToday_X_10 I J = zv_X9_livedToday_X_21 (zm_mrg [(21, 11), (1, 10)] (I, J) N).1 (zm_mrg [(21, 11), (1, 10)] (I, J) N).2  := by
  have e : ∀ k : zm_S → zm_R, zm_step zT_X9_livedToday zW_X k (10, [some (.ref 0)], [], (I, J)) = zm_app (2, some 3, false, [(0, 11), (1, 10)], zF_X3_keep) zW_X [.ref 21, .ref 1] (I, J) (fun v N => k (21, [some (.ref 0)], v.toList ++ [], N)) := fun k => rfl
  have g := zm_app_l (C := (2, some 3, false, [(0, 11), (1, 10)], zF_X3_keep)) (wl := zW_X) (as := [.ref 21, .ref 1]) (wc := zW_YB) (ac := [.ref 0, .ref 11]) (bs := [(21, 11), (1, 10)]) (M := (I, J)) (k := fun v N => zm_V zT_X9_livedToday zW_X (21, [some (.ref 0)], v.toList ++ [], N)) rfl rfl rfl rfl rfl rfl hF
  exact (zm_V_eq _ _ _).trans ((e _).trans g)
set_option maxRecDepth 20000 in
theorem zq_X9_livedToday_X_21 (I : Nat → Nat → Int32) (J : Nat → Nat → Int64) : zv_X9_livedToday_X_21 I J = some (some (.ref 21), (I, J)) := (zm_V_eq _ _ _).trans ((fun (k : zm_S → zm_R) => (rfl : zm_step zT_X9_livedToday zW_X k (21, [some (.ref 0)], [], (I, J)) = some (some (.ref 21), (I, J)))) (zm_V zT_X9_livedToday zW_X))
theorem zf_X9_livedToday_X (I : Nat → Nat → Int32) (J : Nat → Nat → Int64) : zF_X9_livedToday zW_X [.ref 0] (I, J) = zv_X9_livedToday_X_0 I J := rfl
end
section
/-! EQUATIONS OF STRETCHES, printed by program (wip/law/eqs/gen.py) -/
noncomputable def zv_X10_lays_M_0 (I : Nat → Nat → Int32) (J : Nat → Nat → Int64) : zm_R := zm_V zT_X10_lays zW_M (0, [some (.ref 0), none], [], (I, J))
noncomputable def zv_X10_lays_M_37 (I : Nat → Nat → Int32) (J : Nat → Nat → Int64) (l1 : Int32) : zm_R := zm_V zT_X10_lays zW_M (37, [some (.ref 0), some (.int l1)], [], (I, J))
noncomputable def zv_X10_lays_M_42 (I : Nat → Nat → Int32) (J : Nat → Nat → Int64) (l1 : Int32) (s0 : Int32) (s1 : Int32) : zm_R := zm_V zT_X10_lays zW_M (42, [some (.ref 0), some (.int l1)], [.int s0, .int s1], (I, J))
noncomputable def zv_X10_lays_M_45 (I : Nat → Nat → Int32) (J : Nat → Nat → Int64) (l1 : Int32) : zm_R := zm_V zT_X10_lays zW_M (45, [some (.ref 0), some (.int l1)], [], (I, J))
noncomputable def zv_X10_lays_M_63 (I : Nat → Nat → Int32) (J : Nat → Nat → Int64) (l1 : Int32) : zm_R := zm_V zT_X10_lays zW_M (63, [some (.ref 0), some (.int l1)], [], (I, J))
noncomputable def zv_X10_lays_M_65 (I : Nat → Nat → Int32) (J : Nat → Nat → Int64) (l1 : Int32) : zm_R := zm_V zT_X10_lays zW_M (65, [some (.ref 0), some (.int l1)], [], (I, J))
noncomputable def zv_X10_lays_M_70 (I : Nat → Nat → Int32) (J : Nat → Nat → Int64) (l1 : Int32) (s0 : Int32) (s1 : Int32) : zm_R := zm_V zT_X10_lays zW_M (70, [some (.ref 0), some (.int l1)], [.int s0, .int s1], (I, J))
noncomputable def zv_X10_lays_M_73 (I : Nat → Nat → Int32) (J : Nat → Nat → Int64) (l1 : Int32) : zm_R := zm_V zT_X10_lays zW_M (73, [some (.ref 0), some (.int l1)], [], (I, J))
noncomputable def zv_X10_lays_M_125 (I : Nat → Nat → Int32) (J : Nat → Nat → Int64) (l1 : Int32) : zm_R := zm_V zT_X10_lays zW_M (125, [some (.ref 0), some (.int l1)], [], (I, J))
set_option maxRecDepth 20000 in
theorem zq_X10_lays_M_0 (I : Nat → Nat → Int32) (J : Nat → Nat → Int64) : zv_X10_lays_M_0 I J = if (0 : Int32) < 0 ∨ 35 ≤ Int32.toNatClampNeg 0 then none else if (2 : Int32) < 0 ∨ 35 ≤ Int32.toNatClampNeg 2 then none else zv_X10_lays_M_37 (zm_w (zm_w (zm_w (zm_w I 0 22 (I 7 (Int32.toNatClampNeg 0))) 0 23 ((zm_w I 0 22 (I 7 (Int32.toNatClampNeg 0))) 7 (Int32.toNatClampNeg 2))) 0 24 0) 0 25 (-1)) (zm_wl J 0 28 0) 0 := (zm_V_eq _ _ _).trans ((fun (k : zm_S → zm_R) => (rfl : zm_step zT_X10_lays zW_M k (0, [some (.ref 0), none], [], (I, J)) = if (0 : Int32) < 0 ∨ 35 ≤ Int32.toNatClampNeg 0 then none else if (2 : Int32) < 0 ∨ 35 ≤ Int32.toNatClampNeg 2 then none else k (37, [some (.ref 0), some (.int 0)], [], ((zm_w (zm_w (zm_w (zm_w I 0 22 (I 7 (Int32.toNatClampNeg 0))) 0 23 ((zm_w I 0 22 (I 7 (Int32.toNatClampNeg 0))) 7 (Int32.toNatClampNeg 2))) 0 24 0) 0 25 (-1)), (zm_wl J 0 28 0))))) (zm_V zT_X10_lays zW_M))
set_option maxRecDepth 20000 in
theorem zc_X10_lays_M_37 (I : Nat → Nat → Int32) (J : Nat → Nat → Int64) (l1 : Int32) {I2 : Nat → Nat → Int32} {J2 : Nat → Nat → Int64} {r : Int32} (hF : zF_X10_seats zW_M [.ref 0] (I, J) = some (some (.int r), (I2, J2))) : zv_X10_lays_M_37 I J l1 = zv_X10_lays_M_42 I2 J2 l1 r l1 := by
  have e : ∀ k : zm_S → zm_R, zm_step zT_X10_lays zW_M k (37, [some (.ref 0), some (.int l1)], [], (I, J)) = zm_app (1, some 10, true, [], zF_X10_seats) zW_M [.ref 0] (I, J) (fun v N => k (42, [some (.ref 0), some (.int l1)], v.toList ++ [.int l1], N)) := fun k => rfl
  have g := zm_app_s (C := (1, some 10, true, [], zF_X10_seats)) (wl := zW_M) (as := [.ref 0]) (M := (I, J)) (k := fun v N => zm_V zT_X10_lays zW_M (42, [some (.ref 0), some (.int l1)], v.toList ++ [.int l1], N)) rfl rfl hF
  exact (zm_V_eq _ _ _).trans ((e _).trans g)
set_option maxRecDepth 20000 in
theorem zq_X10_lays_M_42 (I : Nat → Nat → Int32) (J : Nat → Nat → Int64) (l1 : Int32) (s0 : Int32) (s1 : Int32) : zv_X10_lays_M_42 I J l1 s0 s1 = if s0 ≤ s1 then zv_X10_lays_M_63 I J l1 else zv_X10_lays_M_45 I J l1 := (zm_V_eq _ _ _).trans ((fun (k : zm_S → zm_R) => (rfl : zm_step zT_X10_lays zW_M k (42, [some (.ref 0), some (.int l1)], [.int s0, .int s1], (I, J)) = if s0 ≤ s1 then k (63, [some (.ref 0), some (.int l1)], [], (I, J)) else k (45, [some (.ref 0), some (.int l1)], [], (I, J)))) (zm_V zT_X10_lays zW_M))
set_option maxRecDepth 20000 in
theorem zq_X10_lays_M_45 (I : Nat → Nat → Int32) (J : Nat → Nat → Int64) (l1 : Int32) : zv_X10_lays_M_45 I J l1 = if (l1 : Int32) < 0 ∨ 30 ≤ Int32.toNatClampNeg l1 then none else if (l1 : Int32) < 0 ∨ 6 ≤ Int32.toNatClampNeg l1 then none else zv_X10_lays_M_37 (zm_w I 12 (Int32.toNatClampNeg l1) (I 8 (Int32.toNatClampNeg l1))) J (l1 + 1) := (zm_V_eq _ _ _).trans ((fun (k : zm_S → zm_R) => (rfl : zm_step zT_X10_lays zW_M k (45, [some (.ref 0), some (.int l1)], [], (I, J)) = if (l1 : Int32) < 0 ∨ 30 ≤ Int32.toNatClampNeg l1 then none else if (l1 : Int32) < 0 ∨ 6 ≤ Int32.toNatClampNeg l1 then none else k (37, [some (.ref 0), some (.int (l1 + 1))], [], ((zm_w I 12 (Int32.toNatClampNeg l1) (I 8 (Int32.toNatClampNeg l1))), J)))) (zm_V zT_X10_lays zW_M))
set_option maxRecDepth 20000 in
theorem zq_X10_lays_M_63 (I : Nat → Nat → Int32) (J : Nat → Nat → Int64) (l1 : Int32) : zv_X10_lays_M_63 I J l1 = zv_X10_lays_M_65 I J 0 := (zm_V_eq _ _ _).trans ((fun (k : zm_S → zm_R) => (rfl : zm_step zT_X10_lays zW_M k (63, [some (.ref 0), some (.int l1)], [], (I, J)) = k (65, [some (.ref 0), some (.int 0)], [], (I, J)))) (zm_V zT_X10_lays zW_M))
set_option maxRecDepth 20000 in
theorem zc_X10_lays_M_65 (I : Nat → Nat → Int32) (J : Nat → Nat → Int64) (l1 : Int32) {I2 : Nat → Nat → Int32} {J2 : Nat → Nat → Int64} {r : Int32} (hF : zF_X10_callers zW_M [.ref 0] (I, J) = some (some (.int r), (I2, J2))) : zv_X10_lays_M_65 I J l1 = zv_X10_lays_M_70 I2 J2 l1 r l1 := by
  have e : ∀ k : zm_S → zm_R, zm_step zT_X10_lays zW_M k (65, [some (.ref 0), some (.int l1)], [], (I, J)) = zm_app (1, some 10, true, [], zF_X10_callers) zW_M [.ref 0] (I, J) (fun v N => k (70, [some (.ref 0), some (.int l1)], v.toList ++ [.int l1], N)) := fun k => rfl
  have g := zm_app_s (C := (1, some 10, true, [], zF_X10_callers)) (wl := zW_M) (as := [.ref 0]) (M := (I, J)) (k := fun v N => zm_V zT_X10_lays zW_M (70, [some (.ref 0), some (.int l1)], v.toList ++ [.int l1], N)) rfl rfl hF
  exact (zm_V_eq _ _ _).trans ((e _).trans g)
set_option maxRecDepth 20000 in
theorem zq_X10_lays_M_70 (I : Nat → Nat → Int32) (J : Nat → Nat → Int64) (l1 : Int32) (s0 : Int32) (s1 : Int32) : zv_X10_lays_M_70 I J l1 s0 s1 = if s0 ≤ s1 then zv_X10_lays_M_125 I J l1 else zv_X10_lays_M_73 I J l1 := (zm_V_eq _ _ _).trans ((fun (k : zm_S → zm_R) => (rfl : zm_step zT_X10_lays zW_M k (70, [some (.ref 0), some (.int l1)], [.int s0, .int s1], (I, J)) = if s0 ≤ s1 then k (125, [some (.ref 0), some (.int l1)], [], (I, J)) else k (73, [some (.ref 0), some (.int l1)], [], (I, J)))) (zm_V zT_X10_lays zW_M))
set_option maxRecDepth 20000 in
theorem zq_X10_lays_M_73 (I : Nat → Nat → Int32) (J : Nat → Nat → Int64) (l1 : Int32) : zv_X10_lays_M_73 I J l1 = if ((5 * l1) : Int32) < 0 ∨ 125 ≤ Int32.toNatClampNeg (5 * l1) then none else if (l1 : Int32) < 0 ∨ 5 ≤ Int32.toNatClampNeg l1 then none else if (((5 * l1) + 1) : Int32) < 0 ∨ 125 ≤ Int32.toNatClampNeg ((5 * l1) + 1) then none else if (l1 : Int32) < 0 ∨ 5 ≤ Int32.toNatClampNeg l1 then none else if (((5 * l1) + 2) : Int32) < 0 ∨ 125 ≤ Int32.toNatClampNeg ((5 * l1) + 2) then none else if (l1 : Int32) < 0 ∨ 5 ≤ Int32.toNatClampNeg l1 then none else zv_X10_lays_M_65 (zm_w (zm_w (zm_w I 13 (Int32.toNatClampNeg l1) (I 9 (Int32.toNatClampNeg (5 * l1)))) 14 (Int32.toNatClampNeg l1) ((zm_w I 13 (Int32.toNatClampNeg l1) (I 9 (Int32.toNatClampNeg (5 * l1)))) 9 (Int32.toNatClampNeg ((5 * l1) + 1)))) 15 (Int32.toNatClampNeg l1) ((zm_w (zm_w I 13 (Int32.toNatClampNeg l1) (I 9 (Int32.toNatClampNeg (5 * l1)))) 14 (Int32.toNatClampNeg l1) ((zm_w I 13 (Int32.toNatClampNeg l1) (I 9 (Int32.toNatClampNeg (5 * l1)))) 9 (Int32.toNatClampNeg ((5 * l1) + 1)))) 9 (Int32.toNatClampNeg ((5 * l1) + 2)))) J (l1 + 1) := (zm_V_eq _ _ _).trans ((fun (k : zm_S → zm_R) => (rfl : zm_step zT_X10_lays zW_M k (73, [some (.ref 0), some (.int l1)], [], (I, J)) = if ((5 * l1) : Int32) < 0 ∨ 125 ≤ Int32.toNatClampNeg (5 * l1) then none else if (l1 : Int32) < 0 ∨ 5 ≤ Int32.toNatClampNeg l1 then none else if (((5 * l1) + 1) : Int32) < 0 ∨ 125 ≤ Int32.toNatClampNeg ((5 * l1) + 1) then none else if (l1 : Int32) < 0 ∨ 5 ≤ Int32.toNatClampNeg l1 then none else if (((5 * l1) + 2) : Int32) < 0 ∨ 125 ≤ Int32.toNatClampNeg ((5 * l1) + 2) then none else if (l1 : Int32) < 0 ∨ 5 ≤ Int32.toNatClampNeg l1 then none else k (65, [some (.ref 0), some (.int (l1 + 1))], [], ((zm_w (zm_w (zm_w I 13 (Int32.toNatClampNeg l1) (I 9 (Int32.toNatClampNeg (5 * l1)))) 14 (Int32.toNatClampNeg l1) ((zm_w I 13 (Int32.toNatClampNeg l1) (I 9 (Int32.toNatClampNeg (5 * l1)))) 9 (Int32.toNatClampNeg ((5 * l1) + 1)))) 15 (Int32.toNatClampNeg l1) ((zm_w (zm_w I 13 (Int32.toNatClampNeg l1) (I 9 (Int32.toNatClampNeg (5 * l1)))) 14 (Int32.toNatClampNeg l1) ((zm_w I 13 (Int32.toNatClampNeg l1) (I 9 (Int32.toNatClampNeg (5 * l1)))) 9 (Int32.toNatClampNeg ((5 * l1) + 1)))) 9 (Int32.toNatClampNeg ((5 * l1) + 2)))), J)))) (zm_V zT_X10_lays zW_M))
set_option maxRecDepth 20000 in
theorem zq_X10_lays_M_125 (I : Nat → Nat → Int32) (J : Nat → Nat → Int64) (l1 : Int32) : zv_X10_lays_M_125 I J l1 = some (none, (I, J)) := (zm_V_eq _ _ _).trans ((fun (k : zm_S → zm_R) => (rfl : zm_step zT_X10_lays zW_M k (125, [some (.ref 0), some (.int l1)], [], (I, J)) = some (none, (I, J)))) (zm_V zT_X10_lays zW_M))
theorem zf_X10_lays_M (I : Nat → Nat → Int32) (J : Nat → Nat → Int64) : zF_X10_lays zW_M [.ref 0] (I, J) = zv_X10_lays_M_0 I J := rfl
noncomputable def zv_X10_isFree_M_0 (I : Nat → Nat → Int32) (J : Nat → Nat → Int64) (l1 : Int32) : zm_R := zm_V zT_X10_isFree zW_M (0, [some (.ref 0), some (.int l1), none], [], (I, J))
noncomputable def zv_X10_isFree_M_2 (I : Nat → Nat → Int32) (J : Nat → Nat → Int64) (l1 : Int32) (l2 : Int32) : zm_R := zm_V zT_X10_isFree zW_M (2, [some (.ref 0), some (.int l1), some (.int l2)], [], (I, J))
noncomputable def zv_X10_isFree_M_7 (I : Nat → Nat → Int32) (J : Nat → Nat → Int64) (l1 : Int32) (l2 : Int32) (s0 : Int32) (s1 : Int32) : zm_R := zm_V zT_X10_isFree zW_M (7, [some (.ref 0), some (.int l1), some (.int l2)], [.int s0, .int s1], (I, J))
noncomputable def zv_X10_isFree_M_10 (I : Nat → Nat → Int32) (J : Nat → Nat → Int64) (l1 : Int32) (l2 : Int32) : zm_R := zm_V zT_X10_isFree zW_M (10, [some (.ref 0), some (.int l1), some (.int l2)], [], (I, J))
noncomputable def zv_X10_isFree_M_19 (I : Nat → Nat → Int32) (J : Nat → Nat → Int64) (l1 : Int32) (l2 : Int32) : zm_R := zm_V zT_X10_isFree zW_M (19, [some (.ref 0), some (.int l1), some (.int l2)], [], (I, J))
noncomputable def zv_X10_isFree_M_29 (I : Nat → Nat → Int32) (J : Nat → Nat → Int64) (l1 : Int32) (l2 : Int32) : zm_R := zm_V zT_X10_isFree zW_M (29, [some (.ref 0), some (.int l1), some (.int l2)], [], (I, J))
noncomputable def zv_X10_isFree_M_31 (I : Nat → Nat → Int32) (J : Nat → Nat → Int64) (l1 : Int32) (l2 : Int32) : zm_R := zm_V zT_X10_isFree zW_M (31, [some (.ref 0), some (.int l1), some (.int l2)], [], (I, J))
noncomputable def zv_X10_isFree_M_37 (I : Nat → Nat → Int32) (J : Nat → Nat → Int64) (l1 : Int32) (l2 : Int32) : zm_R := zm_V zT_X10_isFree zW_M (37, [some (.ref 0), some (.int l1), some (.int l2)], [], (I, J))
set_option maxRecDepth 20000 in
theorem zq_X10_isFree_M_0 (I : Nat → Nat → Int32) (J : Nat → Nat → Int64) (l1 : Int32) : zv_X10_isFree_M_0 I J l1 = zv_X10_isFree_M_2 I J l1 0 := (zm_V_eq _ _ _).trans ((fun (k : zm_S → zm_R) => (rfl : zm_step zT_X10_isFree zW_M k (0, [some (.ref 0), some (.int l1), none], [], (I, J)) = k (2, [some (.ref 0), some (.int l1), some (.int 0)], [], (I, J)))) (zm_V zT_X10_isFree zW_M))
set_option maxRecDepth 20000 in
theorem zc_X10_isFree_M_2 (I : Nat → Nat → Int32) (J : Nat → Nat → Int64) (l1 : Int32) (l2 : Int32) {I2 : Nat → Nat → Int32} {J2 : Nat → Nat → Int64} {r : Int32} (hF : zF_X10_callers zW_M [.ref 0] (I, J) = some (some (.int r), (I2, J2))) : zv_X10_isFree_M_2 I J l1 l2 = zv_X10_isFree_M_7 I2 J2 l1 l2 r l2 := by
  have e : ∀ k : zm_S → zm_R, zm_step zT_X10_isFree zW_M k (2, [some (.ref 0), some (.int l1), some (.int l2)], [], (I, J)) = zm_app (1, some 10, true, [], zF_X10_callers) zW_M [.ref 0] (I, J) (fun v N => k (7, [some (.ref 0), some (.int l1), some (.int l2)], v.toList ++ [.int l2], N)) := fun k => rfl
  have g := zm_app_s (C := (1, some 10, true, [], zF_X10_callers)) (wl := zW_M) (as := [.ref 0]) (M := (I, J)) (k := fun v N => zm_V zT_X10_isFree zW_M (7, [some (.ref 0), some (.int l1), some (.int l2)], v.toList ++ [.int l2], N)) rfl rfl hF
  exact (zm_V_eq _ _ _).trans ((e _).trans g)
set_option maxRecDepth 20000 in
theorem zq_X10_isFree_M_7 (I : Nat → Nat → Int32) (J : Nat → Nat → Int64) (l1 : Int32) (l2 : Int32) (s0 : Int32) (s1 : Int32) : zv_X10_isFree_M_7 I J l1 l2 s0 s1 = if s0 ≤ s1 then zv_X10_isFree_M_37 I J l1 l2 else zv_X10_isFree_M_10 I J l1 l2 := (zm_V_eq _ _ _).trans ((fun (k : zm_S → zm_R) => (rfl : zm_step zT_X10_isFree zW_M k (7, [some (.ref 0), some (.int l1), some (.int l2)], [.int s0, .int s1], (I, J)) = if s0 ≤ s1 then k (37, [some (.ref 0), some (.int l1), some (.int l2)], [], (I, J)) else k (10, [some (.ref 0), some (.int l1), some (.int l2)], [], (I, J)))) (zm_V zT_X10_isFree zW_M))
set_option maxRecDepth 20000 in
theorem zq_X10_isFree_M_10 (I : Nat → Nat → Int32) (J : Nat → Nat → Int64) (l1 : Int32) (l2 : Int32) : zv_X10_isFree_M_10 I J l1 l2 = if (l2 : Int32) < 0 ∨ 5 ≤ Int32.toNatClampNeg l2 then none else if (I 24 (Int32.toNatClampNeg l2)) = 0 then zv_X10_isFree_M_31 I J l1 l2 else zv_X10_isFree_M_19 I J l1 l2 := (zm_V_eq _ _ _).trans ((fun (k : zm_S → zm_R) => (rfl : zm_step zT_X10_isFree zW_M k (10, [some (.ref 0), some (.int l1), some (.int l2)], [], (I, J)) = if (l2 : Int32) < 0 ∨ 5 ≤ Int32.toNatClampNeg l2 then none else if (I 24 (Int32.toNatClampNeg l2)) = 0 then k (31, [some (.ref 0), some (.int l1), some (.int l2)], [], (I, J)) else k (19, [some (.ref 0), some (.int l1), some (.int l2)], [], (I, J)))) (zm_V zT_X10_isFree zW_M))
set_option maxRecDepth 20000 in
theorem zq_X10_isFree_M_19 (I : Nat → Nat → Int32) (J : Nat → Nat → Int64) (l1 : Int32) (l2 : Int32) : zv_X10_isFree_M_19 I J l1 l2 = if (l2 : Int32) < 0 ∨ 5 ≤ Int32.toNatClampNeg l2 then none else if (I 22 (Int32.toNatClampNeg l2)) = l1 then zv_X10_isFree_M_29 I J l1 l2 else zv_X10_isFree_M_31 I J l1 l2 := (zm_V_eq _ _ _).trans ((fun (k : zm_S → zm_R) => (rfl : zm_step zT_X10_isFree zW_M k (19, [some (.ref 0), some (.int l1), some (.int l2)], [], (I, J)) = if (l2 : Int32) < 0 ∨ 5 ≤ Int32.toNatClampNeg l2 then none else if (I 22 (Int32.toNatClampNeg l2)) = l1 then k (29, [some (.ref 0), some (.int l1), some (.int l2)], [], (I, J)) else k (31, [some (.ref 0), some (.int l1), some (.int l2)], [], (I, J)))) (zm_V zT_X10_isFree zW_M))
set_option maxRecDepth 20000 in
theorem zq_X10_isFree_M_29 (I : Nat → Nat → Int32) (J : Nat → Nat → Int64) (l1 : Int32) (l2 : Int32) : zv_X10_isFree_M_29 I J l1 l2 = some (some (.int 0), (I, J)) := (zm_V_eq _ _ _).trans ((fun (k : zm_S → zm_R) => (rfl : zm_step zT_X10_isFree zW_M k (29, [some (.ref 0), some (.int l1), some (.int l2)], [], (I, J)) = some (some (.int 0), (I, J)))) (zm_V zT_X10_isFree zW_M))
set_option maxRecDepth 20000 in
theorem zq_X10_isFree_M_31 (I : Nat → Nat → Int32) (J : Nat → Nat → Int64) (l1 : Int32) (l2 : Int32) : zv_X10_isFree_M_31 I J l1 l2 = zv_X10_isFree_M_2 I J l1 (l2 + 1) := (zm_V_eq _ _ _).trans ((fun (k : zm_S → zm_R) => (rfl : zm_step zT_X10_isFree zW_M k (31, [some (.ref 0), some (.int l1), some (.int l2)], [], (I, J)) = k (2, [some (.ref 0), some (.int l1), some (.int (l2 + 1))], [], (I, J)))) (zm_V zT_X10_isFree zW_M))
set_option maxRecDepth 20000 in
theorem zq_X10_isFree_M_37 (I : Nat → Nat → Int32) (J : Nat → Nat → Int64) (l1 : Int32) (l2 : Int32) : zv_X10_isFree_M_37 I J l1 l2 = some (some (.int 1), (I, J)) := (zm_V_eq _ _ _).trans ((fun (k : zm_S → zm_R) => (rfl : zm_step zT_X10_isFree zW_M k (37, [some (.ref 0), some (.int l1), some (.int l2)], [], (I, J)) = some (some (.int 1), (I, J)))) (zm_V zT_X10_isFree zW_M))
theorem zf_X10_isFree_M (I : Nat → Nat → Int32) (J : Nat → Nat → Int64) (l1 : Int32) : zF_X10_isFree zW_M [.ref 0, .int l1] (I, J) = zv_X10_isFree_M_0 I J l1 := rfl
noncomputable def zv_X10_takesSeat_M_0 (I : Nat → Nat → Int32) (J : Nat → Nat → Int64) (l1 : Int32) (l2 : Int32) : zm_R := zm_V zT_X10_takesSeat zW_M (0, [some (.ref 0), some (.int l1), some (.int l2)], [], (I, J))
set_option maxRecDepth 20000 in
theorem zq_X10_takesSeat_M_0 (I : Nat → Nat → Int32) (J : Nat → Nat → Int64) (l1 : Int32) (l2 : Int32) : zv_X10_takesSeat_M_0 I J l1 l2 = if (l1 : Int32) < 0 ∨ 5 ≤ Int32.toNatClampNeg l1 then none else if (l1 : Int32) < 0 ∨ 5 ≤ Int32.toNatClampNeg l1 then none else some (none, ((zm_w (zm_w I 22 (Int32.toNatClampNeg l1) l2) 23 (Int32.toNatClampNeg l1) 0), J)) := (zm_V_eq _ _ _).trans ((fun (k : zm_S → zm_R) => (rfl : zm_step zT_X10_takesSeat zW_M k (0, [some (.ref 0), some (.int l1), some (.int l2)], [], (I, J)) = if (l1 : Int32) < 0 ∨ 5 ≤ Int32.toNatClampNeg l1 then none else if (l1 : Int32) < 0 ∨ 5 ≤ Int32.toNatClampNeg l1 then none else some (none, ((zm_w (zm_w I 22 (Int32.toNatClampNeg l1) l2) 23 (Int32.toNatClampNeg l1) 0), J)))) (zm_V zT_X10_takesSeat zW_M))
theorem zf_X10_takesSeat_M (I : Nat → Nat → Int32) (J : Nat → Nat → Int64) (l1 : Int32) (l2 : Int32) : zF_X10_takesSeat zW_M [.ref 0, .int l1, .int l2] (I, J) = zv_X10_takesSeat_M_0 I J l1 l2 := rfl
noncomputable def zv_X10_moves_M_0 (I : Nat → Nat → Int32) (J : Nat → Nat → Int64) (l1 : Int32) (l2 : Int32) : zm_R := zm_V zT_X10_moves zW_M (0, [some (.ref 0), some (.int l1), some (.int l2)], [], (I, J))
noncomputable def zv_X10_moves_M_9 (I : Nat → Nat → Int32) (J : Nat → Nat → Int64) (l1 : Int32) (l2 : Int32) : zm_R := zm_V zT_X10_moves zW_M (9, [some (.ref 0), some (.int l1), some (.int l2)], [], (I, J))
noncomputable def zv_X10_moves_M_14 (I : Nat → Nat → Int32) (J : Nat → Nat → Int64) (l1 : Int32) (l2 : Int32) (s0 : Int32) : zm_R := zm_V zT_X10_moves zW_M (14, [some (.ref 0), some (.int l1), some (.int l2)], [.int s0], (I, J))
noncomputable def zv_X10_moves_M_17 (I : Nat → Nat → Int32) (J : Nat → Nat → Int64) (l1 : Int32) (l2 : Int32) : zm_R := zm_V zT_X10_moves zW_M (17, [some (.ref 0), some (.int l1), some (.int l2)], [], (I, J))
noncomputable def zv_X10_moves_M_19 (I : Nat → Nat → Int32) (J : Nat → Nat → Int64) (l1 : Int32) (l2 : Int32) : zm_R := zm_V zT_X10_moves zW_M (19, [some (.ref 0), some (.int l1), some (.int l2)], [], (I, J))
noncomputable def zv_X10_moves_M_25 (I : Nat → Nat → Int32) (J : Nat → Nat → Int64) (l1 : Int32) (l2 : Int32) : zm_R := zm_V zT_X10_moves zW_M (25, [some (.ref 0), some (.int l1), some (.int l2)], [], (I, J))
set_option maxRecDepth 20000 in
theorem zq_X10_moves_M_0 (I : Nat → Nat → Int32) (J : Nat → Nat → Int64) (l1 : Int32) (l2 : Int32) : zv_X10_moves_M_0 I J l1 l2 = if (l1 : Int32) < 0 ∨ 5 ≤ Int32.toNatClampNeg l1 then none else if (I 24 (Int32.toNatClampNeg l1)) = 0 then zv_X10_moves_M_17 I J l1 l2 else zv_X10_moves_M_9 I J l1 l2 := (zm_V_eq _ _ _).trans ((fun (k : zm_S → zm_R) => (rfl : zm_step zT_X10_moves zW_M k (0, [some (.ref 0), some (.int l1), some (.int l2)], [], (I, J)) = if (l1 : Int32) < 0 ∨ 5 ≤ Int32.toNatClampNeg l1 then none else if (I 24 (Int32.toNatClampNeg l1)) = 0 then k (17, [some (.ref 0), some (.int l1), some (.int l2)], [], (I, J)) else k (9, [some (.ref 0), some (.int l1), some (.int l2)], [], (I, J)))) (zm_V zT_X10_moves zW_M))
set_option maxRecDepth 20000 in
theorem zc_X10_moves_M_9 (I : Nat → Nat → Int32) (J : Nat → Nat → Int64) (l1 : Int32) (l2 : Int32) {I2 : Nat → Nat → Int32} {J2 : Nat → Nat → Int64} {r : Int32} (hF : zF_X10_isFree zW_M [.ref 0, .int l2] (I, J) = some (some (.int r), (I2, J2))) : zv_X10_moves_M_9 I J l1 l2 = zv_X10_moves_M_14 I2 J2 l1 l2 r := by
  have e : ∀ k : zm_S → zm_R, zm_step zT_X10_moves zW_M k (9, [some (.ref 0), some (.int l1), some (.int l2)], [], (I, J)) = zm_app (2, some 10, true, [], zF_X10_isFree) zW_M [.ref 0, .int l2] (I, J) (fun v N => k (14, [some (.ref 0), some (.int l1), some (.int l2)], v.toList ++ [], N)) := fun k => rfl
  have g := zm_app_s (C := (2, some 10, true, [], zF_X10_isFree)) (wl := zW_M) (as := [.ref 0, .int l2]) (M := (I, J)) (k := fun v N => zm_V zT_X10_moves zW_M (14, [some (.ref 0), some (.int l1), some (.int l2)], v.toList ++ [], N)) rfl rfl hF
  exact (zm_V_eq _ _ _).trans ((e _).trans g)
set_option maxRecDepth 20000 in
theorem zq_X10_moves_M_14 (I : Nat → Nat → Int32) (J : Nat → Nat → Int64) (l1 : Int32) (l2 : Int32) (s0 : Int32) : zv_X10_moves_M_14 I J l1 l2 s0 = if s0 = 0 then zv_X10_moves_M_17 I J l1 l2 else zv_X10_moves_M_19 I J l1 l2 := (zm_V_eq _ _ _).trans ((fun (k : zm_S → zm_R) => (rfl : zm_step zT_X10_moves zW_M k (14, [some (.ref 0), some (.int l1), some (.int l2)], [.int s0], (I, J)) = if s0 = 0 then k (17, [some (.ref 0), some (.int l1), some (.int l2)], [], (I, J)) else k (19, [some (.ref 0), some (.int l1), some (.int l2)], [], (I, J)))) (zm_V zT_X10_moves zW_M))
set_option maxRecDepth 20000 in
theorem zq_X10_moves_M_17 (I : Nat → Nat → Int32) (J : Nat → Nat → Int64) (l1 : Int32) (l2 : Int32) : zv_X10_moves_M_17 I J l1 l2 = some (some (.int 0), (I, J)) := (zm_V_eq _ _ _).trans ((fun (k : zm_S → zm_R) => (rfl : zm_step zT_X10_moves zW_M k (17, [some (.ref 0), some (.int l1), some (.int l2)], [], (I, J)) = some (some (.int 0), (I, J)))) (zm_V zT_X10_moves zW_M))
set_option maxRecDepth 20000 in
theorem zc_X10_moves_M_19 (I : Nat → Nat → Int32) (J : Nat → Nat → Int64) (l1 : Int32) (l2 : Int32) {I2 : Nat → Nat → Int32} {J2 : Nat → Nat → Int64} (hF : zF_X10_takesSeat zW_M [.ref 0, .int l1, .int l2] (I, J) = some (none, (I2, J2))) : zv_X10_moves_M_19 I J l1 l2 = zv_X10_moves_M_25 I2 J2 l1 l2 := by
  have e : ∀ k : zm_S → zm_R, zm_step zT_X10_moves zW_M k (19, [some (.ref 0), some (.int l1), some (.int l2)], [], (I, J)) = zm_app (3, some 10, true, [], zF_X10_takesSeat) zW_M [.ref 0, .int l1, .int l2] (I, J) (fun v N => k (25, [some (.ref 0), some (.int l1), some (.int l2)], v.toList ++ [], N)) := fun k => rfl
  have g := zm_app_s (C := (3, some 10, true, [], zF_X10_takesSeat)) (wl := zW_M) (as := [.ref 0, .int l1, .int l2]) (M := (I, J)) (k := fun v N => zm_V zT_X10_moves zW_M (25, [some (.ref 0), some (.int l1), some (.int l2)], v.toList ++ [], N)) rfl rfl hF
  exact (zm_V_eq _ _ _).trans ((e _).trans g)
set_option maxRecDepth 20000 in
theorem zq_X10_moves_M_25 (I : Nat → Nat → Int32) (J : Nat → Nat → Int64) (l1 : Int32) (l2 : Int32) : zv_X10_moves_M_25 I J l1 l2 = some (some (.int 1), (I, J)) := (zm_V_eq _ _ _).trans ((fun (k : zm_S → zm_R) => (rfl : zm_step zT_X10_moves zW_M k (25, [some (.ref 0), some (.int l1), some (.int l2)], [], (I, J)) = some (some (.int 1), (I, J)))) (zm_V zT_X10_moves zW_M))
theorem zf_X10_moves_M (I : Nat → Nat → Int32) (J : Nat → Nat → Int64) (l1 : Int32) (l2 : Int32) : zF_X10_moves zW_M [.ref 0, .int l1, .int l2] (I, J) = zv_X10_moves_M_0 I J l1 l2 := rfl
noncomputable def zv_X10_sitsDown_M_0 (I : Nat → Nat → Int32) (J : Nat → Nat → Int64) (l1 : Int32) : zm_R := zm_V zT_X10_sitsDown zW_M (0, [some (.ref 0), some (.int l1), none, none], [], (I, J))
noncomputable def zv_X10_sitsDown_M_2 (I : Nat → Nat → Int32) (J : Nat → Nat → Int64) (l1 : Int32) (l2 : Int32) (l3 : Option Value) : zm_R := zm_V zT_X10_sitsDown zW_M (2, [some (.ref 0), some (.int l1), some (.int l2), l3], [], (I, J))
noncomputable def zv_X10_sitsDown_M_7 (I : Nat → Nat → Int32) (J : Nat → Nat → Int64) (l1 : Int32) (l2 : Int32) (l3 : Option Value) (s0 : Int32) (s1 : Int32) : zm_R := zm_V zT_X10_sitsDown zW_M (7, [some (.ref 0), some (.int l1), some (.int l2), l3], [.int s0, .int s1], (I, J))
noncomputable def zv_X10_sitsDown_M_10 (I : Nat → Nat → Int32) (J : Nat → Nat → Int64) (l1 : Int32) (l2 : Int32) (l3 : Option Value) : zm_R := zm_V zT_X10_sitsDown zW_M (10, [some (.ref 0), some (.int l1), some (.int l2), l3], [], (I, J))
noncomputable def zv_X10_sitsDown_M_20 (I : Nat → Nat → Int32) (J : Nat → Nat → Int64) (l1 : Int32) (l2 : Int32) (l3 : Option Value) : zm_R := zm_V zT_X10_sitsDown zW_M (20, [some (.ref 0), some (.int l1), some (.int l2), l3], [], (I, J))
noncomputable def zv_X10_sitsDown_M_26 (I : Nat → Nat → Int32) (J : Nat → Nat → Int64) (l1 : Int32) (l2 : Int32) (l3 : Option Value) (s0 : Int32) : zm_R := zm_V zT_X10_sitsDown zW_M (26, [some (.ref 0), some (.int l1), some (.int l2), l3], [.int s0], (I, J))
noncomputable def zv_X10_sitsDown_M_32 (I : Nat → Nat → Int32) (J : Nat → Nat → Int64) (l1 : Int32) (l2 : Int32) (l3 : Option Value) (s0 : Int32) (s1 : Int32) : zm_R := zm_V zT_X10_sitsDown zW_M (32, [some (.ref 0), some (.int l1), some (.int l2), l3], [.int s0, .int s1], (I, J))
noncomputable def zv_X10_sitsDown_M_33 (I : Nat → Nat → Int32) (J : Nat → Nat → Int64) (l1 : Int32) (l2 : Int32) (l3 : Option Value) (s0 : Int32) : zm_R := zm_V zT_X10_sitsDown zW_M (33, [some (.ref 0), some (.int l1), some (.int l2), l3], [.int s0], (I, J))
noncomputable def zv_X10_sitsDown_M_39 (I : Nat → Nat → Int32) (J : Nat → Nat → Int64) (l1 : Int32) (l2 : Int32) (l3 : Int32) (s0 : Int32) : zm_R := zm_V zT_X10_sitsDown zW_M (39, [some (.ref 0), some (.int l1), some (.int l2), some (.int l3)], [.int s0], (I, J))
noncomputable def zv_X10_sitsDown_M_42 (I : Nat → Nat → Int32) (J : Nat → Nat → Int64) (l1 : Int32) (l2 : Int32) (l3 : Int32) : zm_R := zm_V zT_X10_sitsDown zW_M (42, [some (.ref 0), some (.int l1), some (.int l2), some (.int l3)], [], (I, J))
noncomputable def zv_X10_sitsDown_M_48 (I : Nat → Nat → Int32) (J : Nat → Nat → Int64) (l1 : Int32) (l2 : Int32) (l3 : Int32) : zm_R := zm_V zT_X10_sitsDown zW_M (48, [some (.ref 0), some (.int l1), some (.int l2), some (.int l3)], [], (I, J))
noncomputable def zv_X10_sitsDown_M_54 (I : Nat → Nat → Int32) (J : Nat → Nat → Int64) (l1 : Int32) (l2 : Int32) (l3 : Option Value) : zm_R := zm_V zT_X10_sitsDown zW_M (54, [some (.ref 0), some (.int l1), some (.int l2), l3], [], (I, J))
set_option maxRecDepth 20000 in
theorem zq_X10_sitsDown_M_0 (I : Nat → Nat → Int32) (J : Nat → Nat → Int64) (l1 : Int32) : zv_X10_sitsDown_M_0 I J l1 = zv_X10_sitsDown_M_2 I J l1 0 none := (zm_V_eq _ _ _).trans ((fun (k : zm_S → zm_R) => (rfl : zm_step zT_X10_sitsDown zW_M k (0, [some (.ref 0), some (.int l1), none, none], [], (I, J)) = k (2, [some (.ref 0), some (.int l1), some (.int 0), none], [], (I, J)))) (zm_V zT_X10_sitsDown zW_M))
set_option maxRecDepth 20000 in
theorem zc_X10_sitsDown_M_2 (I : Nat → Nat → Int32) (J : Nat → Nat → Int64) (l1 : Int32) (l2 : Int32) (l3 : Option Value) {I2 : Nat → Nat → Int32} {J2 : Nat → Nat → Int64} {r : Int32} (hF : zF_X10_seats zW_M [.ref 0] (I, J) = some (some (.int r), (I2, J2))) : zv_X10_sitsDown_M_2 I J l1 l2 l3 = zv_X10_sitsDown_M_7 I2 J2 l1 l2 (l3) r l2 := by
  have e : ∀ k : zm_S → zm_R, zm_step zT_X10_sitsDown zW_M k (2, [some (.ref 0), some (.int l1), some (.int l2), l3], [], (I, J)) = zm_app (1, some 10, true, [], zF_X10_seats) zW_M [.ref 0] (I, J) (fun v N => k (7, [some (.ref 0), some (.int l1), some (.int l2), l3], v.toList ++ [.int l2], N)) := fun k => rfl
  have g := zm_app_s (C := (1, some 10, true, [], zF_X10_seats)) (wl := zW_M) (as := [.ref 0]) (M := (I, J)) (k := fun v N => zm_V zT_X10_sitsDown zW_M (7, [some (.ref 0), some (.int l1), some (.int l2), l3], v.toList ++ [.int l2], N)) rfl rfl hF
  exact (zm_V_eq _ _ _).trans ((e _).trans g)
set_option maxRecDepth 20000 in
theorem zq_X10_sitsDown_M_7 (I : Nat → Nat → Int32) (J : Nat → Nat → Int64) (l1 : Int32) (l2 : Int32) (l3 : Option Value) (s0 : Int32) (s1 : Int32) : zv_X10_sitsDown_M_7 I J l1 l2 l3 s0 s1 = if s0 ≤ s1 then zv_X10_sitsDown_M_54 I J l1 l2 l3 else zv_X10_sitsDown_M_10 I J l1 l2 l3 := (zm_V_eq _ _ _).trans ((fun (k : zm_S → zm_R) => (rfl : zm_step zT_X10_sitsDown zW_M k (7, [some (.ref 0), some (.int l1), some (.int l2), l3], [.int s0, .int s1], (I, J)) = if s0 ≤ s1 then k (54, [some (.ref 0), some (.int l1), some (.int l2), l3], [], (I, J)) else k (10, [some (.ref 0), some (.int l1), some (.int l2), l3], [], (I, J)))) (zm_V zT_X10_sitsDown zW_M))
set_option maxRecDepth 20000 in
theorem zq_X10_sitsDown_M_10 (I : Nat → Nat → Int32) (J : Nat → Nat → Int64) (l1 : Int32) (l2 : Int32) (l3 : Option Value) : zv_X10_sitsDown_M_10 I J l1 l2 l3 = if (l1 : Int32) < 0 ∨ 5 ≤ Int32.toNatClampNeg l1 then none else if (I 22 (Int32.toNatClampNeg l1)) = (-1) then zv_X10_sitsDown_M_20 I J l1 l2 l3 else zv_X10_sitsDown_M_54 I J l1 l2 l3 := (zm_V_eq _ _ _).trans ((fun (k : zm_S → zm_R) => (rfl : zm_step zT_X10_sitsDown zW_M k (10, [some (.ref 0), some (.int l1), some (.int l2), l3], [], (I, J)) = if (l1 : Int32) < 0 ∨ 5 ≤ Int32.toNatClampNeg l1 then none else if (I 22 (Int32.toNatClampNeg l1)) = (-1) then k (20, [some (.ref 0), some (.int l1), some (.int l2), l3], [], (I, J)) else k (54, [some (.ref 0), some (.int l1), some (.int l2), l3], [], (I, J)))) (zm_V zT_X10_sitsDown zW_M))
set_option maxRecDepth 20000 in
theorem zq_X10_sitsDown_M_20 (I : Nat → Nat → Int32) (J : Nat → Nat → Int64) (l1 : Int32) (l2 : Int32) (l3 : Option Value) : zv_X10_sitsDown_M_20 I J l1 l2 l3 = if (l1 : Int32) < 0 ∨ 5 ≤ Int32.toNatClampNeg l1 then none else zv_X10_sitsDown_M_26 I J l1 l2 l3 (I 15 (Int32.toNatClampNeg l1)) := (zm_V_eq _ _ _).trans ((fun (k : zm_S → zm_R) => (rfl : zm_step zT_X10_sitsDown zW_M k (20, [some (.ref 0), some (.int l1), some (.int l2), l3], [], (I, J)) = if (l1 : Int32) < 0 ∨ 5 ≤ Int32.toNatClampNeg l1 then none else k (26, [some (.ref 0), some (.int l1), some (.int l2), l3], [.int (I 15 (Int32.toNatClampNeg l1))], (I, J)))) (zm_V zT_X10_sitsDown zW_M))
set_option maxRecDepth 20000 in
theorem zc_X10_sitsDown_M_26 (I : Nat → Nat → Int32) (J : Nat → Nat → Int64) (l1 : Int32) (l2 : Int32) (l3 : Option Value) (s0 : Int32) {I2 : Nat → Nat → Int32} {J2 : Nat → Nat → Int64} {r : Int32} (hF : zF_X10_seats zW_M [.ref 0] (I, J) = some (some (.int r), (I2, J2))) : zv_X10_sitsDown_M_26 I J l1 l2 l3 s0 = zv_X10_sitsDown_M_32 I2 J2 l1 l2 (l3) r ((s0 + l2)) := by
  have e : ∀ k : zm_S → zm_R, zm_step zT_X10_sitsDown zW_M k (26, [some (.ref 0), some (.int l1), some (.int l2), l3], [.int s0], (I, J)) = zm_app (1, some 10, true, [], zF_X10_seats) zW_M [.ref 0] (I, J) (fun v N => k (32, [some (.ref 0), some (.int l1), some (.int l2), l3], v.toList ++ [.int (s0 + l2)], N)) := fun k => rfl
  have g := zm_app_s (C := (1, some 10, true, [], zF_X10_seats)) (wl := zW_M) (as := [.ref 0]) (M := (I, J)) (k := fun v N => zm_V zT_X10_sitsDown zW_M (32, [some (.ref 0), some (.int l1), some (.int l2), l3], v.toList ++ [.int (s0 + l2)], N)) rfl rfl hF
  exact (zm_V_eq _ _ _).trans ((e _).trans g)
set_option maxRecDepth 20000 in
theorem zq_X10_sitsDown_M_32 (I : Nat → Nat → Int32) (J : Nat → Nat → Int64) (l1 : Int32) (l2 : Int32) (l3 : Option Value) (s0 : Int32) (s1 : Int32) : zv_X10_sitsDown_M_32 I J l1 l2 l3 s0 s1 = if (s0 : Int32) = 0 then none else zv_X10_sitsDown_M_33 I J l1 l2 l3 (s1 - s1 / s0 * s0) := (zm_V_eq _ _ _).trans ((fun (k : zm_S → zm_R) => (rfl : zm_step zT_X10_sitsDown zW_M k (32, [some (.ref 0), some (.int l1), some (.int l2), l3], [.int s0, .int s1], (I, J)) = if (s0 : Int32) = 0 then none else k (33, [some (.ref 0), some (.int l1), some (.int l2), l3], [.int (s1 - s1 / s0 * s0)], (I, J)))) (zm_V zT_X10_sitsDown zW_M))
set_option maxRecDepth 20000 in
theorem zc_X10_sitsDown_M_33 (I : Nat → Nat → Int32) (J : Nat → Nat → Int64) (l1 : Int32) (l2 : Int32) (l3 : Option Value) (s0 : Int32) {I2 : Nat → Nat → Int32} {J2 : Nat → Nat → Int64} {r : Int32} (hF : zF_X10_isFree zW_M [.ref 0, .int s0] (I, J) = some (some (.int r), (I2, J2))) : zv_X10_sitsDown_M_33 I J l1 l2 l3 s0 = zv_X10_sitsDown_M_39 I2 J2 l1 l2 s0 r := by
  have e : ∀ k : zm_S → zm_R, zm_step zT_X10_sitsDown zW_M k (33, [some (.ref 0), some (.int l1), some (.int l2), l3], [.int s0], (I, J)) = zm_app (2, some 10, true, [], zF_X10_isFree) zW_M [.ref 0, .int s0] (I, J) (fun v N => k (39, [some (.ref 0), some (.int l1), some (.int l2), some (.int s0)], v.toList ++ [], N)) := fun k => rfl
  have g := zm_app_s (C := (2, some 10, true, [], zF_X10_isFree)) (wl := zW_M) (as := [.ref 0, .int s0]) (M := (I, J)) (k := fun v N => zm_V zT_X10_sitsDown zW_M (39, [some (.ref 0), some (.int l1), some (.int l2), some (.int s0)], v.toList ++ [], N)) rfl rfl hF
  exact (zm_V_eq _ _ _).trans ((e _).trans g)
set_option maxRecDepth 20000 in
theorem zq_X10_sitsDown_M_39 (I : Nat → Nat → Int32) (J : Nat → Nat → Int64) (l1 : Int32) (l2 : Int32) (l3 : Int32) (s0 : Int32) : zv_X10_sitsDown_M_39 I J l1 l2 l3 s0 = if s0 = 0 then zv_X10_sitsDown_M_48 I J l1 l2 l3 else zv_X10_sitsDown_M_42 I J l1 l2 l3 := (zm_V_eq _ _ _).trans ((fun (k : zm_S → zm_R) => (rfl : zm_step zT_X10_sitsDown zW_M k (39, [some (.ref 0), some (.int l1), some (.int l2), some (.int l3)], [.int s0], (I, J)) = if s0 = 0 then k (48, [some (.ref 0), some (.int l1), some (.int l2), some (.int l3)], [], (I, J)) else k (42, [some (.ref 0), some (.int l1), some (.int l2), some (.int l3)], [], (I, J)))) (zm_V zT_X10_sitsDown zW_M))
set_option maxRecDepth 20000 in
theorem zc_X10_sitsDown_M_42 (I : Nat → Nat → Int32) (J : Nat → Nat → Int64) (l1 : Int32) (l2 : Int32) (l3 : Int32) {I2 : Nat → Nat → Int32} {J2 : Nat → Nat → Int64} (hF : zF_X10_takesSeat zW_M [.ref 0, .int l1, .int l3] (I, J) = some (none, (I2, J2))) : zv_X10_sitsDown_M_42 I J l1 l2 l3 = zv_X10_sitsDown_M_48 I2 J2 l1 l2 l3 := by
  have e : ∀ k : zm_S → zm_R, zm_step zT_X10_sitsDown zW_M k (42, [some (.ref 0), some (.int l1), some (.int l2), some (.int l3)], [], (I, J)) = zm_app (3, some 10, true, [], zF_X10_takesSeat) zW_M [.ref 0, .int l1, .int l3] (I, J) (fun v N => k (48, [some (.ref 0), some (.int l1), some (.int l2), some (.int l3)], v.toList ++ [], N)) := fun k => rfl
  have g := zm_app_s (C := (3, some 10, true, [], zF_X10_takesSeat)) (wl := zW_M) (as := [.ref 0, .int l1, .int l3]) (M := (I, J)) (k := fun v N => zm_V zT_X10_sitsDown zW_M (48, [some (.ref 0), some (.int l1), some (.int l2), some (.int l3)], v.toList ++ [], N)) rfl rfl hF
  exact (zm_V_eq _ _ _).trans ((e _).trans g)
set_option maxRecDepth 20000 in
theorem zq_X10_sitsDown_M_48 (I : Nat → Nat → Int32) (J : Nat → Nat → Int64) (l1 : Int32) (l2 : Int32) (l3 : Int32) : zv_X10_sitsDown_M_48 I J l1 l2 l3 = zv_X10_sitsDown_M_2 I J l1 (l2 + 1) (some (.int l3)) := (zm_V_eq _ _ _).trans ((fun (k : zm_S → zm_R) => (rfl : zm_step zT_X10_sitsDown zW_M k (48, [some (.ref 0), some (.int l1), some (.int l2), some (.int l3)], [], (I, J)) = k (2, [some (.ref 0), some (.int l1), some (.int (l2 + 1)), some (.int l3)], [], (I, J)))) (zm_V zT_X10_sitsDown zW_M))
set_option maxRecDepth 20000 in
theorem zq_X10_sitsDown_M_54 (I : Nat → Nat → Int32) (J : Nat → Nat → Int64) (l1 : Int32) (l2 : Int32) (l3 : Option Value) : zv_X10_sitsDown_M_54 I J l1 l2 l3 = some (none, (I, J)) := (zm_V_eq _ _ _).trans ((fun (k : zm_S → zm_R) => (rfl : zm_step zT_X10_sitsDown zW_M k (54, [some (.ref 0), some (.int l1), some (.int l2), l3], [], (I, J)) = some (none, (I, J)))) (zm_V zT_X10_sitsDown zW_M))
theorem zf_X10_sitsDown_M (I : Nat → Nat → Int32) (J : Nat → Nat → Int64) (l1 : Int32) : zF_X10_sitsDown zW_M [.ref 0, .int l1] (I, J) = zv_X10_sitsDown_M_0 I J l1 := rfl
noncomputable def zv_X10_firstThere_M_0 (I : Nat → Nat → Int32) (J : Nat → Nat → Int64) : zm_R := zm_V zT_X10_firstThere zW_M (0, [some (.ref 0), none, none], [], (I, J))
noncomputable def zv_X10_firstThere_M_4 (I : Nat → Nat → Int32) (J : Nat → Nat → Int64) (l1 : Int32) (l2 : Int32) : zm_R := zm_V zT_X10_firstThere zW_M (4, [some (.ref 0), some (.int l1), some (.int l2)], [], (I, J))
noncomputable def zv_X10_firstThere_M_9 (I : Nat → Nat → Int32) (J : Nat → Nat → Int64) (l1 : Int32) (l2 : Int32) (s0 : Int32) (s1 : Int32) : zm_R := zm_V zT_X10_firstThere zW_M (9, [some (.ref 0), some (.int l1), some (.int l2)], [.int s0, .int s1], (I, J))
noncomputable def zv_X10_firstThere_M_12 (I : Nat → Nat → Int32) (J : Nat → Nat → Int64) (l1 : Int32) (l2 : Int32) : zm_R := zm_V zT_X10_firstThere zW_M (12, [some (.ref 0), some (.int l1), some (.int l2)], [], (I, J))
noncomputable def zv_X10_firstThere_M_21 (I : Nat → Nat → Int32) (J : Nat → Nat → Int64) (l1 : Int32) (l2 : Int32) : zm_R := zm_V zT_X10_firstThere zW_M (21, [some (.ref 0), some (.int l1), some (.int l2)], [], (I, J))
noncomputable def zv_X10_firstThere_M_26 (I : Nat → Nat → Int32) (J : Nat → Nat → Int64) (l1 : Int32) (l2 : Int32) : zm_R := zm_V zT_X10_firstThere zW_M (26, [some (.ref 0), some (.int l1), some (.int l2)], [], (I, J))
noncomputable def zv_X10_firstThere_M_41 (I : Nat → Nat → Int32) (J : Nat → Nat → Int64) (l1 : Int32) (l2 : Int32) : zm_R := zm_V zT_X10_firstThere zW_M (41, [some (.ref 0), some (.int l1), some (.int l2)], [], (I, J))
noncomputable def zv_X10_firstThere_M_43 (I : Nat → Nat → Int32) (J : Nat → Nat → Int64) (l1 : Int32) (l2 : Int32) : zm_R := zm_V zT_X10_firstThere zW_M (43, [some (.ref 0), some (.int l1), some (.int l2)], [], (I, J))
noncomputable def zv_X10_firstThere_M_49 (I : Nat → Nat → Int32) (J : Nat → Nat → Int64) (l1 : Int32) (l2 : Int32) : zm_R := zm_V zT_X10_firstThere zW_M (49, [some (.ref 0), some (.int l1), some (.int l2)], [], (I, J))
set_option maxRecDepth 20000 in
theorem zq_X10_firstThere_M_0 (I : Nat → Nat → Int32) (J : Nat → Nat → Int64) : zv_X10_firstThere_M_0 I J = zv_X10_firstThere_M_4 I J (-1) 0 := (zm_V_eq _ _ _).trans ((fun (k : zm_S → zm_R) => (rfl : zm_step zT_X10_firstThere zW_M k (0, [some (.ref 0), none, none], [], (I, J)) = k (4, [some (.ref 0), some (.int (-1)), some (.int 0)], [], (I, J)))) (zm_V zT_X10_firstThere zW_M))
set_option maxRecDepth 20000 in
theorem zc_X10_firstThere_M_4 (I : Nat → Nat → Int32) (J : Nat → Nat → Int64) (l1 : Int32) (l2 : Int32) {I2 : Nat → Nat → Int32} {J2 : Nat → Nat → Int64} {r : Int32} (hF : zF_X10_callers zW_M [.ref 0] (I, J) = some (some (.int r), (I2, J2))) : zv_X10_firstThere_M_4 I J l1 l2 = zv_X10_firstThere_M_9 I2 J2 l1 l2 r l2 := by
  have e : ∀ k : zm_S → zm_R, zm_step zT_X10_firstThere zW_M k (4, [some (.ref 0), some (.int l1), some (.int l2)], [], (I, J)) = zm_app (1, some 10, true, [], zF_X10_callers) zW_M [.ref 0] (I, J) (fun v N => k (9, [some (.ref 0), some (.int l1), some (.int l2)], v.toList ++ [.int l2], N)) := fun k => rfl
  have g := zm_app_s (C := (1, some 10, true, [], zF_X10_callers)) (wl := zW_M) (as := [.ref 0]) (M := (I, J)) (k := fun v N => zm_V zT_X10_firstThere zW_M (9, [some (.ref 0), some (.int l1), some (.int l2)], v.toList ++ [.int l2], N)) rfl rfl hF
  exact (zm_V_eq _ _ _).trans ((e _).trans g)
set_option maxRecDepth 20000 in
theorem zq_X10_firstThere_M_9 (I : Nat → Nat → Int32) (J : Nat → Nat → Int64) (l1 : Int32) (l2 : Int32) (s0 : Int32) (s1 : Int32) : zv_X10_firstThere_M_9 I J l1 l2 s0 s1 = if s0 ≤ s1 then zv_X10_firstThere_M_49 I J l1 l2 else zv_X10_firstThere_M_12 I J l1 l2 := (zm_V_eq _ _ _).trans ((fun (k : zm_S → zm_R) => (rfl : zm_step zT_X10_firstThere zW_M k (9, [some (.ref 0), some (.int l1), some (.int l2)], [.int s0, .int s1], (I, J)) = if s0 ≤ s1 then k (49, [some (.ref 0), some (.int l1), some (.int l2)], [], (I, J)) else k (12, [some (.ref 0), some (.int l1), some (.int l2)], [], (I, J)))) (zm_V zT_X10_firstThere zW_M))
set_option maxRecDepth 20000 in
theorem zq_X10_firstThere_M_12 (I : Nat → Nat → Int32) (J : Nat → Nat → Int64) (l1 : Int32) (l2 : Int32) : zv_X10_firstThere_M_12 I J l1 l2 = if (l2 : Int32) < 0 ∨ 5 ≤ Int32.toNatClampNeg l2 then none else if (I 24 (Int32.toNatClampNeg l2)) = 0 then zv_X10_firstThere_M_43 I J l1 l2 else zv_X10_firstThere_M_21 I J l1 l2 := (zm_V_eq _ _ _).trans ((fun (k : zm_S → zm_R) => (rfl : zm_step zT_X10_firstThere zW_M k (12, [some (.ref 0), some (.int l1), some (.int l2)], [], (I, J)) = if (l2 : Int32) < 0 ∨ 5 ≤ Int32.toNatClampNeg l2 then none else if (I 24 (Int32.toNatClampNeg l2)) = 0 then k (43, [some (.ref 0), some (.int l1), some (.int l2)], [], (I, J)) else k (21, [some (.ref 0), some (.int l1), some (.int l2)], [], (I, J)))) (zm_V zT_X10_firstThere zW_M))
set_option maxRecDepth 20000 in
theorem zq_X10_firstThere_M_21 (I : Nat → Nat → Int32) (J : Nat → Nat → Int64) (l1 : Int32) (l2 : Int32) : zv_X10_firstThere_M_21 I J l1 l2 = if l1 = (-1) then zv_X10_firstThere_M_41 I J l1 l2 else zv_X10_firstThere_M_26 I J l1 l2 := (zm_V_eq _ _ _).trans ((fun (k : zm_S → zm_R) => (rfl : zm_step zT_X10_firstThere zW_M k (21, [some (.ref 0), some (.int l1), some (.int l2)], [], (I, J)) = if l1 = (-1) then k (41, [some (.ref 0), some (.int l1), some (.int l2)], [], (I, J)) else k (26, [some (.ref 0), some (.int l1), some (.int l2)], [], (I, J)))) (zm_V zT_X10_firstThere zW_M))
set_option maxRecDepth 20000 in
theorem zq_X10_firstThere_M_26 (I : Nat → Nat → Int32) (J : Nat → Nat → Int64) (l1 : Int32) (l2 : Int32) : zv_X10_firstThere_M_26 I J l1 l2 = if (l2 : Int32) < 0 ∨ 5 ≤ Int32.toNatClampNeg l2 then none else if (l1 : Int32) < 0 ∨ 5 ≤ Int32.toNatClampNeg l1 then none else if (I 14 (Int32.toNatClampNeg l1)) ≤ (I 14 (Int32.toNatClampNeg l2)) then zv_X10_firstThere_M_43 I J l1 l2 else zv_X10_firstThere_M_41 I J l1 l2 := (zm_V_eq _ _ _).trans ((fun (k : zm_S → zm_R) => (rfl : zm_step zT_X10_firstThere zW_M k (26, [some (.ref 0), some (.int l1), some (.int l2)], [], (I, J)) = if (l2 : Int32) < 0 ∨ 5 ≤ Int32.toNatClampNeg l2 then none else if (l1 : Int32) < 0 ∨ 5 ≤ Int32.toNatClampNeg l1 then none else if (I 14 (Int32.toNatClampNeg l1)) ≤ (I 14 (Int32.toNatClampNeg l2)) then k (43, [some (.ref 0), some (.int l1), some (.int l2)], [], (I, J)) else k (41, [some (.ref 0), some (.int l1), some (.int l2)], [], (I, J)))) (zm_V zT_X10_firstThere zW_M))
set_option maxRecDepth 20000 in
theorem zq_X10_firstThere_M_41 (I : Nat → Nat → Int32) (J : Nat → Nat → Int64) (l1 : Int32) (l2 : Int32) : zv_X10_firstThere_M_41 I J l1 l2 = zv_X10_firstThere_M_43 I J l2 l2 := (zm_V_eq _ _ _).trans ((fun (k : zm_S → zm_R) => (rfl : zm_step zT_X10_firstThere zW_M k (41, [some (.ref 0), some (.int l1), some (.int l2)], [], (I, J)) = k (43, [some (.ref 0), some (.int l2), some (.int l2)], [], (I, J)))) (zm_V zT_X10_firstThere zW_M))
set_option maxRecDepth 20000 in
theorem zq_X10_firstThere_M_43 (I : Nat → Nat → Int32) (J : Nat → Nat → Int64) (l1 : Int32) (l2 : Int32) : zv_X10_firstThere_M_43 I J l1 l2 = zv_X10_firstThere_M_4 I J l1 (l2 + 1) := (zm_V_eq _ _ _).trans ((fun (k : zm_S → zm_R) => (rfl : zm_step zT_X10_firstThere zW_M k (43, [some (.ref 0), some (.int l1), some (.int l2)], [], (I, J)) = k (4, [some (.ref 0), some (.int l1), some (.int (l2 + 1))], [], (I, J)))) (zm_V zT_X10_firstThere zW_M))
set_option maxRecDepth 20000 in
theorem zq_X10_firstThere_M_49 (I : Nat → Nat → Int32) (J : Nat → Nat → Int64) (l1 : Int32) (l2 : Int32) : zv_X10_firstThere_M_49 I J l1 l2 = some (some (.int l1), (I, J)) := (zm_V_eq _ _ _).trans ((fun (k : zm_S → zm_R) => (rfl : zm_step zT_X10_firstThere zW_M k (49, [some (.ref 0), some (.int l1), some (.int l2)], [], (I, J)) = some (some (.int l1), (I, J)))) (zm_V zT_X10_firstThere zW_M))
theorem zf_X10_firstThere_M (I : Nat → Nat → Int32) (J : Nat → Nat → Int64) : zF_X10_firstThere zW_M [.ref 0] (I, J) = zv_X10_firstThere_M_0 I J := rfl
noncomputable def zv_X10_minute_M_0 (I : Nat → Nat → Int32) (J : Nat → Nat → Int64) (l1 : Int32) : zm_R := zm_V zT_X10_minute zW_M (0, [some (.ref 0), some (.int l1), none], [], (I, J))
noncomputable def zv_X10_minute_M_2 (I : Nat → Nat → Int32) (J : Nat → Nat → Int64) (l1 : Int32) (l2 : Int32) : zm_R := zm_V zT_X10_minute zW_M (2, [some (.ref 0), some (.int l1), some (.int l2)], [], (I, J))
noncomputable def zv_X10_minute_M_13 (I : Nat → Nat → Int32) (J : Nat → Nat → Int64) (l1 : Int32) (l2 : Int32) : zm_R := zm_V zT_X10_minute zW_M (13, [some (.ref 0), some (.int l1), some (.int l2)], [], (I, J))
noncomputable def zv_X10_minute_M_27 (I : Nat → Nat → Int32) (J : Nat → Nat → Int64) (l1 : Int32) (l2 : Int32) : zm_R := zm_V zT_X10_minute zW_M (27, [some (.ref 0), some (.int l1), some (.int l2)], [], (I, J))
noncomputable def zv_X10_minute_M_51 (I : Nat → Nat → Int32) (J : Nat → Nat → Int64) (l1 : Int32) (l2 : Int32) (s0 : Int32) (s1 : Int32) (s3 : Int32) : zm_R := zm_V zT_X10_minute zW_M (51, [some (.ref 0), some (.int l1), some (.int l2)], [.int s0, .int s1, .ref 0, .int s3, .ref 20], (I, J))
noncomputable def zv_X10_minute_M_54 (I : Nat → Nat → Int32) (J : Nat → Nat → Int64) (l1 : Int32) (l2 : Int32) (s0 : Int32) (s1 : Int32) : zm_R := zm_V zT_X10_minute zW_M (54, [some (.ref 0), some (.int l1), some (.int l2)], [.int s0, .int s1, .ref 20], (I, J))
noncomputable def zv_X10_minute_M_55 (I : Nat → Nat → Int32) (J : Nat → Nat → Int64) (l1 : Int32) (l2 : Int32) : zm_R := zm_V zT_X10_minute zW_M (55, [some (.ref 0), some (.int l1), some (.int l2)], [], (I, J))
noncomputable def zv_X10_minute_M_61 (I : Nat → Nat → Int32) (J : Nat → Nat → Int64) (l1 : Int32) (l2 : Int32) : zm_R := zm_V zT_X10_minute zW_M (61, [some (.ref 0), some (.int l1), some (.int l2)], [], (I, J))
noncomputable def zv_X10_minute_M_69 (I : Nat → Nat → Int32) (J : Nat → Nat → Int64) (l1 : Int32) (l2 : Int32) : zm_R := zm_V zT_X10_minute zW_M (69, [some (.ref 0), some (.int l1), some (.int l2)], [], (I, J))
noncomputable def zv_X10_minute_M_77 (I : Nat → Nat → Int32) (J : Nat → Nat → Int64) (l1 : Int32) (l2 : Int32) : zm_R := zm_V zT_X10_minute zW_M (77, [some (.ref 0), some (.int l1), some (.int l2)], [], (I, J))
noncomputable def zv_X10_minute_M_89 (I : Nat → Nat → Int32) (J : Nat → Nat → Int64) (l1 : Int32) (l2 : Int32) (s0 : Int32) : zm_R := zm_V zT_X10_minute zW_M (89, [some (.ref 0), some (.int l1), some (.int l2)], [.int s0], (I, J))
noncomputable def zv_X10_minute_M_90 (I : Nat → Nat → Int32) (J : Nat → Nat → Int64) (l1 : Int32) (l2 : Int32) : zm_R := zm_V zT_X10_minute zW_M (90, [some (.ref 0), some (.int l1), some (.int l2)], [], (I, J))
noncomputable def zv_X10_minute_M_92 (I : Nat → Nat → Int32) (J : Nat → Nat → Int64) (l1 : Int32) (l2 : Int32) : zm_R := zm_V zT_X10_minute zW_M (92, [some (.ref 0), some (.int l1), some (.int l2)], [], (I, J))
noncomputable def zv_X10_minute_M_97 (I : Nat → Nat → Int32) (J : Nat → Nat → Int64) (l1 : Int32) (l2 : Int32) (s0 : Int32) (s1 : Int32) : zm_R := zm_V zT_X10_minute zW_M (97, [some (.ref 0), some (.int l1), some (.int l2)], [.int s0, .int s1], (I, J))
noncomputable def zv_X10_minute_M_100 (I : Nat → Nat → Int32) (J : Nat → Nat → Int64) (l1 : Int32) (l2 : Int32) : zm_R := zm_V zT_X10_minute zW_M (100, [some (.ref 0), some (.int l1), some (.int l2)], [], (I, J))
noncomputable def zv_X10_minute_M_109 (I : Nat → Nat → Int32) (J : Nat → Nat → Int64) (l1 : Int32) (l2 : Int32) : zm_R := zm_V zT_X10_minute zW_M (109, [some (.ref 0), some (.int l1), some (.int l2)], [], (I, J))
noncomputable def zv_X10_minute_M_119 (I : Nat → Nat → Int32) (J : Nat → Nat → Int64) (l1 : Int32) (l2 : Int32) : zm_R := zm_V zT_X10_minute zW_M (119, [some (.ref 0), some (.int l1), some (.int l2)], [], (I, J))
noncomputable def zv_X10_minute_M_124 (I : Nat → Nat → Int32) (J : Nat → Nat → Int64) (l1 : Int32) (l2 : Int32) : zm_R := zm_V zT_X10_minute zW_M (124, [some (.ref 0), some (.int l1), some (.int l2)], [], (I, J))
noncomputable def zv_X10_minute_M_130 (I : Nat → Nat → Int32) (J : Nat → Nat → Int64) (l1 : Int32) (l2 : Int32) : zm_R := zm_V zT_X10_minute zW_M (130, [some (.ref 0), some (.int l1), some (.int l2)], [], (I, J))
noncomputable def zv_X10_minute_M_132 (I : Nat → Nat → Int32) (J : Nat → Nat → Int64) (l1 : Int32) (l2 : Int32) : zm_R := zm_V zT_X10_minute zW_M (132, [some (.ref 0), some (.int l1), some (.int l2)], [], (I, J))
noncomputable def zv_X10_minute_M_137 (I : Nat → Nat → Int32) (J : Nat → Nat → Int64) (l1 : Int32) (l2 : Int32) (s0 : Int32) (s1 : Int32) : zm_R := zm_V zT_X10_minute zW_M (137, [some (.ref 0), some (.int l1), some (.int l2)], [.int s0, .int s1], (I, J))
noncomputable def zv_X10_minute_M_140 (I : Nat → Nat → Int32) (J : Nat → Nat → Int64) (l1 : Int32) (l2 : Int32) : zm_R := zm_V zT_X10_minute zW_M (140, [some (.ref 0), some (.int l1), some (.int l2)], [], (I, J))
noncomputable def zv_X10_minute_M_148 (I : Nat → Nat → Int32) (J : Nat → Nat → Int64) (l1 : Int32) (l2 : Int32) (s0 : Int32) : zm_R := zm_V zT_X10_minute zW_M (148, [some (.ref 0), some (.int l1), some (.int l2)], [.int s0], (I, J))
noncomputable def zv_X10_minute_M_151 (I : Nat → Nat → Int32) (J : Nat → Nat → Int64) (l1 : Int32) (l2 : Int32) : zm_R := zm_V zT_X10_minute zW_M (151, [some (.ref 0), some (.int l1), some (.int l2)], [], (I, J))
noncomputable def zv_X10_minute_M_161 (I : Nat → Nat → Int32) (J : Nat → Nat → Int64) (l1 : Int32) (l2 : Int32) : zm_R := zm_V zT_X10_minute zW_M (161, [some (.ref 0), some (.int l1), some (.int l2)], [], (I, J))
noncomputable def zv_X10_minute_M_164 (I : Nat → Nat → Int32) (J : Nat → Nat → Int64) (l1 : Int32) (l2 : Int32) : zm_R := zm_V zT_X10_minute zW_M (164, [some (.ref 0), some (.int l1), some (.int l2)], [], (I, J))
noncomputable def zv_X10_minute_M_190 (I : Nat → Nat → Int32) (J : Nat → Nat → Int64) (l1 : Int32) (l2 : Int32) : zm_R := zm_V zT_X10_minute zW_M (190, [some (.ref 0), some (.int l1), some (.int l2)], [], (I, J))
noncomputable def zv_X10_minute_M_195 (I : Nat → Nat → Int32) (J : Nat → Nat → Int64) (l1 : Int32) (l2 : Int32) : zm_R := zm_V zT_X10_minute zW_M (195, [some (.ref 0), some (.int l1), some (.int l2)], [], (I, J))
noncomputable def zv_X10_minute_M_201 (I : Nat → Nat → Int32) (J : Nat → Nat → Int64) (l1 : Int32) (l2 : Int32) : zm_R := zm_V zT_X10_minute zW_M (201, [some (.ref 0), some (.int l1), some (.int l2)], [], (I, J))
noncomputable def zv_X10_minute_M_203 (I : Nat → Nat → Int32) (J : Nat → Nat → Int64) (l1 : Int32) (l2 : Int32) : zm_R := zm_V zT_X10_minute zW_M (203, [some (.ref 0), some (.int l1), some (.int l2)], [], (I, J))
noncomputable def zv_X10_minute_M_208 (I : Nat → Nat → Int32) (J : Nat → Nat → Int64) (l1 : Int32) (l2 : Int32) (s0 : Int32) (s1 : Int32) : zm_R := zm_V zT_X10_minute zW_M (208, [some (.ref 0), some (.int l1), some (.int l2)], [.int s0, .int s1], (I, J))
noncomputable def zv_X10_minute_M_211 (I : Nat → Nat → Int32) (J : Nat → Nat → Int64) (l1 : Int32) (l2 : Int32) : zm_R := zm_V zT_X10_minute zW_M (211, [some (.ref 0), some (.int l1), some (.int l2)], [], (I, J))
noncomputable def zv_X10_minute_M_230 (I : Nat → Nat → Int32) (J : Nat → Nat → Int64) (l1 : Int32) (l2 : Int32) (s0 : Int32) : zm_R := zm_V zT_X10_minute zW_M (230, [some (.ref 0), some (.int l1), some (.int l2)], [.int s0, .ref 16], (I, J))
noncomputable def zv_X10_minute_M_239 (I : Nat → Nat → Int32) (J : Nat → Nat → Int64) (l1 : Int32) (l2 : Int32) (s0 : Int32) : zm_R := zm_V zT_X10_minute zW_M (239, [some (.ref 0), some (.int l1), some (.int l2)], [.int s0, .ref 16], (I, J))
noncomputable def zv_X10_minute_M_240 (I : Nat → Nat → Int32) (J : Nat → Nat → Int64) (l1 : Int32) (l2 : Int32) (s0 : Int32) (s1 : Int32) : zm_R := zm_V zT_X10_minute zW_M (240, [some (.ref 0), some (.int l1), some (.int l2)], [.int s0, .int s1, .ref 16], (I, J))
noncomputable def zv_X10_minute_M_260 (I : Nat → Nat → Int32) (J : Nat → Nat → Int64) (l1 : Int32) (l2 : Int32) (s0 : Int32) : zm_R := zm_V zT_X10_minute zW_M (260, [some (.ref 0), some (.int l1), some (.int l2)], [.int s0, .ref 17], (I, J))
noncomputable def zv_X10_minute_M_269 (I : Nat → Nat → Int32) (J : Nat → Nat → Int64) (l1 : Int32) (l2 : Int32) (s0 : Int32) : zm_R := zm_V zT_X10_minute zW_M (269, [some (.ref 0), some (.int l1), some (.int l2)], [.int s0, .ref 17], (I, J))
noncomputable def zv_X10_minute_M_270 (I : Nat → Nat → Int32) (J : Nat → Nat → Int64) (l1 : Int32) (l2 : Int32) (s0 : Int32) (s1 : Int32) : zm_R := zm_V zT_X10_minute zW_M (270, [some (.ref 0), some (.int l1), some (.int l2)], [.int s0, .int s1, .ref 17], (I, J))
noncomputable def zv_X10_minute_M_277 (I : Nat → Nat → Int32) (J : Nat → Nat → Int64) (l1 : Int32) (l2 : Int32) : zm_R := zm_V zT_X10_minute zW_M (277, [some (.ref 0), some (.int l1), some (.int l2)], [], (I, J))
noncomputable def zv_X10_minute_M_281 (I : Nat → Nat → Int32) (J : Nat → Nat → Int64) (l1 : Int32) (l2 : Int32) : zm_R := zm_V zT_X10_minute zW_M (281, [some (.ref 0), some (.int l1), some (.int l2)], [], (I, J))
noncomputable def zv_X10_minute_M_290 (I : Nat → Nat → Int32) (J : Nat → Nat → Int64) (l1 : Int32) (l2 : Int32) : zm_R := zm_V zT_X10_minute zW_M (290, [some (.ref 0), some (.int l1), some (.int l2)], [], (I, J))
noncomputable def zv_X10_minute_M_310 (I : Nat → Nat → Int32) (J : Nat → Nat → Int64) (l1 : Int32) (l2 : Int32) : zm_R := zm_V zT_X10_minute zW_M (310, [some (.ref 0), some (.int l1), some (.int l2)], [], (I, J))
noncomputable def zv_X10_minute_M_314 (I : Nat → Nat → Int32) (J : Nat → Nat → Int64) (l1 : Int32) (l2 : Int32) (s0 : Int32) : zm_R := zm_V zT_X10_minute zW_M (314, [some (.ref 0), some (.int l1), some (.int l2)], [.int s0], (I, J))
noncomputable def zv_X10_minute_M_320 (I : Nat → Nat → Int32) (J : Nat → Nat → Int64) (l1 : Int32) (l2 : Int32) : zm_R := zm_V zT_X10_minute zW_M (320, [some (.ref 0), some (.int l1), some (.int l2)], [], (I, J))
noncomputable def zv_X10_minute_M_346 (I : Nat → Nat → Int32) (J : Nat → Nat → Int64) (l1 : Int32) (l2 : Int32) : zm_R := zm_V zT_X10_minute zW_M (346, [some (.ref 0), some (.int l1), some (.int l2)], [], (I, J))
noncomputable def zv_X10_minute_M_348 (I : Nat → Nat → Int32) (J : Nat → Nat → Int64) (l1 : Int32) (l2 : Int32) : zm_R := zm_V zT_X10_minute zW_M (348, [some (.ref 0), some (.int l1), some (.int l2)], [], (I, J))
noncomputable def zv_X10_minute_M_353 (I : Nat → Nat → Int32) (J : Nat → Nat → Int64) (l1 : Int32) (l2 : Int32) (s0 : Int32) (s1 : Int32) : zm_R := zm_V zT_X10_minute zW_M (353, [some (.ref 0), some (.int l1), some (.int l2)], [.int s0, .int s1], (I, J))
noncomputable def zv_X10_minute_M_356 (I : Nat → Nat → Int32) (J : Nat → Nat → Int64) (l1 : Int32) (l2 : Int32) : zm_R := zm_V zT_X10_minute zW_M (356, [some (.ref 0), some (.int l1), some (.int l2)], [], (I, J))
noncomputable def zv_X10_minute_M_365 (I : Nat → Nat → Int32) (J : Nat → Nat → Int64) (l1 : Int32) (l2 : Int32) : zm_R := zm_V zT_X10_minute zW_M (365, [some (.ref 0), some (.int l1), some (.int l2)], [], (I, J))
noncomputable def zv_X10_minute_M_375 (I : Nat → Nat → Int32) (J : Nat → Nat → Int64) (l1 : Int32) (l2 : Int32) : zm_R := zm_V zT_X10_minute zW_M (375, [some (.ref 0), some (.int l1), some (.int l2)], [], (I, J))
noncomputable def zv_X10_minute_M_385 (I : Nat → Nat → Int32) (J : Nat → Nat → Int64) (l1 : Int32) (l2 : Int32) (s0 : Int32) (s1 : Int32) : zm_R := zm_V zT_X10_minute zW_M (385, [some (.ref 0), some (.int l1), some (.int l2)], [.int s0, .int s1, .ref 25], (I, J))
noncomputable def zv_X10_minute_M_386 (I : Nat → Nat → Int32) (J : Nat → Nat → Int64) (l1 : Int32) (l2 : Int32) : zm_R := zm_V zT_X10_minute zW_M (386, [some (.ref 0), some (.int l1), some (.int l2)], [], (I, J))
noncomputable def zv_X10_minute_M_392 (I : Nat → Nat → Int32) (J : Nat → Nat → Int64) (l1 : Int32) (l2 : Int32) : zm_R := zm_V zT_X10_minute zW_M (392, [some (.ref 0), some (.int l1), some (.int l2)], [], (I, J))
noncomputable def zv_X10_minute_M_394 (I : Nat → Nat → Int32) (J : Nat → Nat → Int64) (l1 : Int32) (l2 : Int32) : zm_R := zm_V zT_X10_minute zW_M (394, [some (.ref 0), some (.int l1), some (.int l2)], [], (I, J))
noncomputable def zv_X10_minute_M_399 (I : Nat → Nat → Int32) (J : Nat → Nat → Int64) (l1 : Int32) (l2 : Int32) (s0 : Int32) (s1 : Int32) : zm_R := zm_V zT_X10_minute zW_M (399, [some (.ref 0), some (.int l1), some (.int l2)], [.int s0, .int s1], (I, J))
noncomputable def zv_X10_minute_M_402 (I : Nat → Nat → Int32) (J : Nat → Nat → Int64) (l1 : Int32) (l2 : Int32) : zm_R := zm_V zT_X10_minute zW_M (402, [some (.ref 0), some (.int l1), some (.int l2)], [], (I, J))
noncomputable def zv_X10_minute_M_411 (I : Nat → Nat → Int32) (J : Nat → Nat → Int64) (l1 : Int32) (l2 : Int32) : zm_R := zm_V zT_X10_minute zW_M (411, [some (.ref 0), some (.int l1), some (.int l2)], [], (I, J))
noncomputable def zv_X10_minute_M_421 (I : Nat → Nat → Int32) (J : Nat → Nat → Int64) (l1 : Int32) (l2 : Int32) : zm_R := zm_V zT_X10_minute zW_M (421, [some (.ref 0), some (.int l1), some (.int l2)], [], (I, J))
noncomputable def zv_X10_minute_M_424 (I : Nat → Nat → Int32) (J : Nat → Nat → Int64) (l1 : Int32) (l2 : Int32) : zm_R := zm_V zT_X10_minute zW_M (424, [some (.ref 0), some (.int l1), some (.int l2)], [], (I, J))
noncomputable def zv_X10_minute_M_446 (I : Nat → Nat → Int32) (J : Nat → Nat → Int64) (l1 : Int32) (l2 : Int32) : zm_R := zm_V zT_X10_minute zW_M (446, [some (.ref 0), some (.int l1), some (.int l2)], [], (I, J))
noncomputable def zv_X10_minute_M_452 (I : Nat → Nat → Int32) (J : Nat → Nat → Int64) (l1 : Int32) (l2 : Int32) : zm_R := zm_V zT_X10_minute zW_M (452, [some (.ref 0), some (.int l1), some (.int l2)], [], (I, J))
set_option maxRecDepth 20000 in
theorem zq_X10_minute_M_0 (I : Nat → Nat → Int32) (J : Nat → Nat → Int64) (l1 : Int32) : zv_X10_minute_M_0 I J l1 = zv_X10_minute_M_2 I J l1 0 := (zm_V_eq _ _ _).trans ((fun (k : zm_S → zm_R) => (rfl : zm_step zT_X10_minute zW_M k (0, [some (.ref 0), some (.int l1), none], [], (I, J)) = k (2, [some (.ref 0), some (.int l1), some (.int 0)], [], (I, J)))) (zm_V zT_X10_minute zW_M))
set_option maxRecDepth 20000 in
theorem zq_X10_minute_M_2 (I : Nat → Nat → Int32) (J : Nat → Nat → Int64) (l1 : Int32) (l2 : Int32) : zv_X10_minute_M_2 I J l1 l2 = if (6 : Int32) < 0 ∨ 35 ≤ Int32.toNatClampNeg 6 then none else if (I 7 (Int32.toNatClampNeg 6)) ≤ l2 then zv_X10_minute_M_61 I J l1 l2 else zv_X10_minute_M_13 I J l1 l2 := (zm_V_eq _ _ _).trans ((fun (k : zm_S → zm_R) => (rfl : zm_step zT_X10_minute zW_M k (2, [some (.ref 0), some (.int l1), some (.int l2)], [], (I, J)) = if (6 : Int32) < 0 ∨ 35 ≤ Int32.toNatClampNeg 6 then none else if (I 7 (Int32.toNatClampNeg 6)) ≤ l2 then k (61, [some (.ref 0), some (.int l1), some (.int l2)], [], (I, J)) else k (13, [some (.ref 0), some (.int l1), some (.int l2)], [], (I, J)))) (zm_V zT_X10_minute zW_M))
set_option maxRecDepth 20000 in
theorem zq_X10_minute_M_13 (I : Nat → Nat → Int32) (J : Nat → Nat → Int64) (l1 : Int32) (l2 : Int32) : zv_X10_minute_M_13 I J l1 l2 = if (((3 * l2) + 2) : Int32) < 0 ∨ 600 ≤ Int32.toNatClampNeg ((3 * l2) + 2) then none else if (I 10 (Int32.toNatClampNeg ((3 * l2) + 2))) = l1 then zv_X10_minute_M_27 I J l1 l2 else zv_X10_minute_M_55 I J l1 l2 := (zm_V_eq _ _ _).trans ((fun (k : zm_S → zm_R) => (rfl : zm_step zT_X10_minute zW_M k (13, [some (.ref 0), some (.int l1), some (.int l2)], [], (I, J)) = if (((3 * l2) + 2) : Int32) < 0 ∨ 600 ≤ Int32.toNatClampNeg ((3 * l2) + 2) then none else if (I 10 (Int32.toNatClampNeg ((3 * l2) + 2))) = l1 then k (27, [some (.ref 0), some (.int l1), some (.int l2)], [], (I, J)) else k (55, [some (.ref 0), some (.int l1), some (.int l2)], [], (I, J)))) (zm_V zT_X10_minute zW_M))
set_option maxRecDepth 20000 in
theorem zq_X10_minute_M_27 (I : Nat → Nat → Int32) (J : Nat → Nat → Int64) (l1 : Int32) (l2 : Int32) : zv_X10_minute_M_27 I J l1 l2 = if ((3 * l2) : Int32) < 0 ∨ 600 ≤ Int32.toNatClampNeg (3 * l2) then none else if (((3 * l2) + 1) : Int32) < 0 ∨ 600 ≤ Int32.toNatClampNeg ((3 * l2) + 1) then none else zv_X10_minute_M_51 I J l1 l2 (I 10 (Int32.toNatClampNeg ((3 * l2) + 1))) (I 10 (Int32.toNatClampNeg (3 * l2))) l2 := (zm_V_eq _ _ _).trans ((fun (k : zm_S → zm_R) => (rfl : zm_step zT_X10_minute zW_M k (27, [some (.ref 0), some (.int l1), some (.int l2)], [], (I, J)) = if ((3 * l2) : Int32) < 0 ∨ 600 ≤ Int32.toNatClampNeg (3 * l2) then none else if (((3 * l2) + 1) : Int32) < 0 ∨ 600 ≤ Int32.toNatClampNeg ((3 * l2) + 1) then none else k (51, [some (.ref 0), some (.int l1), some (.int l2)], [.int (I 10 (Int32.toNatClampNeg ((3 * l2) + 1))), .int (I 10 (Int32.toNatClampNeg (3 * l2))), .ref 0, .int l2, .ref 20], (I, J)))) (zm_V zT_X10_minute zW_M))
set_option maxRecDepth 20000 in
theorem zc_X10_minute_M_51 (I : Nat → Nat → Int32) (J : Nat → Nat → Int64) (l1 : Int32) (l2 : Int32) (s0 : Int32) (s1 : Int32) (s3 : Int32) {I2 : Nat → Nat → Int32} {J2 : Nat → Nat → Int64} {r : Int32} (hF : zF_X10_moves zW_M [.ref 0, .int s1, .int s0] (I, J) = some (some (.int r), (I2, J2))) : zv_X10_minute_M_51 I J l1 l2 s0 s1 s3 = zv_X10_minute_M_54 I2 J2 l1 l2 r s3 := by
  have e : ∀ k : zm_S → zm_R, zm_step zT_X10_minute zW_M k (51, [some (.ref 0), some (.int l1), some (.int l2)], [.int s0, .int s1, .ref 0, .int s3, .ref 20], (I, J)) = zm_app (3, some 10, true, [], zF_X10_moves) zW_M [.ref 0, .int s1, .int s0] (I, J) (fun v N => k (54, [some (.ref 0), some (.int l1), some (.int l2)], v.toList ++ [.int s3, .ref 20], N)) := fun k => rfl
  have g := zm_app_s (C := (3, some 10, true, [], zF_X10_moves)) (wl := zW_M) (as := [.ref 0, .int s1, .int s0]) (M := (I, J)) (k := fun v N => zm_V zT_X10_minute zW_M (54, [some (.ref 0), some (.int l1), some (.int l2)], v.toList ++ [.int s3, .ref 20], N)) rfl rfl hF
  exact (zm_V_eq _ _ _).trans ((e _).trans g)
set_option maxRecDepth 20000 in
theorem zq_X10_minute_M_54 (I : Nat → Nat → Int32) (J : Nat → Nat → Int64) (l1 : Int32) (l2 : Int32) (s0 : Int32) (s1 : Int32) : zv_X10_minute_M_54 I J l1 l2 s0 s1 = if (s1 : Int32) < 0 ∨ 40 ≤ Int32.toNatClampNeg s1 then none else zv_X10_minute_M_55 (zm_w I 20 (Int32.toNatClampNeg s1) (vp_nar .boolean s0)) J l1 l2 := (zm_V_eq _ _ _).trans ((fun (k : zm_S → zm_R) => (rfl : zm_step zT_X10_minute zW_M k (54, [some (.ref 0), some (.int l1), some (.int l2)], [.int s0, .int s1, .ref 20], (I, J)) = if (s1 : Int32) < 0 ∨ 40 ≤ Int32.toNatClampNeg s1 then none else k (55, [some (.ref 0), some (.int l1), some (.int l2)], [], ((zm_w I 20 (Int32.toNatClampNeg s1) (vp_nar .boolean s0)), J)))) (zm_V zT_X10_minute zW_M))
set_option maxRecDepth 20000 in
theorem zq_X10_minute_M_55 (I : Nat → Nat → Int32) (J : Nat → Nat → Int64) (l1 : Int32) (l2 : Int32) : zv_X10_minute_M_55 I J l1 l2 = zv_X10_minute_M_2 I J l1 (l2 + 1) := (zm_V_eq _ _ _).trans ((fun (k : zm_S → zm_R) => (rfl : zm_step zT_X10_minute zW_M k (55, [some (.ref 0), some (.int l1), some (.int l2)], [], (I, J)) = k (2, [some (.ref 0), some (.int l1), some (.int (l2 + 1))], [], (I, J)))) (zm_V zT_X10_minute zW_M))
set_option maxRecDepth 20000 in
theorem zq_X10_minute_M_61 (I : Nat → Nat → Int32) (J : Nat → Nat → Int64) (l1 : Int32) (l2 : Int32) : zv_X10_minute_M_61 I J l1 l2 = if (I 0 25) = (-1) then zv_X10_minute_M_90 I J l1 l2 else zv_X10_minute_M_69 I J l1 l2 := (zm_V_eq _ _ _).trans ((fun (k : zm_S → zm_R) => (rfl : zm_step zT_X10_minute zW_M k (61, [some (.ref 0), some (.int l1), some (.int l2)], [], (I, J)) = if (I 0 25) = (-1) then k (90, [some (.ref 0), some (.int l1), some (.int l2)], [], (I, J)) else k (69, [some (.ref 0), some (.int l1), some (.int l2)], [], (I, J)))) (zm_V zT_X10_minute zW_M))
set_option maxRecDepth 20000 in
theorem zq_X10_minute_M_69 (I : Nat → Nat → Int32) (J : Nat → Nat → Int64) (l1 : Int32) (l2 : Int32) : zv_X10_minute_M_69 I J l1 l2 = if (I 0 27) = l1 then zv_X10_minute_M_77 I J l1 l2 else zv_X10_minute_M_90 I J l1 l2 := (zm_V_eq _ _ _).trans ((fun (k : zm_S → zm_R) => (rfl : zm_step zT_X10_minute zW_M k (69, [some (.ref 0), some (.int l1), some (.int l2)], [], (I, J)) = if (I 0 27) = l1 then k (77, [some (.ref 0), some (.int l1), some (.int l2)], [], (I, J)) else k (90, [some (.ref 0), some (.int l1), some (.int l2)], [], (I, J)))) (zm_V zT_X10_minute zW_M))
set_option maxRecDepth 20000 in
theorem zc_X10_minute_M_77 (I : Nat → Nat → Int32) (J : Nat → Nat → Int64) (l1 : Int32) (l2 : Int32) {I2 : Nat → Nat → Int32} {J2 : Nat → Nat → Int64} {r : Int32} (hF : zF_X10_moves zW_M [.ref 0, .int (I 0 25), .int (I 0 26)] (I, J) = some (some (.int r), (I2, J2))) : zv_X10_minute_M_77 I J l1 l2 = zv_X10_minute_M_89 I2 J2 l1 l2 r := by
  have e : ∀ k : zm_S → zm_R, zm_step zT_X10_minute zW_M k (77, [some (.ref 0), some (.int l1), some (.int l2)], [], (I, J)) = zm_app (3, some 10, true, [], zF_X10_moves) zW_M [.ref 0, .int (I 0 25), .int (I 0 26)] (I, J) (fun v N => k (89, [some (.ref 0), some (.int l1), some (.int l2)], v.toList ++ [], N)) := fun k => rfl
  have g := zm_app_s (C := (3, some 10, true, [], zF_X10_moves)) (wl := zW_M) (as := [.ref 0, .int (I 0 25), .int (I 0 26)]) (M := (I, J)) (k := fun v N => zm_V zT_X10_minute zW_M (89, [some (.ref 0), some (.int l1), some (.int l2)], v.toList ++ [], N)) rfl rfl hF
  exact (zm_V_eq _ _ _).trans ((e _).trans g)
set_option maxRecDepth 20000 in
theorem zq_X10_minute_M_89 (I : Nat → Nat → Int32) (J : Nat → Nat → Int64) (l1 : Int32) (l2 : Int32) (s0 : Int32) : zv_X10_minute_M_89 I J l1 l2 s0 = zv_X10_minute_M_90 I J l1 l2 := (zm_V_eq _ _ _).trans ((fun (k : zm_S → zm_R) => (rfl : zm_step zT_X10_minute zW_M k (89, [some (.ref 0), some (.int l1), some (.int l2)], [.int s0], (I, J)) = k (90, [some (.ref 0), some (.int l1), some (.int l2)], [], (I, J)))) (zm_V zT_X10_minute zW_M))
set_option maxRecDepth 20000 in
theorem zq_X10_minute_M_90 (I : Nat → Nat → Int32) (J : Nat → Nat → Int64) (l1 : Int32) (l2 : Int32) : zv_X10_minute_M_90 I J l1 l2 = zv_X10_minute_M_92 I J l1 0 := (zm_V_eq _ _ _).trans ((fun (k : zm_S → zm_R) => (rfl : zm_step zT_X10_minute zW_M k (90, [some (.ref 0), some (.int l1), some (.int l2)], [], (I, J)) = k (92, [some (.ref 0), some (.int l1), some (.int 0)], [], (I, J)))) (zm_V zT_X10_minute zW_M))
set_option maxRecDepth 20000 in
theorem zc_X10_minute_M_92 (I : Nat → Nat → Int32) (J : Nat → Nat → Int64) (l1 : Int32) (l2 : Int32) {I2 : Nat → Nat → Int32} {J2 : Nat → Nat → Int64} {r : Int32} (hF : zF_X10_callers zW_M [.ref 0] (I, J) = some (some (.int r), (I2, J2))) : zv_X10_minute_M_92 I J l1 l2 = zv_X10_minute_M_97 I2 J2 l1 l2 r l2 := by
  have e : ∀ k : zm_S → zm_R, zm_step zT_X10_minute zW_M k (92, [some (.ref 0), some (.int l1), some (.int l2)], [], (I, J)) = zm_app (1, some 10, true, [], zF_X10_callers) zW_M [.ref 0] (I, J) (fun v N => k (97, [some (.ref 0), some (.int l1), some (.int l2)], v.toList ++ [.int l2], N)) := fun k => rfl
  have g := zm_app_s (C := (1, some 10, true, [], zF_X10_callers)) (wl := zW_M) (as := [.ref 0]) (M := (I, J)) (k := fun v N => zm_V zT_X10_minute zW_M (97, [some (.ref 0), some (.int l1), some (.int l2)], v.toList ++ [.int l2], N)) rfl rfl hF
  exact (zm_V_eq _ _ _).trans ((e _).trans g)
set_option maxRecDepth 20000 in
theorem zq_X10_minute_M_97 (I : Nat → Nat → Int32) (J : Nat → Nat → Int64) (l1 : Int32) (l2 : Int32) (s0 : Int32) (s1 : Int32) : zv_X10_minute_M_97 I J l1 l2 s0 s1 = if s0 ≤ s1 then zv_X10_minute_M_130 I J l1 l2 else zv_X10_minute_M_100 I J l1 l2 := (zm_V_eq _ _ _).trans ((fun (k : zm_S → zm_R) => (rfl : zm_step zT_X10_minute zW_M k (97, [some (.ref 0), some (.int l1), some (.int l2)], [.int s0, .int s1], (I, J)) = if s0 ≤ s1 then k (130, [some (.ref 0), some (.int l1), some (.int l2)], [], (I, J)) else k (100, [some (.ref 0), some (.int l1), some (.int l2)], [], (I, J)))) (zm_V zT_X10_minute zW_M))
set_option maxRecDepth 20000 in
theorem zq_X10_minute_M_100 (I : Nat → Nat → Int32) (J : Nat → Nat → Int64) (l1 : Int32) (l2 : Int32) : zv_X10_minute_M_100 I J l1 l2 = if (l2 : Int32) < 0 ∨ 5 ≤ Int32.toNatClampNeg l2 then none else if (I 24 (Int32.toNatClampNeg l2)) = 0 then zv_X10_minute_M_124 I J l1 l2 else zv_X10_minute_M_109 I J l1 l2 := (zm_V_eq _ _ _).trans ((fun (k : zm_S → zm_R) => (rfl : zm_step zT_X10_minute zW_M k (100, [some (.ref 0), some (.int l1), some (.int l2)], [], (I, J)) = if (l2 : Int32) < 0 ∨ 5 ≤ Int32.toNatClampNeg l2 then none else if (I 24 (Int32.toNatClampNeg l2)) = 0 then k (124, [some (.ref 0), some (.int l1), some (.int l2)], [], (I, J)) else k (109, [some (.ref 0), some (.int l1), some (.int l2)], [], (I, J)))) (zm_V zT_X10_minute zW_M))
set_option maxRecDepth 20000 in
theorem zq_X10_minute_M_109 (I : Nat → Nat → Int32) (J : Nat → Nat → Int64) (l1 : Int32) (l2 : Int32) : zv_X10_minute_M_109 I J l1 l2 = if (l2 : Int32) < 0 ∨ 5 ≤ Int32.toNatClampNeg l2 then none else if (I 22 (Int32.toNatClampNeg l2)) = (-1) then zv_X10_minute_M_119 I J l1 l2 else zv_X10_minute_M_124 I J l1 l2 := (zm_V_eq _ _ _).trans ((fun (k : zm_S → zm_R) => (rfl : zm_step zT_X10_minute zW_M k (109, [some (.ref 0), some (.int l1), some (.int l2)], [], (I, J)) = if (l2 : Int32) < 0 ∨ 5 ≤ Int32.toNatClampNeg l2 then none else if (I 22 (Int32.toNatClampNeg l2)) = (-1) then k (119, [some (.ref 0), some (.int l1), some (.int l2)], [], (I, J)) else k (124, [some (.ref 0), some (.int l1), some (.int l2)], [], (I, J)))) (zm_V zT_X10_minute zW_M))
set_option maxRecDepth 20000 in
theorem zc_X10_minute_M_119 (I : Nat → Nat → Int32) (J : Nat → Nat → Int64) (l1 : Int32) (l2 : Int32) {I2 : Nat → Nat → Int32} {J2 : Nat → Nat → Int64} (hF : zF_X10_sitsDown zW_M [.ref 0, .int l2] (I, J) = some (none, (I2, J2))) : zv_X10_minute_M_119 I J l1 l2 = zv_X10_minute_M_124 I2 J2 l1 l2 := by
  have e : ∀ k : zm_S → zm_R, zm_step zT_X10_minute zW_M k (119, [some (.ref 0), some (.int l1), some (.int l2)], [], (I, J)) = zm_app (2, some 10, true, [], zF_X10_sitsDown) zW_M [.ref 0, .int l2] (I, J) (fun v N => k (124, [some (.ref 0), some (.int l1), some (.int l2)], v.toList ++ [], N)) := fun k => rfl
  have g := zm_app_s (C := (2, some 10, true, [], zF_X10_sitsDown)) (wl := zW_M) (as := [.ref 0, .int l2]) (M := (I, J)) (k := fun v N => zm_V zT_X10_minute zW_M (124, [some (.ref 0), some (.int l1), some (.int l2)], v.toList ++ [], N)) rfl rfl hF
  exact (zm_V_eq _ _ _).trans ((e _).trans g)
set_option maxRecDepth 20000 in
theorem zq_X10_minute_M_124 (I : Nat → Nat → Int32) (J : Nat → Nat → Int64) (l1 : Int32) (l2 : Int32) : zv_X10_minute_M_124 I J l1 l2 = zv_X10_minute_M_92 I J l1 (l2 + 1) := (zm_V_eq _ _ _).trans ((fun (k : zm_S → zm_R) => (rfl : zm_step zT_X10_minute zW_M k (124, [some (.ref 0), some (.int l1), some (.int l2)], [], (I, J)) = k (92, [some (.ref 0), some (.int l1), some (.int (l2 + 1))], [], (I, J)))) (zm_V zT_X10_minute zW_M))
set_option maxRecDepth 20000 in
theorem zq_X10_minute_M_130 (I : Nat → Nat → Int32) (J : Nat → Nat → Int64) (l1 : Int32) (l2 : Int32) : zv_X10_minute_M_130 I J l1 l2 = zv_X10_minute_M_132 I J l1 0 := (zm_V_eq _ _ _).trans ((fun (k : zm_S → zm_R) => (rfl : zm_step zT_X10_minute zW_M k (130, [some (.ref 0), some (.int l1), some (.int l2)], [], (I, J)) = k (132, [some (.ref 0), some (.int l1), some (.int 0)], [], (I, J)))) (zm_V zT_X10_minute zW_M))
set_option maxRecDepth 20000 in
theorem zc_X10_minute_M_132 (I : Nat → Nat → Int32) (J : Nat → Nat → Int64) (l1 : Int32) (l2 : Int32) {I2 : Nat → Nat → Int32} {J2 : Nat → Nat → Int64} {r : Int32} (hF : zF_X10_callers zW_M [.ref 0] (I, J) = some (some (.int r), (I2, J2))) : zv_X10_minute_M_132 I J l1 l2 = zv_X10_minute_M_137 I2 J2 l1 l2 r l2 := by
  have e : ∀ k : zm_S → zm_R, zm_step zT_X10_minute zW_M k (132, [some (.ref 0), some (.int l1), some (.int l2)], [], (I, J)) = zm_app (1, some 10, true, [], zF_X10_callers) zW_M [.ref 0] (I, J) (fun v N => k (137, [some (.ref 0), some (.int l1), some (.int l2)], v.toList ++ [.int l2], N)) := fun k => rfl
  have g := zm_app_s (C := (1, some 10, true, [], zF_X10_callers)) (wl := zW_M) (as := [.ref 0]) (M := (I, J)) (k := fun v N => zm_V zT_X10_minute zW_M (137, [some (.ref 0), some (.int l1), some (.int l2)], v.toList ++ [.int l2], N)) rfl rfl hF
  exact (zm_V_eq _ _ _).trans ((e _).trans g)
set_option maxRecDepth 20000 in
theorem zq_X10_minute_M_137 (I : Nat → Nat → Int32) (J : Nat → Nat → Int64) (l1 : Int32) (l2 : Int32) (s0 : Int32) (s1 : Int32) : zv_X10_minute_M_137 I J l1 l2 s0 s1 = if s0 ≤ s1 then zv_X10_minute_M_201 I J l1 l2 else zv_X10_minute_M_140 I J l1 l2 := (zm_V_eq _ _ _).trans ((fun (k : zm_S → zm_R) => (rfl : zm_step zT_X10_minute zW_M k (137, [some (.ref 0), some (.int l1), some (.int l2)], [.int s0, .int s1], (I, J)) = if s0 ≤ s1 then k (201, [some (.ref 0), some (.int l1), some (.int l2)], [], (I, J)) else k (140, [some (.ref 0), some (.int l1), some (.int l2)], [], (I, J)))) (zm_V zT_X10_minute zW_M))
set_option maxRecDepth 20000 in
theorem zc_X10_minute_M_140 (I : Nat → Nat → Int32) (J : Nat → Nat → Int64) (l1 : Int32) (l2 : Int32) {I2 : Nat → Nat → Int32} {J2 : Nat → Nat → Int64} {r : Int32} (hF : zF_X10_isBit zW_M [.int (I 0 24), .int l2] (I, J) = some (some (.int r), (I2, J2))) : zv_X10_minute_M_140 I J l1 l2 = zv_X10_minute_M_148 I2 J2 l1 l2 r := by
  have e : ∀ k : zm_S → zm_R, zm_step zT_X10_minute zW_M k (140, [some (.ref 0), some (.int l1), some (.int l2)], [], (I, J)) = zm_app (2, none, true, [], zF_X10_isBit) zW_M [.int (I 0 24), .int l2] (I, J) (fun v N => k (148, [some (.ref 0), some (.int l1), some (.int l2)], v.toList ++ [], N)) := fun k => rfl
  have g := zm_app_s (C := (2, none, true, [], zF_X10_isBit)) (wl := zW_M) (as := [.int (I 0 24), .int l2]) (M := (I, J)) (k := fun v N => zm_V zT_X10_minute zW_M (148, [some (.ref 0), some (.int l1), some (.int l2)], v.toList ++ [], N)) rfl rfl hF
  exact (zm_V_eq _ _ _).trans ((e _).trans g)
set_option maxRecDepth 20000 in
theorem zq_X10_minute_M_148 (I : Nat → Nat → Int32) (J : Nat → Nat → Int64) (l1 : Int32) (l2 : Int32) (s0 : Int32) : zv_X10_minute_M_148 I J l1 l2 s0 = if s0 = 0 then zv_X10_minute_M_151 I J l1 l2 else zv_X10_minute_M_195 I J l1 l2 := (zm_V_eq _ _ _).trans ((fun (k : zm_S → zm_R) => (rfl : zm_step zT_X10_minute zW_M k (148, [some (.ref 0), some (.int l1), some (.int l2)], [.int s0], (I, J)) = if s0 = 0 then k (151, [some (.ref 0), some (.int l1), some (.int l2)], [], (I, J)) else k (195, [some (.ref 0), some (.int l1), some (.int l2)], [], (I, J)))) (zm_V zT_X10_minute zW_M))
set_option maxRecDepth 20000 in
theorem zq_X10_minute_M_151 (I : Nat → Nat → Int32) (J : Nat → Nat → Int64) (l1 : Int32) (l2 : Int32) : zv_X10_minute_M_151 I J l1 l2 = if (l2 : Int32) < 0 ∨ 5 ≤ Int32.toNatClampNeg l2 then none else if (I 14 (Int32.toNatClampNeg l2)) = l1 then zv_X10_minute_M_164 I J l1 l2 else zv_X10_minute_M_161 I J l1 l2 := (zm_V_eq _ _ _).trans ((fun (k : zm_S → zm_R) => (rfl : zm_step zT_X10_minute zW_M k (151, [some (.ref 0), some (.int l1), some (.int l2)], [], (I, J)) = if (l2 : Int32) < 0 ∨ 5 ≤ Int32.toNatClampNeg l2 then none else if (I 14 (Int32.toNatClampNeg l2)) = l1 then k (164, [some (.ref 0), some (.int l1), some (.int l2)], [], (I, J)) else k (161, [some (.ref 0), some (.int l1), some (.int l2)], [], (I, J)))) (zm_V zT_X10_minute zW_M))
set_option maxRecDepth 20000 in
theorem zq_X10_minute_M_161 (I : Nat → Nat → Int32) (J : Nat → Nat → Int64) (l1 : Int32) (l2 : Int32) : zv_X10_minute_M_161 I J l1 l2 = zv_X10_minute_M_195 I J l1 l2 := (zm_V_eq _ _ _).trans ((fun (k : zm_S → zm_R) => (rfl : zm_step zT_X10_minute zW_M k (161, [some (.ref 0), some (.int l1), some (.int l2)], [], (I, J)) = k (195, [some (.ref 0), some (.int l1), some (.int l2)], [], (I, J)))) (zm_V zT_X10_minute zW_M))
set_option maxRecDepth 20000 in
theorem zq_X10_minute_M_164 (I : Nat → Nat → Int32) (J : Nat → Nat → Int64) (l1 : Int32) (l2 : Int32) : zv_X10_minute_M_164 I J l1 l2 = if (l2 : Int32) < 0 ∨ 5 ≤ Int32.toNatClampNeg l2 then none else if (l2 : Int32) < 0 ∨ 5 ≤ Int32.toNatClampNeg l2 then none else if (l2 : Int32) < 0 ∨ 5 ≤ Int32.toNatClampNeg l2 then none else if (l2 : Int32) < 0 ∨ 5 ≤ Int32.toNatClampNeg l2 then none else zv_X10_minute_M_190 (zm_w (zm_w (zm_w I 24 (Int32.toNatClampNeg l2) (vp_nar .boolean 1)) 21 (Int32.toNatClampNeg l2) ((zm_w I 24 (Int32.toNatClampNeg l2) (vp_nar .boolean 1)) 13 (Int32.toNatClampNeg l2))) 22 (Int32.toNatClampNeg l2) (-1)) J l1 l2 := (zm_V_eq _ _ _).trans ((fun (k : zm_S → zm_R) => (rfl : zm_step zT_X10_minute zW_M k (164, [some (.ref 0), some (.int l1), some (.int l2)], [], (I, J)) = if (l2 : Int32) < 0 ∨ 5 ≤ Int32.toNatClampNeg l2 then none else if (l2 : Int32) < 0 ∨ 5 ≤ Int32.toNatClampNeg l2 then none else if (l2 : Int32) < 0 ∨ 5 ≤ Int32.toNatClampNeg l2 then none else if (l2 : Int32) < 0 ∨ 5 ≤ Int32.toNatClampNeg l2 then none else k (190, [some (.ref 0), some (.int l1), some (.int l2)], [], ((zm_w (zm_w (zm_w I 24 (Int32.toNatClampNeg l2) (vp_nar .boolean 1)) 21 (Int32.toNatClampNeg l2) ((zm_w I 24 (Int32.toNatClampNeg l2) (vp_nar .boolean 1)) 13 (Int32.toNatClampNeg l2))) 22 (Int32.toNatClampNeg l2) (-1)), J)))) (zm_V zT_X10_minute zW_M))
set_option maxRecDepth 20000 in
theorem zc_X10_minute_M_190 (I : Nat → Nat → Int32) (J : Nat → Nat → Int64) (l1 : Int32) (l2 : Int32) {I2 : Nat → Nat → Int32} {J2 : Nat → Nat → Int64} (hF : zF_X10_sitsDown zW_M [.ref 0, .int l2] (I, J) = some (none, (I2, J2))) : zv_X10_minute_M_190 I J l1 l2 = zv_X10_minute_M_195 I2 J2 l1 l2 := by
  have e : ∀ k : zm_S → zm_R, zm_step zT_X10_minute zW_M k (190, [some (.ref 0), some (.int l1), some (.int l2)], [], (I, J)) = zm_app (2, some 10, true, [], zF_X10_sitsDown) zW_M [.ref 0, .int l2] (I, J) (fun v N => k (195, [some (.ref 0), some (.int l1), some (.int l2)], v.toList ++ [], N)) := fun k => rfl
  have g := zm_app_s (C := (2, some 10, true, [], zF_X10_sitsDown)) (wl := zW_M) (as := [.ref 0, .int l2]) (M := (I, J)) (k := fun v N => zm_V zT_X10_minute zW_M (195, [some (.ref 0), some (.int l1), some (.int l2)], v.toList ++ [], N)) rfl rfl hF
  exact (zm_V_eq _ _ _).trans ((e _).trans g)
set_option maxRecDepth 20000 in
theorem zq_X10_minute_M_195 (I : Nat → Nat → Int32) (J : Nat → Nat → Int64) (l1 : Int32) (l2 : Int32) : zv_X10_minute_M_195 I J l1 l2 = zv_X10_minute_M_132 I J l1 (l2 + 1) := (zm_V_eq _ _ _).trans ((fun (k : zm_S → zm_R) => (rfl : zm_step zT_X10_minute zW_M k (195, [some (.ref 0), some (.int l1), some (.int l2)], [], (I, J)) = k (132, [some (.ref 0), some (.int l1), some (.int (l2 + 1))], [], (I, J)))) (zm_V zT_X10_minute zW_M))
set_option maxRecDepth 20000 in
theorem zq_X10_minute_M_201 (I : Nat → Nat → Int32) (J : Nat → Nat → Int64) (l1 : Int32) (l2 : Int32) : zv_X10_minute_M_201 I J l1 l2 = zv_X10_minute_M_203 I J l1 0 := (zm_V_eq _ _ _).trans ((fun (k : zm_S → zm_R) => (rfl : zm_step zT_X10_minute zW_M k (201, [some (.ref 0), some (.int l1), some (.int l2)], [], (I, J)) = k (203, [some (.ref 0), some (.int l1), some (.int 0)], [], (I, J)))) (zm_V zT_X10_minute zW_M))
set_option maxRecDepth 20000 in
theorem zc_X10_minute_M_203 (I : Nat → Nat → Int32) (J : Nat → Nat → Int64) (l1 : Int32) (l2 : Int32) {I2 : Nat → Nat → Int32} {J2 : Nat → Nat → Int64} {r : Int32} (hF : zF_X10_callers zW_M [.ref 0] (I, J) = some (some (.int r), (I2, J2))) : zv_X10_minute_M_203 I J l1 l2 = zv_X10_minute_M_208 I2 J2 l1 l2 r l2 := by
  have e : ∀ k : zm_S → zm_R, zm_step zT_X10_minute zW_M k (203, [some (.ref 0), some (.int l1), some (.int l2)], [], (I, J)) = zm_app (1, some 10, true, [], zF_X10_callers) zW_M [.ref 0] (I, J) (fun v N => k (208, [some (.ref 0), some (.int l1), some (.int l2)], v.toList ++ [.int l2], N)) := fun k => rfl
  have g := zm_app_s (C := (1, some 10, true, [], zF_X10_callers)) (wl := zW_M) (as := [.ref 0]) (M := (I, J)) (k := fun v N => zm_V zT_X10_minute zW_M (208, [some (.ref 0), some (.int l1), some (.int l2)], v.toList ++ [.int l2], N)) rfl rfl hF
  exact (zm_V_eq _ _ _).trans ((e _).trans g)
set_option maxRecDepth 20000 in
theorem zq_X10_minute_M_208 (I : Nat → Nat → Int32) (J : Nat → Nat → Int64) (l1 : Int32) (l2 : Int32) (s0 : Int32) (s1 : Int32) : zv_X10_minute_M_208 I J l1 l2 s0 s1 = if s0 ≤ s1 then zv_X10_minute_M_277 I J l1 l2 else zv_X10_minute_M_211 I J l1 l2 := (zm_V_eq _ _ _).trans ((fun (k : zm_S → zm_R) => (rfl : zm_step zT_X10_minute zW_M k (208, [some (.ref 0), some (.int l1), some (.int l2)], [.int s0, .int s1], (I, J)) = if s0 ≤ s1 then k (277, [some (.ref 0), some (.int l1), some (.int l2)], [], (I, J)) else k (211, [some (.ref 0), some (.int l1), some (.int l2)], [], (I, J)))) (zm_V zT_X10_minute zW_M))
set_option maxRecDepth 20000 in
theorem zq_X10_minute_M_211 (I : Nat → Nat → Int32) (J : Nat → Nat → Int64) (l1 : Int32) (l2 : Int32) : zv_X10_minute_M_211 I J l1 l2 = if (l2 : Int32) < 0 ∨ 5 ≤ Int32.toNatClampNeg l2 then none else if (I 24 (Int32.toNatClampNeg l2)) = 0 then zv_X10_minute_M_239 I J l1 l2 ((61 * l2) + l1) else zv_X10_minute_M_230 I J l1 l2 ((61 * l2) + l1) := (zm_V_eq _ _ _).trans ((fun (k : zm_S → zm_R) => (rfl : zm_step zT_X10_minute zW_M k (211, [some (.ref 0), some (.int l1), some (.int l2)], [], (I, J)) = if (l2 : Int32) < 0 ∨ 5 ≤ Int32.toNatClampNeg l2 then none else if (I 24 (Int32.toNatClampNeg l2)) = 0 then k (239, [some (.ref 0), some (.int l1), some (.int l2)], [.int ((61 * l2) + l1), .ref 16], (I, J)) else k (230, [some (.ref 0), some (.int l1), some (.int l2)], [.int ((61 * l2) + l1), .ref 16], (I, J)))) (zm_V zT_X10_minute zW_M))
set_option maxRecDepth 20000 in
theorem zq_X10_minute_M_230 (I : Nat → Nat → Int32) (J : Nat → Nat → Int64) (l1 : Int32) (l2 : Int32) (s0 : Int32) : zv_X10_minute_M_230 I J l1 l2 s0 = if (l2 : Int32) < 0 ∨ 5 ≤ Int32.toNatClampNeg l2 then none else zv_X10_minute_M_240 I J l1 l2 (I 21 (Int32.toNatClampNeg l2)) s0 := (zm_V_eq _ _ _).trans ((fun (k : zm_S → zm_R) => (rfl : zm_step zT_X10_minute zW_M k (230, [some (.ref 0), some (.int l1), some (.int l2)], [.int s0, .ref 16], (I, J)) = if (l2 : Int32) < 0 ∨ 5 ≤ Int32.toNatClampNeg l2 then none else k (240, [some (.ref 0), some (.int l1), some (.int l2)], [.int (I 21 (Int32.toNatClampNeg l2)), .int s0, .ref 16], (I, J)))) (zm_V zT_X10_minute zW_M))
set_option maxRecDepth 20000 in
theorem zq_X10_minute_M_239 (I : Nat → Nat → Int32) (J : Nat → Nat → Int64) (l1 : Int32) (l2 : Int32) (s0 : Int32) : zv_X10_minute_M_239 I J l1 l2 s0 = zv_X10_minute_M_240 I J l1 l2 (-1) s0 := (zm_V_eq _ _ _).trans ((fun (k : zm_S → zm_R) => (rfl : zm_step zT_X10_minute zW_M k (239, [some (.ref 0), some (.int l1), some (.int l2)], [.int s0, .ref 16], (I, J)) = k (240, [some (.ref 0), some (.int l1), some (.int l2)], [.int (-1), .int s0, .ref 16], (I, J)))) (zm_V zT_X10_minute zW_M))
set_option maxRecDepth 20000 in
theorem zq_X10_minute_M_240 (I : Nat → Nat → Int32) (J : Nat → Nat → Int64) (l1 : Int32) (l2 : Int32) (s0 : Int32) (s1 : Int32) : zv_X10_minute_M_240 I J l1 l2 s0 s1 = if (s1 : Int32) < 0 ∨ 305 ≤ Int32.toNatClampNeg s1 then none else if (l2 : Int32) < 0 ∨ 5 ≤ Int32.toNatClampNeg l2 then none else if ((zm_w I 16 (Int32.toNatClampNeg s1) s0) 24 (Int32.toNatClampNeg l2)) = 0 then zv_X10_minute_M_269 (zm_w I 16 (Int32.toNatClampNeg s1) s0) J l1 l2 ((61 * l2) + l1) else zv_X10_minute_M_260 (zm_w I 16 (Int32.toNatClampNeg s1) s0) J l1 l2 ((61 * l2) + l1) := (zm_V_eq _ _ _).trans ((fun (k : zm_S → zm_R) => (rfl : zm_step zT_X10_minute zW_M k (240, [some (.ref 0), some (.int l1), some (.int l2)], [.int s0, .int s1, .ref 16], (I, J)) = if (s1 : Int32) < 0 ∨ 305 ≤ Int32.toNatClampNeg s1 then none else if (l2 : Int32) < 0 ∨ 5 ≤ Int32.toNatClampNeg l2 then none else if ((zm_w I 16 (Int32.toNatClampNeg s1) s0) 24 (Int32.toNatClampNeg l2)) = 0 then k (269, [some (.ref 0), some (.int l1), some (.int l2)], [.int ((61 * l2) + l1), .ref 17], ((zm_w I 16 (Int32.toNatClampNeg s1) s0), J)) else k (260, [some (.ref 0), some (.int l1), some (.int l2)], [.int ((61 * l2) + l1), .ref 17], ((zm_w I 16 (Int32.toNatClampNeg s1) s0), J)))) (zm_V zT_X10_minute zW_M))
set_option maxRecDepth 20000 in
theorem zq_X10_minute_M_260 (I : Nat → Nat → Int32) (J : Nat → Nat → Int64) (l1 : Int32) (l2 : Int32) (s0 : Int32) : zv_X10_minute_M_260 I J l1 l2 s0 = if (l2 : Int32) < 0 ∨ 5 ≤ Int32.toNatClampNeg l2 then none else zv_X10_minute_M_270 I J l1 l2 (I 22 (Int32.toNatClampNeg l2)) s0 := (zm_V_eq _ _ _).trans ((fun (k : zm_S → zm_R) => (rfl : zm_step zT_X10_minute zW_M k (260, [some (.ref 0), some (.int l1), some (.int l2)], [.int s0, .ref 17], (I, J)) = if (l2 : Int32) < 0 ∨ 5 ≤ Int32.toNatClampNeg l2 then none else k (270, [some (.ref 0), some (.int l1), some (.int l2)], [.int (I 22 (Int32.toNatClampNeg l2)), .int s0, .ref 17], (I, J)))) (zm_V zT_X10_minute zW_M))
set_option maxRecDepth 20000 in
theorem zq_X10_minute_M_269 (I : Nat → Nat → Int32) (J : Nat → Nat → Int64) (l1 : Int32) (l2 : Int32) (s0 : Int32) : zv_X10_minute_M_269 I J l1 l2 s0 = zv_X10_minute_M_270 I J l1 l2 (-1) s0 := (zm_V_eq _ _ _).trans ((fun (k : zm_S → zm_R) => (rfl : zm_step zT_X10_minute zW_M k (269, [some (.ref 0), some (.int l1), some (.int l2)], [.int s0, .ref 17], (I, J)) = k (270, [some (.ref 0), some (.int l1), some (.int l2)], [.int (-1), .int s0, .ref 17], (I, J)))) (zm_V zT_X10_minute zW_M))
set_option maxRecDepth 20000 in
theorem zq_X10_minute_M_270 (I : Nat → Nat → Int32) (J : Nat → Nat → Int64) (l1 : Int32) (l2 : Int32) (s0 : Int32) (s1 : Int32) : zv_X10_minute_M_270 I J l1 l2 s0 s1 = if (s1 : Int32) < 0 ∨ 305 ≤ Int32.toNatClampNeg s1 then none else zv_X10_minute_M_203 (zm_w I 17 (Int32.toNatClampNeg s1) s0) J l1 (l2 + 1) := (zm_V_eq _ _ _).trans ((fun (k : zm_S → zm_R) => (rfl : zm_step zT_X10_minute zW_M k (270, [some (.ref 0), some (.int l1), some (.int l2)], [.int s0, .int s1, .ref 17], (I, J)) = if (s1 : Int32) < 0 ∨ 305 ≤ Int32.toNatClampNeg s1 then none else k (203, [some (.ref 0), some (.int l1), some (.int (l2 + 1))], [], ((zm_w I 17 (Int32.toNatClampNeg s1) s0), J)))) (zm_V zT_X10_minute zW_M))
set_option maxRecDepth 20000 in
theorem zq_X10_minute_M_277 (I : Nat → Nat → Int32) (J : Nat → Nat → Int64) (l1 : Int32) (l2 : Int32) : zv_X10_minute_M_277 I J l1 l2 = if l1 ≤ 0 then zv_X10_minute_M_346 I J l1 l2 else zv_X10_minute_M_281 I J l1 l2 := (zm_V_eq _ _ _).trans ((fun (k : zm_S → zm_R) => (rfl : zm_step zT_X10_minute zW_M k (277, [some (.ref 0), some (.int l1), some (.int l2)], [], (I, J)) = if l1 ≤ 0 then k (346, [some (.ref 0), some (.int l1), some (.int l2)], [], (I, J)) else k (281, [some (.ref 0), some (.int l1), some (.int l2)], [], (I, J)))) (zm_V zT_X10_minute zW_M))
set_option maxRecDepth 20000 in
theorem zq_X10_minute_M_281 (I : Nat → Nat → Int32) (J : Nat → Nat → Int64) (l1 : Int32) (l2 : Int32) : zv_X10_minute_M_281 I J l1 l2 = if ((I 0 23) : Int32) = 0 then none else if (l1 - l1 / (I 0 23) * (I 0 23)) = 0 then zv_X10_minute_M_290 I J l1 l2 else zv_X10_minute_M_346 I J l1 l2 := (zm_V_eq _ _ _).trans ((fun (k : zm_S → zm_R) => (rfl : zm_step zT_X10_minute zW_M k (281, [some (.ref 0), some (.int l1), some (.int l2)], [], (I, J)) = if ((I 0 23) : Int32) = 0 then none else if (l1 - l1 / (I 0 23) * (I 0 23)) = 0 then k (290, [some (.ref 0), some (.int l1), some (.int l2)], [], (I, J)) else k (346, [some (.ref 0), some (.int l1), some (.int l2)], [], (I, J)))) (zm_V zT_X10_minute zW_M))
set_option maxRecDepth 20000 in
theorem zq_X10_minute_M_290 (I : Nat → Nat → Int32) (J : Nat → Nat → Int64) (l1 : Int32) (l2 : Int32) : zv_X10_minute_M_290 I J l1 l2 = if ((I 0 23) : Int32) = 0 then none else if (lg_cmp (((J 0 28) >>> (Int32.toInt64 ((l1 / (I 0 23)) - 1) &&& 63)) &&& 1) 0) = 0 then zv_X10_minute_M_310 I J l1 l2 else zv_X10_minute_M_346 I J l1 l2 := (zm_V_eq _ _ _).trans ((fun (k : zm_S → zm_R) => (rfl : zm_step zT_X10_minute zW_M k (290, [some (.ref 0), some (.int l1), some (.int l2)], [], (I, J)) = if ((I 0 23) : Int32) = 0 then none else if (lg_cmp (((J 0 28) >>> (Int32.toInt64 ((l1 / (I 0 23)) - 1) &&& 63)) &&& 1) 0) = 0 then k (310, [some (.ref 0), some (.int l1), some (.int l2)], [], (I, J)) else k (346, [some (.ref 0), some (.int l1), some (.int l2)], [], (I, J)))) (zm_V zT_X10_minute zW_M))
set_option maxRecDepth 20000 in
theorem zc_X10_minute_M_310 (I : Nat → Nat → Int32) (J : Nat → Nat → Int64) (l1 : Int32) (l2 : Int32) {I2 : Nat → Nat → Int32} {J2 : Nat → Nat → Int64} {r : Int32} (hF : zF_X10_firstThere zW_M [.ref 0] (I, J) = some (some (.int r), (I2, J2))) : zv_X10_minute_M_310 I J l1 l2 = zv_X10_minute_M_314 I2 J2 l1 l2 r := by
  have e : ∀ k : zm_S → zm_R, zm_step zT_X10_minute zW_M k (310, [some (.ref 0), some (.int l1), some (.int l2)], [], (I, J)) = zm_app (1, some 10, true, [], zF_X10_firstThere) zW_M [.ref 0] (I, J) (fun v N => k (314, [some (.ref 0), some (.int l1), some (.int l2)], v.toList ++ [], N)) := fun k => rfl
  have g := zm_app_s (C := (1, some 10, true, [], zF_X10_firstThere)) (wl := zW_M) (as := [.ref 0]) (M := (I, J)) (k := fun v N => zm_V zT_X10_minute zW_M (314, [some (.ref 0), some (.int l1), some (.int l2)], v.toList ++ [], N)) rfl rfl hF
  exact (zm_V_eq _ _ _).trans ((e _).trans g)
set_option maxRecDepth 20000 in
theorem zq_X10_minute_M_314 (I : Nat → Nat → Int32) (J : Nat → Nat → Int64) (l1 : Int32) (l2 : Int32) (s0 : Int32) : zv_X10_minute_M_314 I J l1 l2 s0 = if s0 = (-1) then zv_X10_minute_M_346 I J l1 s0 else zv_X10_minute_M_320 I J l1 s0 := (zm_V_eq _ _ _).trans ((fun (k : zm_S → zm_R) => (rfl : zm_step zT_X10_minute zW_M k (314, [some (.ref 0), some (.int l1), some (.int l2)], [.int s0], (I, J)) = if s0 = (-1) then k (346, [some (.ref 0), some (.int l1), some (.int s0)], [], (I, J)) else k (320, [some (.ref 0), some (.int l1), some (.int s0)], [], (I, J)))) (zm_V zT_X10_minute zW_M))
set_option maxRecDepth 20000 in
theorem zq_X10_minute_M_320 (I : Nat → Nat → Int32) (J : Nat → Nat → Int64) (l1 : Int32) (l2 : Int32) : zv_X10_minute_M_320 I J l1 l2 = if (l2 : Int32) < 0 ∨ 5 ≤ Int32.toNatClampNeg l2 then none else if (l2 : Int32) < 0 ∨ 5 ≤ Int32.toNatClampNeg l2 then none else if (l2 : Int32) < 0 ∨ 5 ≤ Int32.toNatClampNeg l2 then none else if (l2 : Int32) < 0 ∨ 5 ≤ Int32.toNatClampNeg l2 then none else zv_X10_minute_M_346 (zm_w (zm_w (zm_w I 18 (Int32.toNatClampNeg l2) l1) 19 (Int32.toNatClampNeg l2) ((zm_w I 18 (Int32.toNatClampNeg l2) l1) 21 (Int32.toNatClampNeg l2))) 24 (Int32.toNatClampNeg l2) (vp_nar .boolean 0)) J l1 l2 := (zm_V_eq _ _ _).trans ((fun (k : zm_S → zm_R) => (rfl : zm_step zT_X10_minute zW_M k (320, [some (.ref 0), some (.int l1), some (.int l2)], [], (I, J)) = if (l2 : Int32) < 0 ∨ 5 ≤ Int32.toNatClampNeg l2 then none else if (l2 : Int32) < 0 ∨ 5 ≤ Int32.toNatClampNeg l2 then none else if (l2 : Int32) < 0 ∨ 5 ≤ Int32.toNatClampNeg l2 then none else if (l2 : Int32) < 0 ∨ 5 ≤ Int32.toNatClampNeg l2 then none else k (346, [some (.ref 0), some (.int l1), some (.int l2)], [], ((zm_w (zm_w (zm_w I 18 (Int32.toNatClampNeg l2) l1) 19 (Int32.toNatClampNeg l2) ((zm_w I 18 (Int32.toNatClampNeg l2) l1) 21 (Int32.toNatClampNeg l2))) 24 (Int32.toNatClampNeg l2) (vp_nar .boolean 0)), J)))) (zm_V zT_X10_minute zW_M))
set_option maxRecDepth 20000 in
theorem zq_X10_minute_M_346 (I : Nat → Nat → Int32) (J : Nat → Nat → Int64) (l1 : Int32) (l2 : Int32) : zv_X10_minute_M_346 I J l1 l2 = zv_X10_minute_M_348 I J l1 0 := (zm_V_eq _ _ _).trans ((fun (k : zm_S → zm_R) => (rfl : zm_step zT_X10_minute zW_M k (346, [some (.ref 0), some (.int l1), some (.int l2)], [], (I, J)) = k (348, [some (.ref 0), some (.int l1), some (.int 0)], [], (I, J)))) (zm_V zT_X10_minute zW_M))
set_option maxRecDepth 20000 in
theorem zc_X10_minute_M_348 (I : Nat → Nat → Int32) (J : Nat → Nat → Int64) (l1 : Int32) (l2 : Int32) {I2 : Nat → Nat → Int32} {J2 : Nat → Nat → Int64} {r : Int32} (hF : zF_X10_callers zW_M [.ref 0] (I, J) = some (some (.int r), (I2, J2))) : zv_X10_minute_M_348 I J l1 l2 = zv_X10_minute_M_353 I2 J2 l1 l2 r l2 := by
  have e : ∀ k : zm_S → zm_R, zm_step zT_X10_minute zW_M k (348, [some (.ref 0), some (.int l1), some (.int l2)], [], (I, J)) = zm_app (1, some 10, true, [], zF_X10_callers) zW_M [.ref 0] (I, J) (fun v N => k (353, [some (.ref 0), some (.int l1), some (.int l2)], v.toList ++ [.int l2], N)) := fun k => rfl
  have g := zm_app_s (C := (1, some 10, true, [], zF_X10_callers)) (wl := zW_M) (as := [.ref 0]) (M := (I, J)) (k := fun v N => zm_V zT_X10_minute zW_M (353, [some (.ref 0), some (.int l1), some (.int l2)], v.toList ++ [.int l2], N)) rfl rfl hF
  exact (zm_V_eq _ _ _).trans ((e _).trans g)
set_option maxRecDepth 20000 in
theorem zq_X10_minute_M_353 (I : Nat → Nat → Int32) (J : Nat → Nat → Int64) (l1 : Int32) (l2 : Int32) (s0 : Int32) (s1 : Int32) : zv_X10_minute_M_353 I J l1 l2 s0 s1 = if s0 ≤ s1 then zv_X10_minute_M_392 I J l1 l2 else zv_X10_minute_M_356 I J l1 l2 := (zm_V_eq _ _ _).trans ((fun (k : zm_S → zm_R) => (rfl : zm_step zT_X10_minute zW_M k (353, [some (.ref 0), some (.int l1), some (.int l2)], [.int s0, .int s1], (I, J)) = if s0 ≤ s1 then k (392, [some (.ref 0), some (.int l1), some (.int l2)], [], (I, J)) else k (356, [some (.ref 0), some (.int l1), some (.int l2)], [], (I, J)))) (zm_V zT_X10_minute zW_M))
set_option maxRecDepth 20000 in
theorem zq_X10_minute_M_356 (I : Nat → Nat → Int32) (J : Nat → Nat → Int64) (l1 : Int32) (l2 : Int32) : zv_X10_minute_M_356 I J l1 l2 = if (l2 : Int32) < 0 ∨ 5 ≤ Int32.toNatClampNeg l2 then none else if (I 24 (Int32.toNatClampNeg l2)) = 0 then zv_X10_minute_M_386 I J l1 l2 else zv_X10_minute_M_365 I J l1 l2 := (zm_V_eq _ _ _).trans ((fun (k : zm_S → zm_R) => (rfl : zm_step zT_X10_minute zW_M k (356, [some (.ref 0), some (.int l1), some (.int l2)], [], (I, J)) = if (l2 : Int32) < 0 ∨ 5 ≤ Int32.toNatClampNeg l2 then none else if (I 24 (Int32.toNatClampNeg l2)) = 0 then k (386, [some (.ref 0), some (.int l1), some (.int l2)], [], (I, J)) else k (365, [some (.ref 0), some (.int l1), some (.int l2)], [], (I, J)))) (zm_V zT_X10_minute zW_M))
set_option maxRecDepth 20000 in
theorem zq_X10_minute_M_365 (I : Nat → Nat → Int32) (J : Nat → Nat → Int64) (l1 : Int32) (l2 : Int32) : zv_X10_minute_M_365 I J l1 l2 = if (l2 : Int32) < 0 ∨ 5 ≤ Int32.toNatClampNeg l2 then none else if (I 22 (Int32.toNatClampNeg l2)) = (-1) then zv_X10_minute_M_386 I J l1 l2 else zv_X10_minute_M_375 I J l1 l2 := (zm_V_eq _ _ _).trans ((fun (k : zm_S → zm_R) => (rfl : zm_step zT_X10_minute zW_M k (365, [some (.ref 0), some (.int l1), some (.int l2)], [], (I, J)) = if (l2 : Int32) < 0 ∨ 5 ≤ Int32.toNatClampNeg l2 then none else if (I 22 (Int32.toNatClampNeg l2)) = (-1) then k (386, [some (.ref 0), some (.int l1), some (.int l2)], [], (I, J)) else k (375, [some (.ref 0), some (.int l1), some (.int l2)], [], (I, J)))) (zm_V zT_X10_minute zW_M))
set_option maxRecDepth 20000 in
theorem zc_X10_minute_M_375 (I : Nat → Nat → Int32) (J : Nat → Nat → Int64) (l1 : Int32) (l2 : Int32) {I2 : Nat → Nat → Int32} {J2 : Nat → Nat → Int64} {r : Int32} (hF : zF_X10_older zW_M [.ref 0, .int l2] (I, J) = some (some (.int r), (I2, J2))) : zv_X10_minute_M_375 I J l1 l2 = zv_X10_minute_M_385 I2 J2 l1 l2 r l2 := by
  have e : ∀ k : zm_S → zm_R, zm_step zT_X10_minute zW_M k (375, [some (.ref 0), some (.int l1), some (.int l2)], [], (I, J)) = zm_app (2, some 10, true, [], zF_X10_older) zW_M [.ref 0, .int l2] (I, J) (fun v N => k (385, [some (.ref 0), some (.int l1), some (.int l2)], v.toList ++ [.int l2, .ref 25], N)) := fun k => rfl
  have g := zm_app_s (C := (2, some 10, true, [], zF_X10_older)) (wl := zW_M) (as := [.ref 0, .int l2]) (M := (I, J)) (k := fun v N => zm_V zT_X10_minute zW_M (385, [some (.ref 0), some (.int l1), some (.int l2)], v.toList ++ [.int l2, .ref 25], N)) rfl rfl hF
  exact (zm_V_eq _ _ _).trans ((e _).trans g)
set_option maxRecDepth 20000 in
theorem zq_X10_minute_M_385 (I : Nat → Nat → Int32) (J : Nat → Nat → Int64) (l1 : Int32) (l2 : Int32) (s0 : Int32) (s1 : Int32) : zv_X10_minute_M_385 I J l1 l2 s0 s1 = if (s1 : Int32) < 0 ∨ 5 ≤ Int32.toNatClampNeg s1 then none else zv_X10_minute_M_386 (zm_w I 25 (Int32.toNatClampNeg s1) s0) J l1 l2 := (zm_V_eq _ _ _).trans ((fun (k : zm_S → zm_R) => (rfl : zm_step zT_X10_minute zW_M k (385, [some (.ref 0), some (.int l1), some (.int l2)], [.int s0, .int s1, .ref 25], (I, J)) = if (s1 : Int32) < 0 ∨ 5 ≤ Int32.toNatClampNeg s1 then none else k (386, [some (.ref 0), some (.int l1), some (.int l2)], [], ((zm_w I 25 (Int32.toNatClampNeg s1) s0), J)))) (zm_V zT_X10_minute zW_M))
set_option maxRecDepth 20000 in
theorem zq_X10_minute_M_386 (I : Nat → Nat → Int32) (J : Nat → Nat → Int64) (l1 : Int32) (l2 : Int32) : zv_X10_minute_M_386 I J l1 l2 = zv_X10_minute_M_348 I J l1 (l2 + 1) := (zm_V_eq _ _ _).trans ((fun (k : zm_S → zm_R) => (rfl : zm_step zT_X10_minute zW_M k (386, [some (.ref 0), some (.int l1), some (.int l2)], [], (I, J)) = k (348, [some (.ref 0), some (.int l1), some (.int (l2 + 1))], [], (I, J)))) (zm_V zT_X10_minute zW_M))
set_option maxRecDepth 20000 in
theorem zq_X10_minute_M_392 (I : Nat → Nat → Int32) (J : Nat → Nat → Int64) (l1 : Int32) (l2 : Int32) : zv_X10_minute_M_392 I J l1 l2 = zv_X10_minute_M_394 I J l1 0 := (zm_V_eq _ _ _).trans ((fun (k : zm_S → zm_R) => (rfl : zm_step zT_X10_minute zW_M k (392, [some (.ref 0), some (.int l1), some (.int l2)], [], (I, J)) = k (394, [some (.ref 0), some (.int l1), some (.int 0)], [], (I, J)))) (zm_V zT_X10_minute zW_M))
set_option maxRecDepth 20000 in
theorem zc_X10_minute_M_394 (I : Nat → Nat → Int32) (J : Nat → Nat → Int64) (l1 : Int32) (l2 : Int32) {I2 : Nat → Nat → Int32} {J2 : Nat → Nat → Int64} {r : Int32} (hF : zF_X10_callers zW_M [.ref 0] (I, J) = some (some (.int r), (I2, J2))) : zv_X10_minute_M_394 I J l1 l2 = zv_X10_minute_M_399 I2 J2 l1 l2 r l2 := by
  have e : ∀ k : zm_S → zm_R, zm_step zT_X10_minute zW_M k (394, [some (.ref 0), some (.int l1), some (.int l2)], [], (I, J)) = zm_app (1, some 10, true, [], zF_X10_callers) zW_M [.ref 0] (I, J) (fun v N => k (399, [some (.ref 0), some (.int l1), some (.int l2)], v.toList ++ [.int l2], N)) := fun k => rfl
  have g := zm_app_s (C := (1, some 10, true, [], zF_X10_callers)) (wl := zW_M) (as := [.ref 0]) (M := (I, J)) (k := fun v N => zm_V zT_X10_minute zW_M (399, [some (.ref 0), some (.int l1), some (.int l2)], v.toList ++ [.int l2], N)) rfl rfl hF
  exact (zm_V_eq _ _ _).trans ((e _).trans g)
set_option maxRecDepth 20000 in
theorem zq_X10_minute_M_399 (I : Nat → Nat → Int32) (J : Nat → Nat → Int64) (l1 : Int32) (l2 : Int32) (s0 : Int32) (s1 : Int32) : zv_X10_minute_M_399 I J l1 l2 s0 s1 = if s0 ≤ s1 then zv_X10_minute_M_452 I J l1 l2 else zv_X10_minute_M_402 I J l1 l2 := (zm_V_eq _ _ _).trans ((fun (k : zm_S → zm_R) => (rfl : zm_step zT_X10_minute zW_M k (399, [some (.ref 0), some (.int l1), some (.int l2)], [.int s0, .int s1], (I, J)) = if s0 ≤ s1 then k (452, [some (.ref 0), some (.int l1), some (.int l2)], [], (I, J)) else k (402, [some (.ref 0), some (.int l1), some (.int l2)], [], (I, J)))) (zm_V zT_X10_minute zW_M))
set_option maxRecDepth 20000 in
theorem zq_X10_minute_M_402 (I : Nat → Nat → Int32) (J : Nat → Nat → Int64) (l1 : Int32) (l2 : Int32) : zv_X10_minute_M_402 I J l1 l2 = if (l2 : Int32) < 0 ∨ 5 ≤ Int32.toNatClampNeg l2 then none else if (I 24 (Int32.toNatClampNeg l2)) = 0 then zv_X10_minute_M_446 I J l1 l2 else zv_X10_minute_M_411 I J l1 l2 := (zm_V_eq _ _ _).trans ((fun (k : zm_S → zm_R) => (rfl : zm_step zT_X10_minute zW_M k (402, [some (.ref 0), some (.int l1), some (.int l2)], [], (I, J)) = if (l2 : Int32) < 0 ∨ 5 ≤ Int32.toNatClampNeg l2 then none else if (I 24 (Int32.toNatClampNeg l2)) = 0 then k (446, [some (.ref 0), some (.int l1), some (.int l2)], [], (I, J)) else k (411, [some (.ref 0), some (.int l1), some (.int l2)], [], (I, J)))) (zm_V zT_X10_minute zW_M))
set_option maxRecDepth 20000 in
theorem zq_X10_minute_M_411 (I : Nat → Nat → Int32) (J : Nat → Nat → Int64) (l1 : Int32) (l2 : Int32) : zv_X10_minute_M_411 I J l1 l2 = if (l2 : Int32) < 0 ∨ 5 ≤ Int32.toNatClampNeg l2 then none else if (I 22 (Int32.toNatClampNeg l2)) = (-1) then zv_X10_minute_M_421 I J l1 l2 else zv_X10_minute_M_424 I J l1 l2 := (zm_V_eq _ _ _).trans ((fun (k : zm_S → zm_R) => (rfl : zm_step zT_X10_minute zW_M k (411, [some (.ref 0), some (.int l1), some (.int l2)], [], (I, J)) = if (l2 : Int32) < 0 ∨ 5 ≤ Int32.toNatClampNeg l2 then none else if (I 22 (Int32.toNatClampNeg l2)) = (-1) then k (421, [some (.ref 0), some (.int l1), some (.int l2)], [], (I, J)) else k (424, [some (.ref 0), some (.int l1), some (.int l2)], [], (I, J)))) (zm_V zT_X10_minute zW_M))
set_option maxRecDepth 20000 in
theorem zq_X10_minute_M_421 (I : Nat → Nat → Int32) (J : Nat → Nat → Int64) (l1 : Int32) (l2 : Int32) : zv_X10_minute_M_421 I J l1 l2 = zv_X10_minute_M_446 I J l1 l2 := (zm_V_eq _ _ _).trans ((fun (k : zm_S → zm_R) => (rfl : zm_step zT_X10_minute zW_M k (421, [some (.ref 0), some (.int l1), some (.int l2)], [], (I, J)) = k (446, [some (.ref 0), some (.int l1), some (.int l2)], [], (I, J)))) (zm_V zT_X10_minute zW_M))
set_option maxRecDepth 20000 in
theorem zq_X10_minute_M_424 (I : Nat → Nat → Int32) (J : Nat → Nat → Int64) (l1 : Int32) (l2 : Int32) : zv_X10_minute_M_424 I J l1 l2 = if (l2 : Int32) < 0 ∨ 5 ≤ Int32.toNatClampNeg l2 then none else if (l2 : Int32) < 0 ∨ 5 ≤ Int32.toNatClampNeg l2 then none else if (l2 : Int32) < 0 ∨ 5 ≤ Int32.toNatClampNeg l2 then none else if (l2 : Int32) < 0 ∨ 5 ≤ Int32.toNatClampNeg l2 then none else zv_X10_minute_M_446 (zm_w (zm_w I 21 (Int32.toNatClampNeg l2) (I 25 (Int32.toNatClampNeg l2))) 23 (Int32.toNatClampNeg l2) (((zm_w I 21 (Int32.toNatClampNeg l2) (I 25 (Int32.toNatClampNeg l2))) 23 (Int32.toNatClampNeg l2)) + 1)) J l1 l2 := (zm_V_eq _ _ _).trans ((fun (k : zm_S → zm_R) => (rfl : zm_step zT_X10_minute zW_M k (424, [some (.ref 0), some (.int l1), some (.int l2)], [], (I, J)) = if (l2 : Int32) < 0 ∨ 5 ≤ Int32.toNatClampNeg l2 then none else if (l2 : Int32) < 0 ∨ 5 ≤ Int32.toNatClampNeg l2 then none else if (l2 : Int32) < 0 ∨ 5 ≤ Int32.toNatClampNeg l2 then none else if (l2 : Int32) < 0 ∨ 5 ≤ Int32.toNatClampNeg l2 then none else k (446, [some (.ref 0), some (.int l1), some (.int l2)], [], ((zm_w (zm_w I 21 (Int32.toNatClampNeg l2) (I 25 (Int32.toNatClampNeg l2))) 23 (Int32.toNatClampNeg l2) (((zm_w I 21 (Int32.toNatClampNeg l2) (I 25 (Int32.toNatClampNeg l2))) 23 (Int32.toNatClampNeg l2)) + 1)), J)))) (zm_V zT_X10_minute zW_M))
set_option maxRecDepth 20000 in
theorem zq_X10_minute_M_446 (I : Nat → Nat → Int32) (J : Nat → Nat → Int64) (l1 : Int32) (l2 : Int32) : zv_X10_minute_M_446 I J l1 l2 = zv_X10_minute_M_394 I J l1 (l2 + 1) := (zm_V_eq _ _ _).trans ((fun (k : zm_S → zm_R) => (rfl : zm_step zT_X10_minute zW_M k (446, [some (.ref 0), some (.int l1), some (.int l2)], [], (I, J)) = k (394, [some (.ref 0), some (.int l1), some (.int (l2 + 1))], [], (I, J)))) (zm_V zT_X10_minute zW_M))
set_option maxRecDepth 20000 in
theorem zq_X10_minute_M_452 (I : Nat → Nat → Int32) (J : Nat → Nat → Int64) (l1 : Int32) (l2 : Int32) : zv_X10_minute_M_452 I J l1 l2 = some (none, (I, J)) := (zm_V_eq _ _ _).trans ((fun (k : zm_S → zm_R) => (rfl : zm_step zT_X10_minute zW_M k (452, [some (.ref 0), some (.int l1), some (.int l2)], [], (I, J)) = some (none, (I, J)))) (zm_V zT_X10_minute zW_M))
theorem zf_X10_minute_M (I : Nat → Nat → Int32) (J : Nat → Nat → Int64) (l1 : Int32) : zF_X10_minute zW_M [.ref 0, .int l1] (I, J) = zv_X10_minute_M_0 I J l1 := rfl
noncomputable def zv_X10_runs_M_0 (I : Nat → Nat → Int32) (J : Nat → Nat → Int64) (l1 : Int32) : zm_R := zm_V zT_X10_runs zW_M (0, [some (.ref 0), some (.int l1), none], [], (I, J))
noncomputable def zv_X10_runs_M_2 (I : Nat → Nat → Int32) (J : Nat → Nat → Int64) (l1 : Int32) (l2 : Int32) : zm_R := zm_V zT_X10_runs zW_M (2, [some (.ref 0), some (.int l1), some (.int l2)], [], (I, J))
noncomputable def zv_X10_runs_M_7 (I : Nat → Nat → Int32) (J : Nat → Nat → Int64) (l1 : Int32) (l2 : Int32) : zm_R := zm_V zT_X10_runs zW_M (7, [some (.ref 0), some (.int l1), some (.int l2)], [], (I, J))
noncomputable def zv_X10_runs_M_27 (I : Nat → Nat → Int32) (J : Nat → Nat → Int64) (l1 : Int32) (l2 : Int32) : zm_R := zm_V zT_X10_runs zW_M (27, [some (.ref 0), some (.int l1), some (.int l2)], [], (I, J))
noncomputable def zv_X10_runs_M_29 (I : Nat → Nat → Int32) (J : Nat → Nat → Int64) (l1 : Int32) (l2 : Int32) : zm_R := zm_V zT_X10_runs zW_M (29, [some (.ref 0), some (.int l1), some (.int l2)], [], (I, J))
noncomputable def zv_X10_runs_M_34 (I : Nat → Nat → Int32) (J : Nat → Nat → Int64) (l1 : Int32) (l2 : Int32) : zm_R := zm_V zT_X10_runs zW_M (34, [some (.ref 0), some (.int l1), some (.int l2)], [], (I, J))
noncomputable def zv_X10_runs_M_39 (I : Nat → Nat → Int32) (J : Nat → Nat → Int64) (l1 : Int32) (l2 : Int32) : zm_R := zm_V zT_X10_runs zW_M (39, [some (.ref 0), some (.int l1), some (.int l2)], [], (I, J))
noncomputable def zv_X10_runs_M_45 (I : Nat → Nat → Int32) (J : Nat → Nat → Int64) (l1 : Int32) (l2 : Int32) : zm_R := zm_V zT_X10_runs zW_M (45, [some (.ref 0), some (.int l1), some (.int l2)], [], (I, J))
set_option maxRecDepth 20000 in
theorem zq_X10_runs_M_0 (I : Nat → Nat → Int32) (J : Nat → Nat → Int64) (l1 : Int32) : zv_X10_runs_M_0 I J l1 = zv_X10_runs_M_2 I J l1 0 := (zm_V_eq _ _ _).trans ((fun (k : zm_S → zm_R) => (rfl : zm_step zT_X10_runs zW_M k (0, [some (.ref 0), some (.int l1), none], [], (I, J)) = k (2, [some (.ref 0), some (.int l1), some (.int 0)], [], (I, J)))) (zm_V zT_X10_runs zW_M))
set_option maxRecDepth 20000 in
theorem zq_X10_runs_M_2 (I : Nat → Nat → Int32) (J : Nat → Nat → Int64) (l1 : Int32) (l2 : Int32) : zv_X10_runs_M_2 I J l1 l2 = if 5 ≤ l2 then zv_X10_runs_M_27 I J l1 l2 else zv_X10_runs_M_7 I J l1 l2 := (zm_V_eq _ _ _).trans ((fun (k : zm_S → zm_R) => (rfl : zm_step zT_X10_runs zW_M k (2, [some (.ref 0), some (.int l1), some (.int l2)], [], (I, J)) = if 5 ≤ l2 then k (27, [some (.ref 0), some (.int l1), some (.int l2)], [], (I, J)) else k (7, [some (.ref 0), some (.int l1), some (.int l2)], [], (I, J)))) (zm_V zT_X10_runs zW_M))
set_option maxRecDepth 20000 in
theorem zq_X10_runs_M_7 (I : Nat → Nat → Int32) (J : Nat → Nat → Int64) (l1 : Int32) (l2 : Int32) : zv_X10_runs_M_7 I J l1 l2 = if (l2 : Int32) < 0 ∨ 5 ≤ Int32.toNatClampNeg l2 then none else if (l2 : Int32) < 0 ∨ 5 ≤ Int32.toNatClampNeg l2 then none else zv_X10_runs_M_2 (zm_w (zm_w I 24 (Int32.toNatClampNeg l2) (vp_nar .boolean 0)) 18 (Int32.toNatClampNeg l2) (-1)) J l1 (l2 + 1) := (zm_V_eq _ _ _).trans ((fun (k : zm_S → zm_R) => (rfl : zm_step zT_X10_runs zW_M k (7, [some (.ref 0), some (.int l1), some (.int l2)], [], (I, J)) = if (l2 : Int32) < 0 ∨ 5 ≤ Int32.toNatClampNeg l2 then none else if (l2 : Int32) < 0 ∨ 5 ≤ Int32.toNatClampNeg l2 then none else k (2, [some (.ref 0), some (.int l1), some (.int (l2 + 1))], [], ((zm_w (zm_w I 24 (Int32.toNatClampNeg l2) (vp_nar .boolean 0)) 18 (Int32.toNatClampNeg l2) (-1)), J)))) (zm_V zT_X10_runs zW_M))
set_option maxRecDepth 20000 in
theorem zq_X10_runs_M_27 (I : Nat → Nat → Int32) (J : Nat → Nat → Int64) (l1 : Int32) (l2 : Int32) : zv_X10_runs_M_27 I J l1 l2 = zv_X10_runs_M_29 I J l1 0 := (zm_V_eq _ _ _).trans ((fun (k : zm_S → zm_R) => (rfl : zm_step zT_X10_runs zW_M k (27, [some (.ref 0), some (.int l1), some (.int l2)], [], (I, J)) = k (29, [some (.ref 0), some (.int l1), some (.int 0)], [], (I, J)))) (zm_V zT_X10_runs zW_M))
set_option maxRecDepth 20000 in
theorem zq_X10_runs_M_29 (I : Nat → Nat → Int32) (J : Nat → Nat → Int64) (l1 : Int32) (l2 : Int32) : zv_X10_runs_M_29 I J l1 l2 = if l1 < l2 then zv_X10_runs_M_45 I J l1 l2 else zv_X10_runs_M_34 I J l1 l2 := (zm_V_eq _ _ _).trans ((fun (k : zm_S → zm_R) => (rfl : zm_step zT_X10_runs zW_M k (29, [some (.ref 0), some (.int l1), some (.int l2)], [], (I, J)) = if l1 < l2 then k (45, [some (.ref 0), some (.int l1), some (.int l2)], [], (I, J)) else k (34, [some (.ref 0), some (.int l1), some (.int l2)], [], (I, J)))) (zm_V zT_X10_runs zW_M))
set_option maxRecDepth 20000 in
theorem zc_X10_runs_M_34 (I : Nat → Nat → Int32) (J : Nat → Nat → Int64) (l1 : Int32) (l2 : Int32) {I2 : Nat → Nat → Int32} {J2 : Nat → Nat → Int64} (hF : zF_X10_minute zW_M [.ref 0, .int l2] (I, J) = some (none, (I2, J2))) : zv_X10_runs_M_34 I J l1 l2 = zv_X10_runs_M_39 I2 J2 l1 l2 := by
  have e : ∀ k : zm_S → zm_R, zm_step zT_X10_runs zW_M k (34, [some (.ref 0), some (.int l1), some (.int l2)], [], (I, J)) = zm_app (2, some 10, true, [], zF_X10_minute) zW_M [.ref 0, .int l2] (I, J) (fun v N => k (39, [some (.ref 0), some (.int l1), some (.int l2)], v.toList ++ [], N)) := fun k => rfl
  have g := zm_app_s (C := (2, some 10, true, [], zF_X10_minute)) (wl := zW_M) (as := [.ref 0, .int l2]) (M := (I, J)) (k := fun v N => zm_V zT_X10_runs zW_M (39, [some (.ref 0), some (.int l1), some (.int l2)], v.toList ++ [], N)) rfl rfl hF
  exact (zm_V_eq _ _ _).trans ((e _).trans g)
set_option maxRecDepth 20000 in
theorem zq_X10_runs_M_39 (I : Nat → Nat → Int32) (J : Nat → Nat → Int64) (l1 : Int32) (l2 : Int32) : zv_X10_runs_M_39 I J l1 l2 = zv_X10_runs_M_29 I J l1 (l2 + 1) := (zm_V_eq _ _ _).trans ((fun (k : zm_S → zm_R) => (rfl : zm_step zT_X10_runs zW_M k (39, [some (.ref 0), some (.int l1), some (.int l2)], [], (I, J)) = k (29, [some (.ref 0), some (.int l1), some (.int (l2 + 1))], [], (I, J)))) (zm_V zT_X10_runs zW_M))
set_option maxRecDepth 20000 in
theorem zq_X10_runs_M_45 (I : Nat → Nat → Int32) (J : Nat → Nat → Int64) (l1 : Int32) (l2 : Int32) : zv_X10_runs_M_45 I J l1 l2 = some (none, (I, J)) := (zm_V_eq _ _ _).trans ((fun (k : zm_S → zm_R) => (rfl : zm_step zT_X10_runs zW_M k (45, [some (.ref 0), some (.int l1), some (.int l2)], [], (I, J)) = some (none, (I, J)))) (zm_V zT_X10_runs zW_M))
theorem zf_X10_runs_M (I : Nat → Nat → Int32) (J : Nat → Nat → Int64) (l1 : Int32) : zF_X10_runs zW_M [.ref 0, .int l1] (I, J) = zv_X10_runs_M_0 I J l1 := rfl
noncomputable def zv_X10_runs__M_0 (I : Nat → Nat → Int32) (J : Nat → Nat → Int64) : zm_R := zm_V zT_X10_runs_ zW_M (0, [some (.ref 0)], [], (I, J))
noncomputable def zv_X10_runs__M_6 (I : Nat → Nat → Int32) (J : Nat → Nat → Int64) : zm_R := zm_V zT_X10_runs_ zW_M (6, [some (.ref 0)], [], (I, J))
set_option maxRecDepth 20000 in
theorem zc_X10_runs__M_0 (I : Nat → Nat → Int32) (J : Nat → Nat → Int64) {I2 : Nat → Nat → Int32} {J2 : Nat → Nat → Int64} (hF : zF_X10_runs zW_M [.ref 0, .int 60] (I, J) = some (none, (I2, J2))) : zv_X10_runs__M_0 I J = zv_X10_runs__M_6 I2 J2  := by
  have e : ∀ k : zm_S → zm_R, zm_step zT_X10_runs_ zW_M k (0, [some (.ref 0)], [], (I, J)) = zm_app (2, some 10, true, [], zF_X10_runs) zW_M [.ref 0, .int 60] (I, J) (fun v N => k (6, [some (.ref 0)], v.toList ++ [], N)) := fun k => rfl
  have g := zm_app_s (C := (2, some 10, true, [], zF_X10_runs)) (wl := zW_M) (as := [.ref 0, .int 60]) (M := (I, J)) (k := fun v N => zm_V zT_X10_runs_ zW_M (6, [some (.ref 0)], v.toList ++ [], N)) rfl rfl hF
  exact (zm_V_eq _ _ _).trans ((e _).trans g)
set_option maxRecDepth 20000 in
theorem zq_X10_runs__M_6 (I : Nat → Nat → Int32) (J : Nat → Nat → Int64) : zv_X10_runs__M_6 I J = some (none, (I, J)) := (zm_V_eq _ _ _).trans ((fun (k : zm_S → zm_R) => (rfl : zm_step zT_X10_runs_ zW_M k (6, [some (.ref 0)], [], (I, J)) = some (none, (I, J)))) (zm_V zT_X10_runs_ zW_M))
theorem zf_X10_runs__M (I : Nat → Nat → Int32) (J : Nat → Nat → Int64) : zF_X10_runs_ zW_M [.ref 0] (I, J) = zv_X10_runs__M_0 I J := rfl
noncomputable def zv_X10_laysNow_M_0 (I : Nat → Nat → Int32) (J : Nat → Nat → Int64) : zm_R := zm_V zT_X10_laysNow zW_M (0, [some (.ref 0)], [], (I, J))
noncomputable def zv_X10_laysNow_M_4 (I : Nat → Nat → Int32) (J : Nat → Nat → Int64) : zm_R := zm_V zT_X10_laysNow zW_M (4, [some (.ref 0)], [], (I, J))
noncomputable def zv_X10_laysNow_M_8 (I : Nat → Nat → Int32) (J : Nat → Nat → Int64) : zm_R := zm_V zT_X10_laysNow zW_M (8, [some (.ref 0)], [], (I, J))
set_option maxRecDepth 20000 in
theorem zc_X10_laysNow_M_0 (I : Nat → Nat → Int32) (J : Nat → Nat → Int64) {I2 : Nat → Nat → Int32} {J2 : Nat → Nat → Int64} (hF : zF_X10_lays zW_M [.ref 0] (I, J) = some (none, (I2, J2))) : zv_X10_laysNow_M_0 I J = zv_X10_laysNow_M_4 I2 J2  := by
  have e : ∀ k : zm_S → zm_R, zm_step zT_X10_laysNow zW_M k (0, [some (.ref 0)], [], (I, J)) = zm_app (1, some 10, true, [], zF_X10_lays) zW_M [.ref 0] (I, J) (fun v N => k (4, [some (.ref 0)], v.toList ++ [], N)) := fun k => rfl
  have g := zm_app_s (C := (1, some 10, true, [], zF_X10_lays)) (wl := zW_M) (as := [.ref 0]) (M := (I, J)) (k := fun v N => zm_V zT_X10_laysNow zW_M (4, [some (.ref 0)], v.toList ++ [], N)) rfl rfl hF
  exact (zm_V_eq _ _ _).trans ((e _).trans g)
set_option maxRecDepth 20000 in
theorem zc_X10_laysNow_M_4 (I : Nat → Nat → Int32) (J : Nat → Nat → Int64) {I2 : Nat → Nat → Int32} {J2 : Nat → Nat → Int64} (hF : zF_X10_runs_ zW_M [.ref 0] (I, J) = some (none, (I2, J2))) : zv_X10_laysNow_M_4 I J = zv_X10_laysNow_M_8 I2 J2  := by
  have e : ∀ k : zm_S → zm_R, zm_step zT_X10_laysNow zW_M k (4, [some (.ref 0)], [], (I, J)) = zm_app (1, some 10, true, [], zF_X10_runs_) zW_M [.ref 0] (I, J) (fun v N => k (8, [some (.ref 0)], v.toList ++ [], N)) := fun k => rfl
  have g := zm_app_s (C := (1, some 10, true, [], zF_X10_runs_)) (wl := zW_M) (as := [.ref 0]) (M := (I, J)) (k := fun v N => zm_V zT_X10_laysNow zW_M (8, [some (.ref 0)], v.toList ++ [], N)) rfl rfl hF
  exact (zm_V_eq _ _ _).trans ((e _).trans g)
set_option maxRecDepth 20000 in
theorem zq_X10_laysNow_M_8 (I : Nat → Nat → Int32) (J : Nat → Nat → Int64) : zv_X10_laysNow_M_8 I J = some (none, (I, J)) := (zm_V_eq _ _ _).trans ((fun (k : zm_S → zm_R) => (rfl : zm_step zT_X10_laysNow zW_M k (8, [some (.ref 0)], [], (I, J)) = some (none, (I, J)))) (zm_V zT_X10_laysNow zW_M))
theorem zf_X10_laysNow_M (I : Nat → Nat → Int32) (J : Nat → Nat → Int64) : zF_X10_laysNow zW_M [.ref 0] (I, J) = zv_X10_laysNow_M_0 I J := rfl
noncomputable def zv_X10_endOf_M_0 (I : Nat → Nat → Int32) (J : Nat → Nat → Int64) (l1 : Int32) : zm_R := zm_V zT_X10_endOf zW_M (0, [some (.ref 0), some (.int l1)], [], (I, J))
noncomputable def zv_X10_endOf_M_10 (I : Nat → Nat → Int32) (J : Nat → Nat → Int64) (l1 : Int32) : zm_R := zm_V zT_X10_endOf zW_M (10, [some (.ref 0), some (.int l1)], [], (I, J))
noncomputable def zv_X10_endOf_M_12 (I : Nat → Nat → Int32) (J : Nat → Nat → Int64) (l1 : Int32) : zm_R := zm_V zT_X10_endOf zW_M (12, [some (.ref 0), some (.int l1)], [], (I, J))
noncomputable def zv_X10_endOf_M_31 (I : Nat → Nat → Int32) (J : Nat → Nat → Int64) (l1 : Int32) : zm_R := zm_V zT_X10_endOf zW_M (31, [some (.ref 0), some (.int l1)], [], (I, J))
noncomputable def zv_X10_endOf_M_35 (I : Nat → Nat → Int32) (J : Nat → Nat → Int64) (l1 : Int32) : zm_R := zm_V zT_X10_endOf zW_M (35, [some (.ref 0), some (.int l1)], [], (I, J))
noncomputable def zv_X10_endOf_M_54 (I : Nat → Nat → Int32) (J : Nat → Nat → Int64) (l1 : Int32) : zm_R := zm_V zT_X10_endOf zW_M (54, [some (.ref 0), some (.int l1)], [], (I, J))
noncomputable def zv_X10_endOf_M_58 (I : Nat → Nat → Int32) (J : Nat → Nat → Int64) (l1 : Int32) : zm_R := zm_V zT_X10_endOf zW_M (58, [some (.ref 0), some (.int l1)], [], (I, J))
noncomputable def zv_X10_endOf_M_59 (I : Nat → Nat → Int32) (J : Nat → Nat → Int64) (l1 : Int32) (s0 : Int32) : zm_R := zm_V zT_X10_endOf zW_M (59, [some (.ref 0), some (.int l1)], [.int s0], (I, J))
set_option maxRecDepth 20000 in
theorem zq_X10_endOf_M_0 (I : Nat → Nat → Int32) (J : Nat → Nat → Int64) (l1 : Int32) : zv_X10_endOf_M_0 I J l1 = if (l1 : Int32) < 0 ∨ 5 ≤ Int32.toNatClampNeg l1 then none else if (I 18 (Int32.toNatClampNeg l1)) = (-1) then zv_X10_endOf_M_10 I J l1 else zv_X10_endOf_M_12 I J l1 := (zm_V_eq _ _ _).trans ((fun (k : zm_S → zm_R) => (rfl : zm_step zT_X10_endOf zW_M k (0, [some (.ref 0), some (.int l1)], [], (I, J)) = if (l1 : Int32) < 0 ∨ 5 ≤ Int32.toNatClampNeg l1 then none else if (I 18 (Int32.toNatClampNeg l1)) = (-1) then k (10, [some (.ref 0), some (.int l1)], [], (I, J)) else k (12, [some (.ref 0), some (.int l1)], [], (I, J)))) (zm_V zT_X10_endOf zW_M))
set_option maxRecDepth 20000 in
theorem zq_X10_endOf_M_10 (I : Nat → Nat → Int32) (J : Nat → Nat → Int64) (l1 : Int32) : zv_X10_endOf_M_10 I J l1 = some (some (.int 3), (I, J)) := (zm_V_eq _ _ _).trans ((fun (k : zm_S → zm_R) => (rfl : zm_step zT_X10_endOf zW_M k (10, [some (.ref 0), some (.int l1)], [], (I, J)) = some (some (.int 3), (I, J)))) (zm_V zT_X10_endOf zW_M))
set_option maxRecDepth 20000 in
theorem zq_X10_endOf_M_12 (I : Nat → Nat → Int32) (J : Nat → Nat → Int64) (l1 : Int32) : zv_X10_endOf_M_12 I J l1 = if (l1 : Int32) < 0 ∨ 5 ≤ Int32.toNatClampNeg l1 then none else if (((5 * l1) + 3) : Int32) < 0 ∨ 125 ≤ Int32.toNatClampNeg ((5 * l1) + 3) then none else if (I 9 (Int32.toNatClampNeg ((5 * l1) + 3))) ≤ (I 19 (Int32.toNatClampNeg l1)) then zv_X10_endOf_M_35 I J l1 else zv_X10_endOf_M_31 I J l1 := (zm_V_eq _ _ _).trans ((fun (k : zm_S → zm_R) => (rfl : zm_step zT_X10_endOf zW_M k (12, [some (.ref 0), some (.int l1)], [], (I, J)) = if (l1 : Int32) < 0 ∨ 5 ≤ Int32.toNatClampNeg l1 then none else if (((5 * l1) + 3) : Int32) < 0 ∨ 125 ≤ Int32.toNatClampNeg ((5 * l1) + 3) then none else if (I 9 (Int32.toNatClampNeg ((5 * l1) + 3))) ≤ (I 19 (Int32.toNatClampNeg l1)) then k (35, [some (.ref 0), some (.int l1)], [], (I, J)) else k (31, [some (.ref 0), some (.int l1)], [], (I, J)))) (zm_V zT_X10_endOf zW_M))
set_option maxRecDepth 20000 in
theorem zq_X10_endOf_M_31 (I : Nat → Nat → Int32) (J : Nat → Nat → Int64) (l1 : Int32) : zv_X10_endOf_M_31 I J l1 = zv_X10_endOf_M_59 I J l1 1 := (zm_V_eq _ _ _).trans ((fun (k : zm_S → zm_R) => (rfl : zm_step zT_X10_endOf zW_M k (31, [some (.ref 0), some (.int l1)], [], (I, J)) = k (59, [some (.ref 0), some (.int l1)], [.int 1], (I, J)))) (zm_V zT_X10_endOf zW_M))
set_option maxRecDepth 20000 in
theorem zq_X10_endOf_M_35 (I : Nat → Nat → Int32) (J : Nat → Nat → Int64) (l1 : Int32) : zv_X10_endOf_M_35 I J l1 = if (l1 : Int32) < 0 ∨ 5 ≤ Int32.toNatClampNeg l1 then none else if (((5 * l1) + 4) : Int32) < 0 ∨ 125 ≤ Int32.toNatClampNeg ((5 * l1) + 4) then none else if (I 19 (Int32.toNatClampNeg l1)) ≤ (I 9 (Int32.toNatClampNeg ((5 * l1) + 4))) then zv_X10_endOf_M_58 I J l1 else zv_X10_endOf_M_54 I J l1 := (zm_V_eq _ _ _).trans ((fun (k : zm_S → zm_R) => (rfl : zm_step zT_X10_endOf zW_M k (35, [some (.ref 0), some (.int l1)], [], (I, J)) = if (l1 : Int32) < 0 ∨ 5 ≤ Int32.toNatClampNeg l1 then none else if (((5 * l1) + 4) : Int32) < 0 ∨ 125 ≤ Int32.toNatClampNeg ((5 * l1) + 4) then none else if (I 19 (Int32.toNatClampNeg l1)) ≤ (I 9 (Int32.toNatClampNeg ((5 * l1) + 4))) then k (58, [some (.ref 0), some (.int l1)], [], (I, J)) else k (54, [some (.ref 0), some (.int l1)], [], (I, J)))) (zm_V zT_X10_endOf zW_M))
set_option maxRecDepth 20000 in
theorem zq_X10_endOf_M_54 (I : Nat → Nat → Int32) (J : Nat → Nat → Int64) (l1 : Int32) : zv_X10_endOf_M_54 I J l1 = zv_X10_endOf_M_59 I J l1 2 := (zm_V_eq _ _ _).trans ((fun (k : zm_S → zm_R) => (rfl : zm_step zT_X10_endOf zW_M k (54, [some (.ref 0), some (.int l1)], [], (I, J)) = k (59, [some (.ref 0), some (.int l1)], [.int 2], (I, J)))) (zm_V zT_X10_endOf zW_M))
set_option maxRecDepth 20000 in
theorem zq_X10_endOf_M_58 (I : Nat → Nat → Int32) (J : Nat → Nat → Int64) (l1 : Int32) : zv_X10_endOf_M_58 I J l1 = zv_X10_endOf_M_59 I J l1 0 := (zm_V_eq _ _ _).trans ((fun (k : zm_S → zm_R) => (rfl : zm_step zT_X10_endOf zW_M k (58, [some (.ref 0), some (.int l1)], [], (I, J)) = k (59, [some (.ref 0), some (.int l1)], [.int 0], (I, J)))) (zm_V zT_X10_endOf zW_M))
set_option maxRecDepth 20000 in
theorem zq_X10_endOf_M_59 (I : Nat → Nat → Int32) (J : Nat → Nat → Int64) (l1 : Int32) (s0 : Int32) : zv_X10_endOf_M_59 I J l1 s0 = some (some (.int s0), (I, J)) := (zm_V_eq _ _ _).trans ((fun (k : zm_S → zm_R) => (rfl : zm_step zT_X10_endOf zW_M k (59, [some (.ref 0), some (.int l1)], [.int s0], (I, J)) = some (some (.int s0), (I, J)))) (zm_V zT_X10_endOf zW_M))
theorem zf_X10_endOf_M (I : Nat → Nat → Int32) (J : Nat → Nat → Int64) (l1 : Int32) : zF_X10_endOf zW_M [.ref 0, .int l1] (I, J) = zv_X10_endOf_M_0 I J l1 := rfl
end
section
/-! A DAY, WITHOUT MACHINES: who sits where, who went in when, which moves were done -/
/-- (callers, seats, moves), when each comes, his seat, a move's caller, its seat, its minute, the minutes from call to call -/
abbrev zdB : Type := (Nat × Nat × Nat) × (Nat → Nat) × (Nat → Nat) × (Nat → Nat) × (Nat → Nat) × (Nat → Nat) × Nat
def zd_up (p : Nat → Int) (c : Nat) (v : Int) : Nat → Int := fun q => if q = c then v else p q
def zd_free (C : Nat) (p : Nat → Int) (s : Nat) : Bool := (List.range C).all (fun c => decide (p c ≠ (s : Int)))
def zd_sit (C S : Nat) (p : Nat → Int) (c : Nat) : Nat → Nat → (Nat → Int)
  | 0, _ => p
  | k + 1, s => if zd_free C p s = true then zd_up p c s else zd_sit C S p c k (if s + 1 < S then s + 1 else 0)
/-- f at c, c + 1 .., so many times -/
def zd_for {α : Type} (f : Nat → α → α) : Nat → Nat → α → α
  | 0, _, x => x
  | d + 1, c, x => zd_for f d (c + 1) (f c x)
abbrev zdP : Type := (Nat → Int) × (Nat → Bool)
def zd_mv (B : zdB) (n k : Nat) (x : zdP) : zdP := if B.2.2.2.2.2.1 k = n ∧ -1 ≤ x.1 (B.2.2.2.1 k) ∧ zd_free B.1.1 x.1 (B.2.2.2.2.1 k) = true then (zd_up x.1 (B.2.2.2.1 k) (B.2.2.2.2.1 k), fun q => if q = k then true else x.2 q) else x
def zd_sd (B : zdB) (c : Nat) (p : Nat → Int) : Nat → Int := if p c = -1 then zd_sit B.1.1 B.1.2.1 p c B.1.2.1 (B.2.2.1 c) else p
def zd_cm (B : zdB) (n c : Nat) (p : Nat → Int) : Nat → Int := if B.2.1 c = n then zd_sit B.1.1 B.1.2.1 (zd_up p c (-1)) c B.1.2.1 (B.2.2.1 c) else p
def zd_set (B : zdB) (n : Nat) (x : zdP) : zdP := (zd_for (zd_cm B n) B.1.1 0 (zd_for (zd_sd B) B.1.1 0 (zd_for (zd_mv B n) B.1.2.2 0 x).1), (zd_for (zd_mv B n) B.1.2.2 0 x).2)
def zd_ff (B : zdB) (p : Nat → Int) (c : Nat) (x : Int) : Int := if -1 ≤ p c ∧ (x = -1 ∨ B.2.1 c < B.2.1 x.toNat) then (c : Int) else x
def zd_ft (B : zdB) (p : Nat → Int) : Int := zd_for (zd_ff B p) B.1.1 0 (-1)
abbrev zdW : Type := (Nat → Int) × (Nat → Int)
def zd_fin (B : zdB) (ms : Nat → Bool) (n : Nat) (x : zdW) : zdW := if 0 < n ∧ n % B.2.2.2.2.2.2 = 0 ∧ ms (n / B.2.2.2.2.2.2 - 1) = false then (if zd_ft B x.1 = -1 then x else (zd_up x.1 (zd_ft B x.1).toNat (-3), zd_up x.2 (zd_ft B x.1).toNat n)) else x
abbrev zdZ : Type := (Nat → Int) × (Nat → Int) × (Nat → Bool)
def zd_at (B : zdB) (n : Nat) (z : zdZ) : zdP := zd_set B n (z.1, z.2.2)
def zd_nx (B : zdB) (ms : Nat → Bool) (n : Nat) (z : zdZ) : zdZ := ((zd_fin B ms n ((zd_at B n z).1, z.2.1)).1, (zd_fin B ms n ((zd_at B n z).1, z.2.1)).2, (zd_at B n z).2)
/-- before minute n -/
def zd_st (B : zdB) (ms : Nat → Bool) : Nat → zdZ
  | 0 => (fun _ => -2, fun _ => -1, fun _ => false)
  | n + 1 => zd_nx B ms n (zd_st B ms n)
/-- where each is when minute m's call comes -/
def zd_pl (B : zdB) (ms : Nat → Bool) (m : Nat) : Nat → Int := (zd_at B m (zd_st B ms m)).1
theorem zd_free_i {C : Nat} {p : Nat → Int} {s : Nat} : zd_free C p s = true ↔ ∀ c, c < C → p c ≠ (s : Int) := by
  unfold zd_free
  rw [List.all_eq_true]
  constructor
  · intro h c hc
    exact of_decide_eq_true (h c (List.mem_range.mpr hc))
  · intro h c hc
    exact decide_eq_true (h c (List.mem_range.mp hc))
theorem zd_up_i {p : Nat → Int} {c : Nat} {v : Int} : zd_up p c v c = v := if_pos rfl
theorem zd_up_o {p : Nat → Int} {c q : Nat} {v : Int} (h : q ≠ c) : zd_up p c v q = p q := if_neg h
theorem zd_up_id {p : Nat → Int} {c : Nat} {v : Int} (h : p c = v) : zd_up p c v = p := by
  funext q
  unfold zd_up
  split
  · next e => rw [e, h]
  · rfl
theorem zd_for_id {α : Type} {f : Nat → α → α} : ∀ (d c : Nat) (x : α), (∀ q, c ≤ q → q < c + d → f q x = x) → zd_for f d c x = x
  | 0, _, _, _ => rfl
  | d + 1, c, x, h => by
    unfold zd_for
    rw [h c (Nat.le_refl c) (by omega)]
    exact zd_for_id d (c + 1) x (fun q h1 h2 => h q (by omega) (by omega))
theorem zd_for_ind {α : Type} {f : Nat → α → α} {P : Nat → α → Prop} : ∀ (d c : Nat) (x : α), P c x → (∀ q y, c ≤ q → q < c + d → P q y → P (q + 1) (f q y)) → P (c + d) (zd_for f d c x)
  | 0, _, _, h, _ => h
  | d + 1, c, x, h, hs => by
    unfold zd_for
    have e : c + (d + 1) = c + 1 + d := by omega
    rw [e]
    exact zd_for_ind d (c + 1) (f c x) (hs c x (Nat.le_refl c) (by omega) h) (fun q y h1 h2 h3 => hs q y (by omega) (by omega) h3)
/-- bounds of where one is; whoever is not one of the callers stays away -/
def zdI (B : zdB) (n : Nat) (z : zdZ) : Prop := (∀ c, B.1.1 ≤ c → z.1 c = -2) ∧ (∀ c, z.1 c ≠ -2 → B.2.1 c < n) ∧ (∀ c, -3 ≤ z.1 c ∧ z.1 c ≤ 5) ∧ ∀ k, z.2.2 k = true → B.2.2.2.2.2.1 k < n
/-- what the bench's numbers keep to -/
def zdV (B : zdB) : Prop := B.1.1 ≤ 5 ∧ B.1.2.1 ≤ 6 ∧ (∀ c, B.2.2.1 c ≤ 5) ∧ (∀ k, B.2.2.2.1 k ≤ 4) ∧ (∀ k, B.2.2.2.2.1 k ≤ 5)
section ZDA
variable {B : zdB} {ms : Nat → Bool}
/-- a change of one's place, within the bounds -/
def zdQ (B : zdB) (n : Nat) (p : Nat → Int) : Prop := (∀ c, B.1.1 ≤ c → p c = -2) ∧ (∀ c, p c ≠ -2 → B.2.1 c < n) ∧ ∀ c, -3 ≤ p c ∧ p c ≤ 5
theorem zdQ_up {n c : Nat} {p : Nat → Int} {v : Int} (h : zdQ B n p) (hc : c < B.1.1) (hn : B.2.1 c < n) (hv : -3 ≤ v ∧ v ≤ 5) : zdQ B n (zd_up p c v) := by
  refine ⟨fun q hq => ?_, fun q hq => ?_, fun q => ?_⟩
  · rw [zd_up_o (by omega)]
    exact h.1 q hq
  · by_cases e : q = c
    · rw [e]
      exact hn
    · rw [zd_up_o e] at hq
      exact h.2.1 q hq
  · by_cases e : q = c
    · rw [e, zd_up_i]
      exact hv
    · rw [zd_up_o e]
      exact h.2.2 q
theorem zdQ_sit (hB : zdV B) {n c : Nat} (hc : c < B.1.1) (hn : B.2.1 c < n) : ∀ (k s : Nat) (p : Nat → Int), s ≤ 5 → zdQ B n p → zdQ B n (zd_sit B.1.1 B.1.2.1 p c k s)
  | 0, _, _, _, h => h
  | k + 1, s, p, hs, h => by
    unfold zd_sit
    split
    · exact zdQ_up h hc hn (by omega)
    · refine zdQ_sit hB hc hn k _ p ?_ h
      have := hB.2.1
      split <;> omega
theorem zdQ_mv (hB : zdV B) {n k : Nat} {x : zdP} (h : zdQ B n x.1) : zdQ B n (zd_mv B n k x).1 := by
  unfold zd_mv
  split
  · next e =>
    have h1 : x.1 (B.2.2.2.1 k) ≠ -2 := by omega
    have h5 := hB.2.2.2.2 k
    refine zdQ_up h ?_ (h.2.1 _ h1) (by omega)
    by_cases q : B.1.1 ≤ B.2.2.2.1 k
    · exact absurd (h.1 _ q) h1
    · omega
  · exact h
theorem zdQ_le {n m : Nat} {p : Nat → Int} (h : zdQ B n p) (hm : n ≤ m) : zdQ B m p := ⟨h.1, fun c hc => Nat.lt_of_lt_of_le (h.2.1 c hc) hm, h.2.2⟩
theorem zdQ_sd (hB : zdV B) {n c : Nat} {p : Nat → Int} (hc : c < B.1.1) (h : zdQ B n p) : zdQ B n (zd_sd B c p) := by
  unfold zd_sd
  split
  · next e => exact zdQ_sit hB hc (h.2.1 c (by omega)) _ _ p (hB.2.2.1 c) h
  · exact h
theorem zdQ_cm (hB : zdV B) {n c : Nat} {p : Nat → Int} (hc : c < B.1.1) (h : zdQ B (n + 1) p) : zdQ B (n + 1) (zd_cm B n c p) := by
  unfold zd_cm
  split
  · next e => exact zdQ_sit hB hc (by omega) _ _ _ (hB.2.2.1 c) (zdQ_up h hc (by omega) (by omega))
  · exact h
theorem zdQ_set (hB : zdV B) {n : Nat} {x : zdP} (h : zdQ B n x.1) : zdQ B (n + 1) (zd_set B n x).1 := by
  have h1 : zdQ B n (zd_for (zd_mv B n) B.1.2.2 0 x).1 := zd_for_ind (P := fun _ y => zdQ B n y.1) B.1.2.2 0 x h (fun q y _ _ hy => zdQ_mv hB hy)
  have h2 : zdQ B n (zd_for (zd_sd B) B.1.1 0 (zd_for (zd_mv B n) B.1.2.2 0 x).1) := zd_for_ind (P := fun _ y => zdQ B n y) B.1.1 0 _ h1 (fun q y _ hq hy => zdQ_sd hB (by omega) hy)
  exact zd_for_ind (P := fun _ y => zdQ B (n + 1) y) B.1.1 0 _ (zdQ_le h2 (by omega)) (fun q y _ hq hy => zdQ_cm hB (by omega) hy)
theorem zd_ft_b (B : zdB) (p : Nat → Int) : zd_ft B p = -1 ∨ (0 ≤ zd_ft B p ∧ zd_ft B p < B.1.1 ∧ -1 ≤ p (zd_ft B p).toNat) := by
  have h := zd_for_ind (f := zd_ff B p) (P := fun c x => x = -1 ∨ (0 ≤ x ∧ x < (c : Int) ∧ -1 ≤ p x.toNat)) B.1.1 0 (-1) (Or.inl rfl) (fun q y _ _ hy => by
    unfold zd_ff
    split
    · next e => exact Or.inr ⟨by omega, by omega, by rw [Int.toNat_natCast]; exact e.1⟩
    · rcases hy with hy | hy
      · exact Or.inl hy
      · exact Or.inr ⟨hy.1, by omega, hy.2.2⟩)
  rw [Nat.zero_add] at h
  exact h
theorem zdQ_fin {n m : Nat} {x : zdW} (h : zdQ B m x.1) : zdQ B m (zd_fin B ms n x).1 := by
  unfold zd_fin
  split
  · split
    · exact h
    · next e =>
      rcases zd_ft_b B x.1 with q | q
      · exact absurd q e
      · exact zdQ_up h (by omega) (h.2.1 _ (by omega)) (by omega)
  · exact h
theorem zd_mvs_d {n : Nat} {x : zdP} (h : ∀ k, x.2 k = true → B.2.2.2.2.2.1 k < n) : ∀ k, (zd_for (zd_mv B n) B.1.2.2 0 x).2 k = true → B.2.2.2.2.2.1 k < n + 1 := by
  refine zd_for_ind (P := fun _ (y : zdP) => ∀ k, y.2 k = true → B.2.2.2.2.2.1 k < n + 1) B.1.2.2 0 x (fun k hk => Nat.lt_succ_of_lt (h k hk)) (fun q y _ _ hy k hk => ?_)
  unfold zd_mv at hk
  split at hk
  · next e =>
    by_cases c : k = q
    · rw [c]
      omega
    · have hk : (if k = q then true else y.2 k) = true := hk
      rw [if_neg c] at hk
      exact hy k hk
  · exact hy k hk
theorem zdI_st (hB : zdV B) : ∀ n, zdI B n (zd_st B ms n)
  | 0 => ⟨fun _ _ => rfl, fun c h => absurd rfl h, fun _ => ⟨by show (-3 : Int) ≤ -2; decide, by show (-2 : Int) ≤ 5; decide⟩, fun k h => by cases h⟩
  | n + 1 => by
    obtain ⟨h1, h2, h3, h4⟩ := zdI_st hB n
    have q := zdQ_fin (ms := ms) (n := n) (m := n + 1) (x := ((zd_at B n (zd_st B ms n)).1, (zd_st B ms n).2.1)) (zdQ_set hB (n := n) (x := ((zd_st B ms n).1, (zd_st B ms n).2.2)) ⟨h1, h2, h3⟩)
    exact ⟨q.1, q.2.1, q.2.2, zd_mvs_d (x := ((zd_st B ms n).1, (zd_st B ms n).2.2)) h4⟩
theorem zdQ_pl (hB : zdV B) (m : Nat) : zdQ B (m + 1) (zd_pl B ms m) := by
  obtain ⟨h1, h2, h3, -⟩ := zdI_st (ms := ms) hB m
  exact zdQ_set hB (n := m) (x := ((zd_st B ms m).1, (zd_st B ms m).2.2)) ⟨h1, h2, h3⟩
/-- where all have gone, nothing more happens -/
theorem zd_mv_dead {n k : Nat} {x : zdP} (h : ∀ c, x.1 c < -1) : zd_mv B n k x = x := by
  unfold zd_mv
  have := h (B.2.2.2.1 k)
  rw [if_neg (by omega)]
theorem zd_set_dead {n : Nat} {x : zdP} (h : ∀ c, x.1 c < -1) (hn : ∀ c, c < B.1.1 → B.2.1 c ≠ n) : zd_set B n x = x := by
  have e1 : zd_for (zd_mv B n) B.1.2.2 0 x = x := zd_for_id _ _ _ (fun q _ _ => zd_mv_dead h)
  have e2 : zd_for (zd_sd B) B.1.1 0 x.1 = x.1 := zd_for_id _ _ _ (fun q _ _ => by
    have := h q
    unfold zd_sd
    rw [if_neg (by omega)])
  have e3 : zd_for (zd_cm B n) B.1.1 0 x.1 = x.1 := zd_for_id _ _ _ (fun q _ hq => by
    unfold zd_cm
    rw [if_neg (hn q (by omega))])
  unfold zd_set
  rw [e1, e2, e3]
theorem zd_ft_dead {p : Nat → Int} (h : ∀ c, p c < -1) : zd_ft B p = -1 := by
  unfold zd_ft
  refine zd_for_id _ _ _ (fun q _ _ => ?_)
  have := h q
  unfold zd_ff
  rw [if_neg (by omega)]
theorem zd_nx_dead {n : Nat} {z : zdZ} (h : ∀ c, z.1 c < -1) (hn : ∀ c, c < B.1.1 → B.2.1 c ≠ n) : zd_nx B ms n z = z := by
  have e : zd_at B n z = (z.1, z.2.2) := zd_set_dead (x := (z.1, z.2.2)) h hn
  have e2 : zd_fin B ms n (z.1, z.2.1) = (z.1, z.2.1) := by
    unfold zd_fin
    rw [zd_ft_dead h, if_pos rfl]
    split <;> rfl
  unfold zd_nx
  rw [e]
  show ((zd_fin B ms n (z.1, z.2.1)).1, (zd_fin B ms n (z.1, z.2.1)).2, z.2.2) = z
  rw [e2]
theorem zd_st_dead (hB : zdV B) {n : Nat} (h : ∀ c, c < B.1.1 → (zd_st B ms n).1 c = -3) : ∀ m, zd_st B ms (n + m) = zd_st B ms n ∧ zd_pl B ms (n + m) = (zd_st B ms n).1 := by
  have hI := zdI_st (ms := ms) hB n
  have hd : ∀ c, (zd_st B ms n).1 c < -1 := fun c => by
    by_cases q : c < B.1.1
    · rw [h c q]
      decide
    · rw [hI.1 c (by omega)]
      decide
  have hn : ∀ m, ∀ c, c < B.1.1 → B.2.1 c ≠ n + m := fun m c hc => by
    have := hI.2.1 c (by rw [h c hc]; decide)
    omega
  have st : ∀ m, zd_st B ms (n + m) = zd_st B ms n := by
    intro m
    induction m with
    | zero => rfl
    | succ m ih =>
      show zd_nx B ms (n + m) (zd_st B ms (n + m)) = _
      rw [ih]
      exact zd_nx_dead hd (hn m)
  intro m
  refine ⟨st m, ?_⟩
  unfold zd_pl
  rw [st m]
  show (zd_set B (n + m) ((zd_st B ms n).1, (zd_st B ms n).2.2)).1 = _
  rw [zd_set_dead (x := ((zd_st B ms n).1, (zd_st B ms n).2.2)) hd (hn m)]
/-- how many of the first so many have gone -/
def zd_ct (p : Nat → Int) : Nat → Nat
  | 0 => 0
  | C + 1 => zd_ct p C + (if p C = -3 then 1 else 0)
theorem zd_ct_le (p : Nat → Int) : ∀ C, zd_ct p C ≤ C
  | 0 => Nat.le_refl 0
  | C + 1 => by
    have := zd_ct_le p C
    unfold zd_ct
    split <;> omega
theorem zd_ct_all {p : Nat → Int} : ∀ {C : Nat}, zd_ct p C = C → ∀ c, c < C → p c = -3
  | 0, _, c, h => absurd h (Nat.not_lt_zero c)
  | C + 1, e, c, h => by
    have l := zd_ct_le p C
    unfold zd_ct at e
    split at e
    · next q =>
      by_cases k : c = C
      · rw [k]
        exact q
      · exact zd_ct_all (C := C) (by omega) c (by omega)
    · omega
theorem zd_ct_eq {p q : Nat → Int} : ∀ {C : Nat}, (∀ c, c < C → (p c = -3 ↔ q c = -3)) → zd_ct p C = zd_ct q C
  | 0, _ => rfl
  | C + 1, h => by
    unfold zd_ct
    rw [zd_ct_eq (C := C) (fun c hc => h c (by omega))]
    by_cases e : p C = -3
    · rw [if_pos e, if_pos ((h C (by omega)).mp e)]
    · rw [if_neg e, if_neg (fun z => e ((h C (by omega)).mpr z))]
theorem zd_ct_up {p : Nat → Int} {k : Nat} (hk : p k ≠ -3) : ∀ {C : Nat}, k < C → zd_ct (zd_up p k (-3)) C = zd_ct p C + 1
  | 0, h => absurd h (Nat.not_lt_zero k)
  | C + 1, h => by
    unfold zd_ct
    by_cases e : k = C
    · subst e
      rw [zd_up_i, if_pos rfl, if_neg hk, zd_ct_eq (p := zd_up p k (-3)) (q := p) (fun c hc => by rw [zd_up_o (by omega)])]
    · rw [zd_ct_up hk (C := C) (by omega), zd_up_o (fun z => e z.symm)]
      omega
end ZDA
end
section
/-! A DAY OF THE CLASS: who moves, sits down, comes -/
def zd_bit (x : Int64) (k : Nat) : Bool := x.toBitVec.getLsbD k
theorem zd_one : ∀ k, k < 64 → ∀ q, q < 64 → ((1 : Int64) <<< (Int32.toInt64 (Int32.ofNat k) &&& 63)).toBitVec.getLsbD q = decide (q = k) := by decide +kernel
theorem zd_bit_or (x : Int64) {k q : Nat} (hk : k < 64) (hq : q < 64) : zd_bit (x ||| ((1 : Int64) <<< (Int32.toInt64 (Int32.ofNat k) &&& 63))) q = if q = k then true else zd_bit x q := by
  unfold zd_bit
  rw [Int64.toBitVec_or, BitVec.getLsbD_or, zd_one k hk q hq]
  by_cases c : q = k
  · rw [if_pos c, decide_eq_true c, Bool.or_true]
  · rw [if_neg c, decide_eq_false c, Bool.or_false]
theorem zd_sh : ∀ m, m < 64 → (((Int32.toInt64 (Int32.ofNat m)).toUInt64 &&& Int64.toUInt64 63).toBitVec % (64 : BitVec 64)).toNat = m := by decide +kernel
theorem zd_and1 (w : BitVec 64) : (w &&& 1#64 = 0#64) ↔ w.getLsbD 0 = false := by
  have e : (w &&& 1#64).toNat = w.toNat % 2 := by
    rw [BitVec.toNat_and, show (1#64 : BitVec 64).toNat = 2 ^ 1 - 1 by decide, Nat.and_two_pow_sub_one_eq_mod]
  have g : w.getLsbD 0 = decide (w.toNat % 2 = 1) := by
    unfold BitVec.getLsbD
    rw [Nat.testBit_zero]
  rw [g, decide_eq_false_iff_not]
  constructor
  · intro h
    rw [h] at e
    have e : 0 = w.toNat % 2 := e
    omega
  · intro h
    apply BitVec.eq_of_toNat_eq
    rw [e]
    show w.toNat % 2 = 0
    omega
theorem zd_test (x : Int64) {m : Nat} (hm : m < 64) : (lg_cmp (((Int64.toUInt64 x >>> ((Int32.toInt64 (Int32.ofNat m)).toUInt64 &&& Int64.toUInt64 63)).toInt64) &&& 1) 0 = 0) ↔ zd_bit x m = false := by
  rw [lg_cmp_eq, ← Int64.toBitVec_inj, Int64.toBitVec_and, UInt64.toBitVec_toInt64, UInt64.toBitVec_shiftRight, BitVec.ushiftRight_eq', zd_sh m hm, Int64.toBitVec_toUInt64]
  have := zd_and1 (x.toBitVec >>> m)
  rw [BitVec.getLsbD_ushiftRight, Nat.add_zero] at this
  exact this
/-- the class's bench, cells 8 on -/
def zdXb (B : zdB) (I : Nat → Nat → Int32) : Prop := (I 8 6 = Int32.ofNat B.1.1 ∧ I 8 5 = Int32.ofNat B.1.2.1 ∧ I 8 7 = Int32.ofNat B.1.2.2 ∧ I 8 3 = Int32.ofNat B.2.2.2.2.2.2) ∧ (∀ c, c < 5 → I 11 c = Int32.ofNat (B.2.1 c)) ∧ (∀ c, c < 5 → I 12 c = Int32.ofNat (B.2.2.1 c)) ∧ ∀ k, k < 41 → I 15 k = Int32.ofNat (B.2.2.2.1 k) ∧ I 16 k = Int32.ofNat (B.2.2.2.2.1 k) ∧ I 17 k = Int32.ofNat (B.2.2.2.2.2.1 k)
def zdXv (B : zdB) : Prop := zdV B ∧ B.1.2.2 ≤ 41 ∧ (1 ≤ B.2.2.2.2.2.2 ∧ B.2.2.2.2.2.2 ≤ 30) ∧ (∀ c, B.2.1 c ≤ 61) ∧ ∀ k, B.2.2.2.2.2.1 k ≤ 60
def zdX (B : zdB) (I : Nat → Nat → Int32) (p : Nat → Int) : Prop := (∀ c, c < 5 → (I 1 c).toInt = p c) ∧ (∀ c, B.1.1 ≤ c → p c = -2) ∧ (∀ c, -3 ≤ p c ∧ p c ≤ 5) ∧ (∀ c, c < B.1.1 → 0 ≤ p c → (I 7 (p c).toNat).toInt = c) ∧ ∀ s, s < 6 → (I 7 s).toInt = -1 ∨ ∃ c, c < B.1.1 ∧ (I 7 s).toInt = (c : Int) ∧ p c = (s : Int)
/-- places and seats alone may differ -/
def zdXf (I N : Nat → Nat → Int32) : Prop := ∀ a b, a ≠ 1 → a ≠ 7 → N a b = I a b
section ZDB
variable {B : zdB} {I N : Nat → Nat → Int32} {J : Nat → Nat → Int64} {p : Nat → Int}
theorem zdXf_r : zdXf I I := fun _ _ _ _ => rfl
theorem zdXf_t {K : Nat → Nat → Int32} (h : zdXf I K) (h2 : zdXf K N) : zdXf I N := fun a b h1 h7 => (h2 a b h1 h7).trans (h a b h1 h7)
theorem zdXb_f (h : zdXb B I) (hf : ∀ a b, 8 ≤ a → N a b = I a b) : zdXb B N := by
  obtain ⟨⟨a, b, c, d⟩, e, f, g⟩ := h
  refine ⟨⟨?_, ?_, ?_, ?_⟩, fun q hq => ?_, fun q hq => ?_, fun q hq => ?_⟩
  · rw [hf 8 6 (by decide)]; exact a
  · rw [hf 8 5 (by decide)]; exact b
  · rw [hf 8 7 (by decide)]; exact c
  · rw [hf 8 3 (by decide)]; exact d
  · rw [hf 11 q (by decide)]; exact e q hq
  · rw [hf 12 q (by decide)]; exact f q hq
  · rw [hf 15 q (by decide), hf 16 q (by decide), hf 17 q (by decide)]; exact g q hq
theorem zdXb_x (h : zdXb B I) (hf : zdXf I N) : zdXb B N := zdXb_f h (fun a b ha => hf a b (by omega) (by omega))
theorem zdx_put (h : zdX B I p) (hC : B.1.1 ≤ 5) {c : Nat} (hc : c < B.1.1) {v : Int} (hv : -3 ≤ v ∧ v ≤ 5) (hf : v < 0 ∨ zd_free B.1.1 p v.toNat = true) (h1 : ∀ q, q < 5 → (N 1 q).toInt = if q = c then v else p q) (h7 : ∀ s : Nat, s < 6 → (N 7 s).toInt = if (s : Int) = v then (c : Int) else if (s : Int) = p c then -1 else (I 7 s).toInt) : zdX B N (zd_up p c v) := by
  obtain ⟨a, b, r, s1, s2⟩ := h
  refine ⟨fun q hq => h1 q hq, fun q hq => ?_, fun q => ?_, fun q hq h0 => ?_, fun s hs => ?_⟩
  · rw [zd_up_o (by omega)]
    exact b q hq
  · by_cases e : q = c
    · rw [e, zd_up_i]
      exact hv
    · rw [zd_up_o e]
      exact r q
  · by_cases e : q = c
    · subst e
      rw [zd_up_i] at h0 ⊢
      rw [h7 v.toNat (by omega), if_pos (by omega)]
    · rw [zd_up_o e] at h0 ⊢
      have hr := r q
      have i := s1 q hq h0
      have n1 : ¬ (((p q).toNat : Nat) : Int) = v := by
        intro z
        rcases hf with hf | hf
        · omega
        · have := zd_free_i.mp hf q hq
          omega
      have n2 : ¬ (((p q).toNat : Nat) : Int) = p c := by
        intro z
        have z2 : p q = p c := by omega
        rw [z2] at i
        have := s1 c hc (by omega)
        omega
      rw [h7 (p q).toNat (by omega), if_neg n1, if_neg n2]
      exact i
  · by_cases e1 : (s : Int) = v
    · exact Or.inr ⟨c, hc, by rw [h7 s hs, if_pos e1], by rw [zd_up_i]; exact e1.symm⟩
    · by_cases e2 : (s : Int) = p c
      · exact Or.inl (by rw [h7 s hs, if_neg e1, if_pos e2])
      · rcases s2 s hs with q | ⟨q, hq, hi, hp⟩
        · exact Or.inl (by rw [h7 s hs, if_neg e1, if_neg e2]; exact q)
        · refine Or.inr ⟨q, hq, by rw [h7 s hs, if_neg e1, if_neg e2]; exact hi, ?_⟩
          rw [zd_up_o (fun z => e2 (by rw [← hp, z]))]
          exact hp
theorem zdx_free (h : zdX B I p) {s : Nat} (hs : s < 6) : (I 7 s = -1) ↔ zd_free B.1.1 p s = true := by
  obtain ⟨a, b, r, s1, s2⟩ := h
  rw [zd_free_i]
  constructor
  · intro e c hc z
    have i := s1 c hc (by omega)
    rw [z, Int.toNat_natCast, e, zh_m1] at i
    omega
  · intro e
    rcases s2 s hs with q | ⟨q, hq, hi, hp⟩
    · exact Int32.toInt_inj.mp (q.trans zh_m1.symm)
    · exact absurd hp (e q hq)
theorem zdx_leave (h : zdX B I p) {c : Nat} (hc : c < 5) : zF_X2_leaveSeat zW_DB [.ref 0, .int (Int32.ofNat c)] (I, J) = some (none, ((if p c < 0 then I else zm_w I 7 (p c).toNat (-1)), J)) := by
  have e1 : (I 1 c).toInt = p c := h.1 c hc
  have r := h.2.2.1 c
  rw [zf_X2_leaveSeat_DB, zq_X2_leaveSeat_DB_0, if_neg (zp_in (by omega) hc), zp_cl (by omega)]
  by_cases n : p c < 0
  · rw [if_pos n, if_pos (by rw [ze_lt, e1, ze_i0]; exact n), zq_X2_leaveSeat_DB_21]
  · have ec : Int32.toNatClampNeg (I 1 c) = (p c).toNat := zh_cl (n := (p c).toNat) (by rw [e1]; omega)
    rw [if_neg n, if_neg (by rw [ze_lt, e1, ze_i0]; exact n), zq_X2_leaveSeat_DB_9, if_neg (zp_in (by omega) hc), zp_cl (by omega), if_neg (zh_in (n := 6) (by omega) (by omega)), ec, zq_X2_leaveSeat_DB_21]
theorem zdx_N0 (h : zdX B I p) (c : Nat) : (∀ a b, a ≠ 7 → (if p c < 0 then I else zm_w I 7 (p c).toNat (-1)) a b = I a b) ∧ ∀ s : Nat, ((if p c < 0 then I else zm_w I 7 (p c).toNat (-1)) 7 s).toInt = if (s : Int) = p c then -1 else (I 7 s).toInt := by
  by_cases n : p c < 0
  · rw [if_pos n]
    exact ⟨fun _ _ _ => rfl, fun s => by rw [if_neg (by omega)]⟩
  · rw [if_neg n]
    refine ⟨fun a b ha => ze_wo ha, fun s => ?_⟩
    by_cases e : (s : Int) = p c
    · have e2 : s = (p c).toNat := by omega
      rw [if_pos e, e2, ze_wi, zh_m1]
    · rw [if_neg e, ze_wj (by omega)]
/-- one takes a seat that is free -/
theorem zdx_take (hv : zdXv B) (h : zdX B I p) {c s : Nat} (hc : c < B.1.1) (hs : s < 6) (hf : zd_free B.1.1 p s = true) : zdX B (zm_w (zm_w (if p c < 0 then I else zm_w I 7 (p c).toNat (-1)) 7 s (Int32.ofNat c)) 1 c (Int32.ofNat s)) (zd_up p c s) := by
  obtain ⟨n1, n7⟩ := zdx_N0 h c
  have hC := hv.1.1
  refine zdx_put h hC hc (by omega) (Or.inr (by rw [Int.toNat_natCast]; exact hf)) (fun q hq => ?_) (fun q hq => ?_)
  · by_cases e : q = c
    · rw [if_pos e, e, ze_wi, zp_o (by omega)]
    · rw [if_neg e, ze_wj e, ze_wo (by decide), n1 1 q (by decide)]
      exact h.1 q hq
  · rw [ze_wo (by decide)]
    by_cases e : q = s
    · rw [if_pos (show (q : Int) = (s : Int) by omega), e, ze_wi, zp_o (by omega)]
    · rw [if_neg (show ¬ (q : Int) = (s : Int) by omega), ze_wj e]
      exact n7 q
theorem zdx_takef (h : zdX B I p) (c s : Nat) : zdXf I (zm_w (zm_w (if p c < 0 then I else zm_w I 7 (p c).toNat (-1)) 7 s (Int32.ofNat c)) 1 c (Int32.ofNat s)) := fun a b h1 h7 => by rw [ze_wo h1, ze_wo h7, (zdx_N0 h c).1 a b h7]
theorem zdx_mvs (hv : zdXv B) {n : Nat} (hn : n ≤ 60) : ∀ (d k : Nat) (I : Nat → Nat → Int32) (J : Nat → Nat → Int64) (x : zdP) (l4 l5 : Option Value), k + d = B.1.2.2 → zdXb B I → zdX B I x.1 → (∀ q, q < 41 → zd_bit (J 0 9) q = x.2 q) → ∃ N K, zv_X2_moveAll_DB_2 I J (Int32.ofNat n) (Int32.ofNat k) l4 l5 = some (none, (N, K)) ∧ zdX B N (zd_for (zd_mv B n) d k x).1 ∧ (∀ q, q < 41 → zd_bit (K 0 9) q = (zd_for (zd_mv B n) d k x).2 q) ∧ zdXf I N := by
  obtain ⟨⟨hC, hS, hst, hac, hsa⟩, hA, hE, hcm, ham⟩ := id hv
  intro d
  induction d with
  | zero =>
    intro k I J x l4 l5 h hb hx hd
    refine ⟨I, J, ?_, hx, hd, zdXf_r⟩
    rw [zq_X2_moveAll_DB_2, hb.1.2.2.1, if_pos ((zp_le (by omega) (by omega)).mpr (by omega)), zq_X2_moveAll_DB_100]
  | succ d ih =>
    intro k I J x l4 l5 h hb hx hd
    obtain ⟨b15, b16, b17⟩ := hb.2.2.2 k (by omega)
    have a4 := hac k
    have a5 := hsa k
    have a6 := ham k
    have go : ∀ (N : Nat → Nat → Int32) (K : Nat → Nat → Int64) (y : zdP) (a b : Int32), zd_mv B n k x = y → zdXf I N → zdX B N y.1 → (∀ q, q < 41 → zd_bit (K 0 9) q = y.2 q) → ∃ N' K', zv_X2_moveAll_DB_94 N K (Int32.ofNat n) (Int32.ofNat k) a b = some (none, (N', K')) ∧ zdX B N' (zd_for (zd_mv B n) (d + 1) k x).1 ∧ (∀ q, q < 41 → zd_bit (K' 0 9) q = (zd_for (zd_mv B n) (d + 1) k x).2 q) ∧ zdXf I N' := by
      intro N K y a b e h1 h2 h3
      subst e
      obtain ⟨N', K', r1, r2, r3, r4⟩ := ih (k + 1) N K (zd_mv B n k x) (some (.int a)) (some (.int b)) (by omega) (zdXb_x hb h1) h2 h3
      refine ⟨N', K', ?_, r2, r3, zdXf_t h1 r4⟩
      rw [zq_X2_moveAll_DB_94, zp_o1 (by omega)]
      exact r1
    have stay : ¬ (B.2.2.2.2.2.1 k = n ∧ -1 ≤ x.1 (B.2.2.2.1 k) ∧ zd_free B.1.1 x.1 (B.2.2.2.2.1 k) = true) → ∀ (a b : Int32), ∃ N' K', zv_X2_moveAll_DB_94 I J (Int32.ofNat n) (Int32.ofNat k) a b = some (none, (N', K')) ∧ zdX B N' (zd_for (zd_mv B n) (d + 1) k x).1 ∧ (∀ q, q < 41 → zd_bit (K' 0 9) q = (zd_for (zd_mv B n) (d + 1) k x).2 q) ∧ zdXf I N' := fun hc a b => go I J x a b (by unfold zd_mv; rw [if_neg hc]) zdXf_r hx hd
    rw [zq_X2_moveAll_DB_2, hb.1.2.2.1, if_neg (fun z => by have := (zp_le (by omega) (by omega)).mp z; omega), zq_X2_moveAll_DB_10, if_neg (zp_in (by omega) (by omega)), if_neg (zp_in (by omega) (by omega)), if_neg (zp_in (by omega) (by omega)), zp_cl (by omega), b15, b16, b17]
    by_cases c1 : B.2.2.2.2.2.1 k = n
    · rw [if_pos (by rw [c1]), zq_X2_moveAll_DB_36, if_neg (zp_in (by omega) (by omega)), zp_cl (by omega)]
      have e1 : (I 1 (B.2.2.2.1 k)).toInt = x.1 (B.2.2.2.1 k) := hx.1 _ (by omega)
      by_cases c2 : x.1 (B.2.2.2.1 k) < -1
      · rw [if_pos (by rw [ze_lt, e1, zh_m1]; exact c2)]
        exact stay (by omega) _ _
      · rw [if_neg (by rw [ze_lt, e1, zh_m1]; exact c2), zq_X2_moveAll_DB_47, if_neg (zp_in (by omega) (by omega)), zp_cl (by omega)]
        by_cases c3 : zd_free B.1.1 x.1 (B.2.2.2.2.1 k) = true
        · have hlt : B.2.2.2.1 k < B.1.1 := by
            by_cases q : B.2.2.2.1 k < B.1.1
            · exact q
            · have := hx.2.1 (B.2.2.2.1 k) (by omega)
              omega
          rw [if_pos ((zdx_free hx (by omega)).mpr c3), zc_X2_moveAll_DB_58 _ _ _ _ _ _ (zdx_leave hx (by omega)), zq_X2_moveAll_DB_64, if_neg (zp_in (by omega) (by omega)), if_neg (zp_in (by omega) (by omega)), zp_cl (by omega), zp_cl (by omega)]
          refine go _ _ (zd_up x.1 (B.2.2.2.1 k) (B.2.2.2.2.1 k), fun q => if q = k then true else x.2 q) _ _ (by unfold zd_mv; rw [if_pos ⟨c1, by omega, c3⟩]) (zdx_takef hx _ _) (zdx_take hv hx hlt (by omega) c3) (fun q hq => ?_)
          show zd_bit (zm_wl J 0 9 _ 0 9) q = if q = k then true else x.2 q
          have ew : zm_wl J 0 9 (J 0 9 ||| (1 <<< (Int32.toInt64 (Int32.ofNat k) &&& 63))) 0 9 = (J 0 9 ||| (1 <<< (Int32.toInt64 (Int32.ofNat k) &&& 63))) := if_pos ⟨rfl, rfl⟩
          rw [ew, zd_bit_or _ (by omega) (by omega), hd q hq]
        · rw [if_neg (fun z => c3 ((zdx_free hx (by omega)).mp z))]
          exact stay (fun z => c3 z.2.2) _ _
    · rw [if_neg (zp_ne (by omega) (by omega) c1)]
      exact stay (fun z => c1 z.1) _ _
theorem zdx_sit17 (hv : zdXv B) {c : Nat} (hc : c < B.1.1) : ∀ (d i s : Nat) (I : Nat → Nat → Int32) (p : Nat → Int), i + d = B.1.2.1 → s ≤ 5 → zdXb B I → zdX B I p → p c < 0 → ∃ N, zv_X2_sitDown_DB_17 I J (Int32.ofNat c) (Int32.ofNat s) (Int32.ofNat i) = some (none, (N, J)) ∧ zdX B N (zd_sit B.1.1 B.1.2.1 p c d s) ∧ zdXf I N := by
  obtain ⟨⟨hC, hS, hst, hac, hsa⟩, hA, hE, hcm, ham⟩ := id hv
  intro d
  induction d with
  | zero =>
    intro i s I p h hs hb hx hp
    refine ⟨I, ?_, hx, zdXf_r⟩
    rw [zq_X2_sitDown_DB_17, hb.1.2.1, if_pos ((zp_le (by omega) (by omega)).mpr (by omega)), zq_X2_sitDown_DB_75]
  | succ d ih =>
    intro i s I p h hs hb hx hp
    rw [zq_X2_sitDown_DB_17, hb.1.2.1, if_neg (fun z => by have := (zp_le (by omega) (by omega)).mp z; omega), zq_X2_sitDown_DB_26, if_neg (zp_in (by omega) (by omega)), zp_cl (by omega)]
    unfold zd_sit
    by_cases c3 : zd_free B.1.1 p s = true
    · rw [if_pos ((zdx_free hx (by omega)).mpr c3), if_pos c3, zq_X2_sitDown_DB_36, if_neg (zp_in (by omega) (by omega)), if_neg (zp_in (by omega) (by omega)), zp_cl (by omega), zp_cl (by omega)]
      have ht := zdx_take hv hx hc (by omega) c3
      have hf := zdx_takef hx c s
      rw [if_pos hp] at ht hf
      exact ⟨_, rfl, ht, hf⟩
    · rw [if_neg (fun z => c3 ((zdx_free hx (by omega)).mp z)), if_neg c3, zq_X2_sitDown_DB_51, hb.1.2.1, zp_o1 (by omega)]
      by_cases c4 : s + 1 < B.1.2.1
      · rw [if_neg (fun z => by have := (zp_le (by omega) (by omega)).mp z; omega), zq_X2_sitDown_DB_61, zq_X2_sitDown_DB_68, zp_o1 (by omega), zp_o1 (by omega), if_pos c4]
        exact ih (i + 1) (s + 1) I p (by omega) (by omega) hb hx hp
      · rw [if_pos ((zp_le (by omega) (by omega)).mpr (by omega)), zq_X2_sitDown_DB_67, zq_X2_sitDown_DB_68, zp_o1 (by omega), if_neg c4]
        exact ih (i + 1) 0 I p (by omega) (by omega) hb hx hp
theorem zdx_sit (hv : zdXv B) {c : Nat} (hc : c < B.1.1) (hb : zdXb B I) (hx : zdX B I p) (hp : p c < 0) : ∃ N, zF_X2_sitDown zW_DB [.ref 0, .ref 8, .int (Int32.ofNat c)] (I, J) = some (none, (N, J)) ∧ zdX B N (zd_sit B.1.1 B.1.2.1 (zd_up p c (-1)) c B.1.2.1 (B.2.2.1 c)) ∧ zdXf I N := by
  obtain ⟨⟨hC, hS, hst, hac, hsa⟩, hA, hE, hcm, ham⟩ := id hv
  have f0 : zdXf I (zm_w I 1 c (-1)) := fun a b h1 h7 => ze_wo h1
  have x0 : zdX B (zm_w I 1 c (-1)) (zd_up p c (-1)) := zdx_put hx hC hc (by decide) (Or.inl (by decide)) (fun q hq => by
    by_cases e : q = c
    · rw [if_pos e, e, ze_wi, zh_m1]
    · rw [if_neg e, ze_wj e]
      exact hx.1 q hq) (fun s hs => by rw [if_neg (by omega), if_neg (by omega), ze_wo (by decide)])
  have b0 := zdXb_x hb f0
  obtain ⟨N, q1, q2, q3⟩ := zdx_sit17 (J := J) hv hc B.1.2.1 0 (B.2.2.1 c) (zm_w I 1 c (-1)) (zd_up p c (-1)) (by omega) (hst c) b0 x0 (by rw [zd_up_i]; decide)
  refine ⟨N, ?_, q2, zdXf_t f0 q3⟩
  rw [zf_X2_sitDown_DB, zq_X2_sitDown_DB_0, if_neg (zp_in (by omega) (by omega)), if_neg (zp_in (by omega) (by omega)), zp_cl (by omega), b0.2.2.1 c (by omega)]
  exact q1
theorem zdx_sds (hv : zdXv B) (n : Int32) : ∀ (d c : Nat) (I : Nat → Nat → Int32) (p : Nat → Int), c + d = B.1.1 → zdXb B I → zdX B I p → ∃ N, zv_X2_settle_DB_21 I J n (Int32.ofNat c) = zv_X2_settle_DB_51 N J n (Int32.ofNat B.1.1) ∧ zdX B N (zd_for (zd_sd B) d c p) ∧ zdXf I N := by
  obtain ⟨⟨hC, hS, hst, hac, hsa⟩, hA, hE, hcm, ham⟩ := id hv
  intro d
  induction d with
  | zero =>
    intro c I p h hb hx
    refine ⟨I, ?_, hx, zdXf_r⟩
    rw [zq_X2_settle_DB_21, hb.1.1, if_pos ((zp_le (by omega) (by omega)).mpr (by omega)), show c = B.1.1 by omega]
  | succ d ih =>
    intro c I p h hb hx
    have e1 : (I 1 c).toInt = p c := hx.1 c (by omega)
    rw [zq_X2_settle_DB_21, hb.1.1, if_neg (fun z => by have := (zp_le (by omega) (by omega)).mp z; omega), zq_X2_settle_DB_29, if_neg (zp_in (by omega) (by omega)), zp_cl (by omega)]
    show ∃ N, _ ∧ zdX B N (zd_for (zd_sd B) d (c + 1) (zd_sd B c p)) ∧ _
    by_cases c1 : p c = -1
    · obtain ⟨N, q1, q2, q3⟩ := zdx_sit (J := J) hv (show c < B.1.1 by omega) hb hx (by omega)
      rw [zd_up_id c1] at q2
      have es : zd_sd B c p = zd_sit B.1.1 B.1.2.1 p c B.1.2.1 (B.2.2.1 c) := if_pos c1
      obtain ⟨K, r1, r2, r3⟩ := ih (c + 1) N (zd_sd B c p) (by omega) (zdXb_x hb q3) (by rw [es]; exact q2)
      refine ⟨K, ?_, r2, zdXf_t q3 r3⟩
      rw [if_pos (Int32.toInt_inj.mp (by rw [e1, zh_m1]; exact c1)), zc_X2_settle_DB_39 _ _ _ _ q1, zq_X2_settle_DB_45, zp_o1 (by omega)]
      exact r1
    · have es : zd_sd B c p = p := if_neg c1
      obtain ⟨K, r1, r2, r3⟩ := ih (c + 1) I (zd_sd B c p) (by omega) hb (by rw [es]; exact hx)
      refine ⟨K, ?_, r2, r3⟩
      rw [if_neg (fun z => c1 (by rw [← e1, z, zh_m1])), zq_X2_settle_DB_45, zp_o1 (by omega)]
      exact r1
theorem zdx_cms (hv : zdXv B) {n : Nat} (hn : n ≤ 60) : ∀ (d c : Nat) (I : Nat → Nat → Int32) (p : Nat → Int), c + d = B.1.1 → (∀ q, c ≤ q → q < B.1.1 → B.2.1 q = n → p q < 0) → zdXb B I → zdX B I p → ∃ N, zv_X2_settle_DB_53 I J (Int32.ofNat n) (Int32.ofNat c) = some (none, (N, J)) ∧ zdX B N (zd_for (zd_cm B n) d c p) ∧ zdXf I N := by
  obtain ⟨⟨hC, hS, hst, hac, hsa⟩, hA, hE, hcm, ham⟩ := id hv
  intro d
  induction d with
  | zero =>
    intro c I p h hp hb hx
    refine ⟨I, ?_, hx, zdXf_r⟩
    rw [zq_X2_settle_DB_53, hb.1.1, if_pos ((zp_le (by omega) (by omega)).mpr (by omega)), zq_X2_settle_DB_83]
  | succ d ih =>
    intro c I p h hp hb hx
    rw [zq_X2_settle_DB_53, hb.1.1, if_neg (fun z => by have := (zp_le (by omega) (by omega)).mp z; omega), zq_X2_settle_DB_61, if_neg (zp_in (by omega) (by omega)), zp_cl (by omega), hb.2.1 c (by omega)]
    have hc61 := hcm c
    show ∃ N, _ ∧ zdX B N (zd_for (zd_cm B n) d (c + 1) (zd_cm B n c p)) ∧ _
    by_cases c1 : B.2.1 c = n
    · obtain ⟨N, q1, q2, q3⟩ := zdx_sit (J := J) hv (show c < B.1.1 by omega) hb hx (hp c (Nat.le_refl c) (by omega) c1)
      have es : zd_cm B n c p = zd_sit B.1.1 B.1.2.1 (zd_up p c (-1)) c B.1.2.1 (B.2.2.1 c) := if_pos c1
      have hot : ∀ (k s : Nat) (p : Nat → Int) (q : Nat), q ≠ c → zd_sit B.1.1 B.1.2.1 p c k s q = p q := by
        intro k
        induction k with
        | zero => exact fun _ _ _ _ => rfl
        | succ k ihk =>
          intro s p q hq
          unfold zd_sit
          split
          · exact zd_up_o hq
          · exact ihk _ p q hq
      obtain ⟨K, r1, r2, r3⟩ := ih (c + 1) N (zd_cm B n c p) (by omega) (fun q h1 h2 h3 => by
        rw [es, hot _ _ _ q (by omega), zd_up_o (by omega)]
        exact hp q (by omega) h2 h3) (zdXb_x hb q3) (by rw [es]; exact q2)
      refine ⟨K, ?_, r2, zdXf_t q3 r3⟩
      rw [if_pos (by rw [c1]), zc_X2_settle_DB_71 _ _ _ _ q1, zq_X2_settle_DB_77, zp_o1 (by omega)]
      exact r1
    · have es : zd_cm B n c p = p := if_neg c1
      obtain ⟨K, r1, r2, r3⟩ := ih (c + 1) I (zd_cm B n c p) (by omega) (fun q h1 h2 h3 => by
        rw [es]
        exact hp q (by omega) h2 h3) hb (by rw [es]; exact hx)
      refine ⟨K, ?_, r2, r3⟩
      rw [if_neg (zp_ne (by omega) (by omega) c1), zq_X2_settle_DB_77, zp_o1 (by omega)]
      exact r1
/-- all that comes ahead of a minute's call -/
theorem zdx_set (hv : zdXv B) {n : Nat} (hn : n ≤ 60) {x : zdP} (hQ : zdQ B n x.1) (hb : zdXb B I) (hx : zdX B I x.1) (hd : ∀ q, q < 41 → zd_bit (J 0 9) q = x.2 q) (hz : zd_bit (J 0 8) n = false → ∀ k, k < B.1.2.2 → B.2.2.2.2.2.1 k ≠ n) : ∃ N K, zF_X2_settle zW_DB [.ref 0, .ref 8, .int (Int32.ofNat n)] (I, J) = some (none, (N, K)) ∧ zdX B N (zd_set B n x).1 ∧ (∀ q, q < 41 → zd_bit (K 0 9) q = (zd_set B n x).2 q) ∧ zdXf I N := by
  have mid : ∃ N K, zF_X2_settle zW_DB [.ref 0, .ref 8, .int (Int32.ofNat n)] (I, J) = zv_X2_settle_DB_19 N K (Int32.ofNat n) ∧ zdX B N (zd_for (zd_mv B n) B.1.2.2 0 x).1 ∧ (∀ q, q < 41 → zd_bit (K 0 9) q = (zd_for (zd_mv B n) B.1.2.2 0 x).2 q) ∧ zdXf I N := by
    rw [zf_X2_settle_DB, zq_X2_settle_DB_0]
    by_cases c : zd_bit (J 0 8) n = false
    · have e : zd_for (zd_mv B n) B.1.2.2 0 x = x := zd_for_id _ _ _ (fun q _ hq => by
        unfold zd_mv
        rw [if_neg (fun z => hz c q (by omega) z.1)])
      rw [if_pos ((zd_test _ (by omega)).mpr c), e]
      exact ⟨I, J, rfl, hx, hd, zdXf_r⟩
    · obtain ⟨N, K, q1, q2, q3, q4⟩ := zdx_mvs hv hn B.1.2.2 0 I J x none none (by omega) hb hx hd
      rw [if_neg (fun z => c ((zd_test _ (by omega)).mp z)), zc_X2_settle_DB_13 _ _ _ ((zf_X2_moveAll_DB _ _ _).trans ((zq_X2_moveAll_DB_0 _ _ _).trans q1))]
      exact ⟨N, K, rfl, q2, q3, q4⟩
  obtain ⟨N, K, q1, q2, q3, q4⟩ := mid
  obtain ⟨N2, r1, r2, r3⟩ := zdx_sds (J := K) hv (Int32.ofNat n) B.1.1 0 N _ (by omega) (zdXb_x hb q4) q2
  have hQ1 : zdQ B n (zd_for (zd_mv B n) B.1.2.2 0 x).1 := zd_for_ind (P := fun _ y => zdQ B n y.1) B.1.2.2 0 x hQ (fun q y _ _ hy => zdQ_mv hv.1 hy)
  have hQ2 : zdQ B n (zd_for (zd_sd B) B.1.1 0 (zd_for (zd_mv B n) B.1.2.2 0 x).1) := zd_for_ind (P := fun _ y => zdQ B n y) B.1.1 0 _ hQ1 (fun q y _ hq hy => zdQ_sd hv.1 (by omega) hy)
  obtain ⟨N3, s1, s2, s3⟩ := zdx_cms (J := K) hv hn B.1.1 0 N2 _ (by omega) (fun q _ _ h3 => by
    by_cases z : (zd_for (zd_sd B) B.1.1 0 (zd_for (zd_mv B n) B.1.2.2 0 x).1) q = -2
    · rw [z]
      decide
    · have := hQ2.2.1 q z
      omega) (zdXb_x (zdXb_x hb q4) r3) r2
  refine ⟨N3, K, ?_, s2, q3, zdXf_t q4 (zdXf_t r3 s3)⟩
  rw [q1, zq_X2_settle_DB_19]
  refine r1.trans ?_
  rw [zq_X2_settle_DB_51]
  exact s1
end ZDB
end
