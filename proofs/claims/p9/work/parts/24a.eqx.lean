/-! 24a.eqx, 24b.eqm, 24c.base, 24d.one -/
section
/-! EQUATIONS OF STRETCHES, printed by program (wip/gen/gen24a.py) -/
def zm_isRow (h : Nat) : Prop := h = 54 ∨ h = 56 ∨ h = 58 ∨ h = 60
def zm_rowIx (l : Int32) (h : Nat) : Prop := (l = 0 ∧ h = 54) ∨ (l = 1 ∧ h = 56) ∨ (l = 2 ∧ h = 58) ∨ (l = 3 ∧ h = 60)
def zW_R : zm_L := [(.inl 7, [.null, .null, .ref 1]), (.inr (.long, 60), [])]
def zW_PR : zm_L := [(.inl 5, [.null, .ref 1, .ref 2]), (.inr (.int, 10), []), (.inr (.int, 10), []), (.inl 7, [.null, .null, .ref 4]), (.inr (.long, 60), [])]
def zW_LB : zm_L := [(.inl 6, [.null, .null, .null, .ref 1, .ref 2, .ref 3]), (.inr (.int, 5), []), (.inr (.int, 5), []), (.inr (.int, 5), []), (.inl 0, [.null, .null, .null, .null, .null, .null, .null, .null, .ref 5, .ref 6, .ref 7, .ref 8, .ref 9, .ref 10, .ref 11, .ref 12, .ref 13]), (.inr (.int, 6), []), (.inr (.int, 5), []), (.inr (.int, 5), []), (.inr (.int, 5), []), (.inr (.int, 5), []), (.inr (.int, 5), []), (.inr (.int, 41), []), (.inr (.int, 41), []), (.inr (.int, 41), [])]
def zW_Y : zm_L := [(.inl 3, [.ref 1, .null, .ref 9, .ref 10]), (.inl 2, [.ref 2, .ref 3, .ref 4, .ref 5, .ref 6, .ref 7, .ref 8]), (.inr (.int, 5), []), (.inr (.int, 5), []), (.inr (.int, 5), []), (.inr (.int, 5), []), (.inr (.int, 5), []), (.inr (.int, 5), []), (.inr (.int, 6), []), (.inr (.int, 305), []), (.inr (.int, 305), [])]
def zW_YB : zm_L := [(.inl 3, [.ref 1, .null, .ref 9, .ref 10]), (.inl 2, [.ref 2, .ref 3, .ref 4, .ref 5, .ref 6, .ref 7, .ref 8]), (.inr (.int, 5), []), (.inr (.int, 5), []), (.inr (.int, 5), []), (.inr (.int, 5), []), (.inr (.int, 5), []), (.inr (.int, 5), []), (.inr (.int, 6), []), (.inr (.int, 305), []), (.inr (.int, 305), []), (.inl 0, [.null, .null, .null, .null, .null, .null, .null, .null, .ref 12, .ref 13, .ref 14, .ref 15, .ref 16, .ref 17, .ref 18, .ref 19, .ref 20]), (.inr (.int, 6), []), (.inr (.int, 5), []), (.inr (.int, 5), []), (.inr (.int, 5), []), (.inr (.int, 5), []), (.inr (.int, 5), []), (.inr (.int, 41), []), (.inr (.int, 41), []), (.inr (.int, 41), [])]
def zW_X : zm_L := [(.inl 9, [.ref 51, .ref 1, .ref 11, .ref 328, .ref 53, .ref 21, .ref 32, .ref 43, .ref 68, .ref 72, .ref 63, .ref 66, .ref 62]), (.inl 0, [.null, .null, .null, .null, .null, .null, .null, .null, .ref 2, .ref 3, .ref 4, .ref 5, .ref 6, .ref 7, .ref 8, .ref 9, .ref 10]), (.inr (.int, 6), []), (.inr (.int, 5), []), (.inr (.int, 5), []), (.inr (.int, 5), []), (.inr (.int, 5), []), (.inr (.int, 5), []), (.inr (.int, 41), []), (.inr (.int, 41), []), (.inr (.int, 41), []), (.inl 0, [.null, .null, .null, .null, .null, .null, .null, .null, .ref 12, .ref 13, .ref 14, .ref 15, .ref 16, .ref 17, .ref 18, .ref 19, .ref 20]), (.inr (.int, 6), []), (.inr (.int, 5), []), (.inr (.int, 5), []), (.inr (.int, 5), []), (.inr (.int, 5), []), (.inr (.int, 5), []), (.inr (.int, 41), []), (.inr (.int, 41), []), (.inr (.int, 41), []), (.inl 3, [.ref 22, .null, .ref 30, .ref 31]), (.inl 2, [.ref 23, .ref 24, .ref 25, .ref 26, .ref 27, .ref 28, .ref 29]), (.inr (.int, 5), []), (.inr (.int, 5), []), (.inr (.int, 5), []), (.inr (.int, 5), []), (.inr (.int, 5), []), (.inr (.int, 5), []), (.inr (.int, 6), []), (.inr (.int, 305), []), (.inr (.int, 305), []), (.inl 3, [.ref 33, .null, .ref 41, .ref 42]), (.inl 2, [.ref 34, .ref 35, .ref 36, .ref 37, .ref 38, .ref 39, .ref 40]), (.inr (.int, 5), []), (.inr (.int, 5), []), (.inr (.int, 5), []), (.inr (.int, 5), []), (.inr (.int, 5), []), (.inr (.int, 5), []), (.inr (.int, 6), []), (.inr (.int, 305), []), (.inr (.int, 305), []), (.inl 2, [.ref 44, .ref 45, .ref 46, .ref 47, .ref 48, .ref 49, .ref 50]), (.inr (.int, 5), []), (.inr (.int, 5), []), (.inr (.int, 5), []), (.inr (.int, 5), []), (.inr (.int, 5), []), (.inr (.int, 5), []), (.inr (.int, 6), []), (.inl 8, [.ref 52]), (.inr (.int, 800), []), (.inr (.object "WearingBench$Row", 4), [.ref 54, .ref 56, .ref 58, .ref 60]), (.inl 7, [.null, .null, .ref 55]), (.inr (.long, 60), []), (.inl 7, [.null, .null, .ref 57]), (.inr (.long, 60), []), (.inl 7, [.null, .null, .ref 59]), (.inr (.long, 60), []), (.inl 7, [.null, .null, .ref 61]), (.inr (.long, 60), []), (.inr (.int, 366), []), (.inl 5, [.null, .ref 64, .ref 65]), (.inr (.int, 10), []), (.inr (.int, 10), []), (.inl 4, [.null, .null, .ref 67]), (.inr (.int, 36), []), (.inl 6, [.null, .null, .null, .ref 69, .ref 70, .ref 71]), (.inr (.int, 5), []), (.inr (.int, 5), []), (.inr (.int, 5), []), (.inl 1, [.null, .ref 73, .ref 74, .ref 75]), (.inr (.long, 50), []), (.inr (.long, 50), []), (.inr (.object "WearingBench$Day", 11), [.ref 76, .ref 84, .ref 92, .ref 100, .ref 108, .ref 116, .ref 124, .ref 132, .ref 140, .ref 148, .ref 156]), (.inl 2, [.ref 77, .ref 78, .ref 79, .ref 80, .ref 81, .ref 82, .ref 83]), (.inr (.int, 5), []), (.inr (.int, 5), []), (.inr (.int, 5), []), (.inr (.int, 5), []), (.inr (.int, 5), []), (.inr (.int, 5), []), (.inr (.int, 6), []), (.inl 2, [.ref 85, .ref 86, .ref 87, .ref 88, .ref 89, .ref 90, .ref 91]), (.inr (.int, 5), []), (.inr (.int, 5), []), (.inr (.int, 5), []), (.inr (.int, 5), []), (.inr (.int, 5), []), (.inr (.int, 5), []), (.inr (.int, 6), []), (.inl 2, [.ref 93, .ref 94, .ref 95, .ref 96, .ref 97, .ref 98, .ref 99]), (.inr (.int, 5), []), (.inr (.int, 5), []), (.inr (.int, 5), []), (.inr (.int, 5), []), (.inr (.int, 5), []), (.inr (.int, 5), []), (.inr (.int, 6), []), (.inl 2, [.ref 101, .ref 102, .ref 103, .ref 104, .ref 105, .ref 106, .ref 107]), (.inr (.int, 5), []), (.inr (.int, 5), []), (.inr (.int, 5), []), (.inr (.int, 5), []), (.inr (.int, 5), []), (.inr (.int, 5), []), (.inr (.int, 6), []), (.inl 2, [.ref 109, .ref 110, .ref 111, .ref 112, .ref 113, .ref 114, .ref 115]), (.inr (.int, 5), []), (.inr (.int, 5), []), (.inr (.int, 5), []), (.inr (.int, 5), []), (.inr (.int, 5), []), (.inr (.int, 5), []), (.inr (.int, 6), []), (.inl 2, [.ref 117, .ref 118, .ref 119, .ref 120, .ref 121, .ref 122, .ref 123]), (.inr (.int, 5), []), (.inr (.int, 5), []), (.inr (.int, 5), []), (.inr (.int, 5), []), (.inr (.int, 5), []), (.inr (.int, 5), []), (.inr (.int, 6), []), (.inl 2, [.ref 125, .ref 126, .ref 127, .ref 128, .ref 129, .ref 130, .ref 131]), (.inr (.int, 5), []), (.inr (.int, 5), []), (.inr (.int, 5), []), (.inr (.int, 5), []), (.inr (.int, 5), []), (.inr (.int, 5), []), (.inr (.int, 6), []), (.inl 2, [.ref 133, .ref 134, .ref 135, .ref 136, .ref 137, .ref 138, .ref 139]), (.inr (.int, 5), []), (.inr (.int, 5), []), (.inr (.int, 5), []), (.inr (.int, 5), []), (.inr (.int, 5), []), (.inr (.int, 5), []), (.inr (.int, 6), []), (.inl 2, [.ref 141, .ref 142, .ref 143, .ref 144, .ref 145, .ref 146, .ref 147]), (.inr (.int, 5), []), (.inr (.int, 5), []), (.inr (.int, 5), []), (.inr (.int, 5), []), (.inr (.int, 5), []), (.inr (.int, 5), []), (.inr (.int, 6), []), (.inl 2, [.ref 149, .ref 150, .ref 151, .ref 152, .ref 153, .ref 154, .ref 155]), (.inr (.int, 5), []), (.inr (.int, 5), []), (.inr (.int, 5), []), (.inr (.int, 5), []), (.inr (.int, 5), []), (.inr (.int, 5), []), (.inr (.int, 6), []), (.inl 2, [.ref 157, .ref 158, .ref 159, .ref 160, .ref 161, .ref 162, .ref 163]), (.inr (.int, 5), []), (.inr (.int, 5), []), (.inr (.int, 5), []), (.inr (.int, 5), []), (.inr (.int, 5), []), (.inr (.int, 5), []), (.inr (.int, 6), [])]
def zW_TB : zm_L := [(.inl 8, [.ref 1]), (.inr (.int, 800), []), (.inl 0, [.null, .null, .null, .null, .null, .null, .null, .null, .ref 3, .ref 4, .ref 5, .ref 6, .ref 7, .ref 8, .ref 9, .ref 10, .ref 11]), (.inr (.int, 6), []), (.inr (.int, 5), []), (.inr (.int, 5), []), (.inr (.int, 5), []), (.inr (.int, 5), []), (.inr (.int, 5), []), (.inr (.int, 41), []), (.inr (.int, 41), []), (.inr (.int, 41), [])]
def zW_B : zm_L := [(.inl 0, [.null, .null, .null, .null, .null, .null, .null, .null, .ref 1, .ref 2, .ref 3, .ref 4, .ref 5, .ref 6, .ref 7, .ref 8, .ref 9]), (.inr (.int, 6), []), (.inr (.int, 5), []), (.inr (.int, 5), []), (.inr (.int, 5), []), (.inr (.int, 5), []), (.inr (.int, 5), []), (.inr (.int, 41), []), (.inr (.int, 41), []), (.inr (.int, 41), [])]
def zW_BB : zm_L := [(.inl 0, [.null, .null, .null, .null, .null, .null, .null, .null, .ref 1, .ref 2, .ref 3, .ref 4, .ref 5, .ref 6, .ref 7, .ref 8, .ref 9]), (.inr (.int, 6), []), (.inr (.int, 5), []), (.inr (.int, 5), []), (.inr (.int, 5), []), (.inr (.int, 5), []), (.inr (.int, 5), []), (.inr (.int, 41), []), (.inr (.int, 41), []), (.inr (.int, 41), []), (.inl 0, [.null, .null, .null, .null, .null, .null, .null, .null, .ref 11, .ref 12, .ref 13, .ref 14, .ref 15, .ref 16, .ref 17, .ref 18, .ref 19]), (.inr (.int, 6), []), (.inr (.int, 5), []), (.inr (.int, 5), []), (.inr (.int, 5), []), (.inr (.int, 5), []), (.inr (.int, 5), []), (.inr (.int, 41), []), (.inr (.int, 41), []), (.inr (.int, 41), [])]
noncomputable def zv_X7_isMade_R_0 (I : Nat → Nat → Int32) (J : Nat → Nat → Int64) : zm_R := zm_V zT_X7_isMade zW_R (0, [some (.ref 0)], [], (I, J))
noncomputable def zv_X7_isMade_R_8 (I : Nat → Nat → Int32) (J : Nat → Nat → Int64) : zm_R := zm_V zT_X7_isMade zW_R (8, [some (.ref 0)], [], (I, J))
noncomputable def zv_X7_isMade_R_12 (I : Nat → Nat → Int32) (J : Nat → Nat → Int64) : zm_R := zm_V zT_X7_isMade zW_R (12, [some (.ref 0)], [], (I, J))
noncomputable def zv_X7_isMade_R_13 (I : Nat → Nat → Int32) (J : Nat → Nat → Int64) (s0 : Int32) : zm_R := zm_V zT_X7_isMade zW_R (13, [some (.ref 0)], [.int s0], (I, J))
theorem zq_X7_isMade_R_0 (I : Nat → Nat → Int32) (J : Nat → Nat → Int64) : zv_X7_isMade_R_0 I J = if (I 0 0) = (-1) then zv_X7_isMade_R_12 I J else zv_X7_isMade_R_8 I J := (zm_V_eq _ _ _).trans ((fun (k : zm_S → zm_R) => (rfl : zm_step zT_X7_isMade zW_R k (0, [some (.ref 0)], [], (I, J)) = if (I 0 0) = (-1) then k (12, [some (.ref 0)], [], (I, J)) else k (8, [some (.ref 0)], [], (I, J)))) (zm_V zT_X7_isMade zW_R))
theorem zq_X7_isMade_R_8 (I : Nat → Nat → Int32) (J : Nat → Nat → Int64) : zv_X7_isMade_R_8 I J = zv_X7_isMade_R_13 I J 1 := (zm_V_eq _ _ _).trans ((fun (k : zm_S → zm_R) => (rfl : zm_step zT_X7_isMade zW_R k (8, [some (.ref 0)], [], (I, J)) = k (13, [some (.ref 0)], [.int 1], (I, J)))) (zm_V zT_X7_isMade zW_R))
theorem zq_X7_isMade_R_12 (I : Nat → Nat → Int32) (J : Nat → Nat → Int64) : zv_X7_isMade_R_12 I J = zv_X7_isMade_R_13 I J 0 := (zm_V_eq _ _ _).trans ((fun (k : zm_S → zm_R) => (rfl : zm_step zT_X7_isMade zW_R k (12, [some (.ref 0)], [], (I, J)) = k (13, [some (.ref 0)], [.int 0], (I, J)))) (zm_V zT_X7_isMade zW_R))
theorem zq_X7_isMade_R_13 (I : Nat → Nat → Int32) (J : Nat → Nat → Int64) (s0 : Int32) : zv_X7_isMade_R_13 I J s0 = if s0 = 0 ∨ s0 = 1 then some (some (.int s0), (I, J)) else none := (zm_V_eq _ _ _).trans ((fun (k : zm_S → zm_R) => (rfl : zm_step zT_X7_isMade zW_R k (13, [some (.ref 0)], [.int s0], (I, J)) = if s0 = 0 ∨ s0 = 1 then some (some (.int s0), (I, J)) else none)) (zm_V zT_X7_isMade zW_R))
theorem zf_X7_isMade_R (I : Nat → Nat → Int32) (J : Nat → Nat → Int64) : zF_X7_isMade zW_R [.ref 0] (I, J) = zv_X7_isMade_R_0 I J := rfl
noncomputable def zv_X7_isWithin_R_0 (I : Nat → Nat → Int32) (J : Nat → Nat → Int64) (l1 : Int32) (l2 : Int32) (l3 : Int32) : zm_R := zm_V zT_X7_isWithin zW_R (0, [some (.ref 0), some (.int l1), some (.int l2), some (.int l3)], [], (I, J))
noncomputable def zv_X7_isWithin_R_12 (I : Nat → Nat → Int32) (J : Nat → Nat → Int64) (l1 : Int32) (l2 : Int32) (l3 : Int32) : zm_R := zm_V zT_X7_isWithin zW_R (12, [some (.ref 0), some (.int l1), some (.int l2), some (.int l3)], [], (I, J))
noncomputable def zv_X7_isWithin_R_24 (I : Nat → Nat → Int32) (J : Nat → Nat → Int64) (l1 : Int32) (l2 : Int32) (l3 : Int32) : zm_R := zm_V zT_X7_isWithin zW_R (24, [some (.ref 0), some (.int l1), some (.int l2), some (.int l3)], [], (I, J))
noncomputable def zv_X7_isWithin_R_28 (I : Nat → Nat → Int32) (J : Nat → Nat → Int64) (l1 : Int32) (l2 : Int32) (l3 : Int32) : zm_R := zm_V zT_X7_isWithin zW_R (28, [some (.ref 0), some (.int l1), some (.int l2), some (.int l3)], [], (I, J))
noncomputable def zv_X7_isWithin_R_29 (I : Nat → Nat → Int32) (J : Nat → Nat → Int64) (l1 : Int32) (l2 : Int32) (l3 : Int32) (s0 : Int32) : zm_R := zm_V zT_X7_isWithin zW_R (29, [some (.ref 0), some (.int l1), some (.int l2), some (.int l3)], [.int s0], (I, J))
theorem zq_X7_isWithin_R_0 (I : Nat → Nat → Int32) (J : Nat → Nat → Int64) (l1 : Int32) (l2 : Int32) (l3 : Int32) : zv_X7_isWithin_R_0 I J l1 l2 l3 = if (l1 : Int32) < 0 ∨ 60 ≤ Int32.toNatClampNeg l1 then none else if (lg_cmp (J 1 (Int32.toNatClampNeg l1)) (Int32.toInt64 l2)) < 0 then zv_X7_isWithin_R_28 I J l1 l2 l3 else zv_X7_isWithin_R_12 I J l1 l2 l3 := (zm_V_eq _ _ _).trans ((fun (k : zm_S → zm_R) => (rfl : zm_step zT_X7_isWithin zW_R k (0, [some (.ref 0), some (.int l1), some (.int l2), some (.int l3)], [], (I, J)) = if (l1 : Int32) < 0 ∨ 60 ≤ Int32.toNatClampNeg l1 then none else if (lg_cmp (J 1 (Int32.toNatClampNeg l1)) (Int32.toInt64 l2)) < 0 then k (28, [some (.ref 0), some (.int l1), some (.int l2), some (.int l3)], [], (I, J)) else k (12, [some (.ref 0), some (.int l1), some (.int l2), some (.int l3)], [], (I, J)))) (zm_V zT_X7_isWithin zW_R))
theorem zq_X7_isWithin_R_12 (I : Nat → Nat → Int32) (J : Nat → Nat → Int64) (l1 : Int32) (l2 : Int32) (l3 : Int32) : zv_X7_isWithin_R_12 I J l1 l2 l3 = if (l1 : Int32) < 0 ∨ 60 ≤ Int32.toNatClampNeg l1 then none else if 0 < (lg_cmp (J 1 (Int32.toNatClampNeg l1)) (Int32.toInt64 l3)) then zv_X7_isWithin_R_28 I J l1 l2 l3 else zv_X7_isWithin_R_24 I J l1 l2 l3 := (zm_V_eq _ _ _).trans ((fun (k : zm_S → zm_R) => (rfl : zm_step zT_X7_isWithin zW_R k (12, [some (.ref 0), some (.int l1), some (.int l2), some (.int l3)], [], (I, J)) = if (l1 : Int32) < 0 ∨ 60 ≤ Int32.toNatClampNeg l1 then none else if 0 < (lg_cmp (J 1 (Int32.toNatClampNeg l1)) (Int32.toInt64 l3)) then k (28, [some (.ref 0), some (.int l1), some (.int l2), some (.int l3)], [], (I, J)) else k (24, [some (.ref 0), some (.int l1), some (.int l2), some (.int l3)], [], (I, J)))) (zm_V zT_X7_isWithin zW_R))
theorem zq_X7_isWithin_R_24 (I : Nat → Nat → Int32) (J : Nat → Nat → Int64) (l1 : Int32) (l2 : Int32) (l3 : Int32) : zv_X7_isWithin_R_24 I J l1 l2 l3 = zv_X7_isWithin_R_29 I J l1 l2 l3 1 := (zm_V_eq _ _ _).trans ((fun (k : zm_S → zm_R) => (rfl : zm_step zT_X7_isWithin zW_R k (24, [some (.ref 0), some (.int l1), some (.int l2), some (.int l3)], [], (I, J)) = k (29, [some (.ref 0), some (.int l1), some (.int l2), some (.int l3)], [.int 1], (I, J)))) (zm_V zT_X7_isWithin zW_R))
theorem zq_X7_isWithin_R_28 (I : Nat → Nat → Int32) (J : Nat → Nat → Int64) (l1 : Int32) (l2 : Int32) (l3 : Int32) : zv_X7_isWithin_R_28 I J l1 l2 l3 = zv_X7_isWithin_R_29 I J l1 l2 l3 0 := (zm_V_eq _ _ _).trans ((fun (k : zm_S → zm_R) => (rfl : zm_step zT_X7_isWithin zW_R k (28, [some (.ref 0), some (.int l1), some (.int l2), some (.int l3)], [], (I, J)) = k (29, [some (.ref 0), some (.int l1), some (.int l2), some (.int l3)], [.int 0], (I, J)))) (zm_V zT_X7_isWithin zW_R))
theorem zq_X7_isWithin_R_29 (I : Nat → Nat → Int32) (J : Nat → Nat → Int64) (l1 : Int32) (l2 : Int32) (l3 : Int32) (s0 : Int32) : zv_X7_isWithin_R_29 I J l1 l2 l3 s0 = if s0 = 0 ∨ s0 = 1 then some (some (.int s0), (I, J)) else none := (zm_V_eq _ _ _).trans ((fun (k : zm_S → zm_R) => (rfl : zm_step zT_X7_isWithin zW_R k (29, [some (.ref 0), some (.int l1), some (.int l2), some (.int l3)], [.int s0], (I, J)) = if s0 = 0 ∨ s0 = 1 then some (some (.int s0), (I, J)) else none)) (zm_V zT_X7_isWithin zW_R))
theorem zf_X7_isWithin_R (I : Nat → Nat → Int32) (J : Nat → Nat → Int64) (l1 : Int32) (l2 : Int32) (l3 : Int32) : zF_X7_isWithin zW_R [.ref 0, .int l1, .int l2, .int l3] (I, J) = zv_X7_isWithin_R_0 I J l1 l2 l3 := rfl
noncomputable def zv_X7_intAt_R_0 (I : Nat → Nat → Int32) (J : Nat → Nat → Int64) (l1 : Int32) : zm_R := zm_V zT_X7_intAt zW_R (0, [some (.ref 0), some (.int l1)], [], (I, J))
theorem zq_X7_intAt_R_0 (I : Nat → Nat → Int32) (J : Nat → Nat → Int64) (l1 : Int32) : zv_X7_intAt_R_0 I J l1 = if (l1 : Int32) < 0 ∨ 60 ≤ Int32.toNatClampNeg l1 then none else some (some (.int (Int64.toInt32 (J 1 (Int32.toNatClampNeg l1)))), (I, J)) := (zm_V_eq _ _ _).trans ((fun (k : zm_S → zm_R) => (rfl : zm_step zT_X7_intAt zW_R k (0, [some (.ref 0), some (.int l1)], [], (I, J)) = if (l1 : Int32) < 0 ∨ 60 ≤ Int32.toNatClampNeg l1 then none else some (some (.int (Int64.toInt32 (J 1 (Int32.toNatClampNeg l1)))), (I, J)))) (zm_V zT_X7_intAt zW_R))
theorem zf_X7_intAt_R (I : Nat → Nat → Int32) (J : Nat → Nat → Int64) (l1 : Int32) : zF_X7_intAt zW_R [.ref 0, .int l1] (I, J) = zv_X7_intAt_R_0 I J l1 := rfl
noncomputable def zv_X7_hasStretch_R_0 (I : Nat → Nat → Int32) (J : Nat → Nat → Int64) (l1 : Int32) (l2 : Int32) : zm_R := zm_V zT_X7_hasStretch zW_R (0, [some (.ref 0), some (.int l1), some (.int l2)], [], (I, J))
noncomputable def zv_X7_hasStretch_R_4 (I : Nat → Nat → Int32) (J : Nat → Nat → Int64) (l1 : Int32) (l2 : Int32) : zm_R := zm_V zT_X7_hasStretch zW_R (4, [some (.ref 0), some (.int l1), some (.int l2)], [], (I, J))
noncomputable def zv_X7_hasStretch_R_8 (I : Nat → Nat → Int32) (J : Nat → Nat → Int64) (l1 : Int32) (l2 : Int32) : zm_R := zm_V zT_X7_hasStretch zW_R (8, [some (.ref 0), some (.int l1), some (.int l2)], [], (I, J))
noncomputable def zv_X7_hasStretch_R_16 (I : Nat → Nat → Int32) (J : Nat → Nat → Int64) (l1 : Int32) (l2 : Int32) : zm_R := zm_V zT_X7_hasStretch zW_R (16, [some (.ref 0), some (.int l1), some (.int l2)], [], (I, J))
noncomputable def zv_X7_hasStretch_R_26 (I : Nat → Nat → Int32) (J : Nat → Nat → Int64) (l1 : Int32) (l2 : Int32) : zm_R := zm_V zT_X7_hasStretch zW_R (26, [some (.ref 0), some (.int l1), some (.int l2)], [], (I, J))
noncomputable def zv_X7_hasStretch_R_30 (I : Nat → Nat → Int32) (J : Nat → Nat → Int64) (l1 : Int32) (l2 : Int32) : zm_R := zm_V zT_X7_hasStretch zW_R (30, [some (.ref 0), some (.int l1), some (.int l2)], [], (I, J))
noncomputable def zv_X7_hasStretch_R_31 (I : Nat → Nat → Int32) (J : Nat → Nat → Int64) (l1 : Int32) (l2 : Int32) (s0 : Int32) : zm_R := zm_V zT_X7_hasStretch zW_R (31, [some (.ref 0), some (.int l1), some (.int l2)], [.int s0], (I, J))
theorem zq_X7_hasStretch_R_0 (I : Nat → Nat → Int32) (J : Nat → Nat → Int64) (l1 : Int32) (l2 : Int32) : zv_X7_hasStretch_R_0 I J l1 l2 = if l1 < 0 then zv_X7_hasStretch_R_30 I J l1 l2 else zv_X7_hasStretch_R_4 I J l1 l2 := (zm_V_eq _ _ _).trans ((fun (k : zm_S → zm_R) => (rfl : zm_step zT_X7_hasStretch zW_R k (0, [some (.ref 0), some (.int l1), some (.int l2)], [], (I, J)) = if l1 < 0 then k (30, [some (.ref 0), some (.int l1), some (.int l2)], [], (I, J)) else k (4, [some (.ref 0), some (.int l1), some (.int l2)], [], (I, J)))) (zm_V zT_X7_hasStretch zW_R))
theorem zq_X7_hasStretch_R_4 (I : Nat → Nat → Int32) (J : Nat → Nat → Int64) (l1 : Int32) (l2 : Int32) : zv_X7_hasStretch_R_4 I J l1 l2 = if l2 < 0 then zv_X7_hasStretch_R_30 I J l1 l2 else zv_X7_hasStretch_R_8 I J l1 l2 := (zm_V_eq _ _ _).trans ((fun (k : zm_S → zm_R) => (rfl : zm_step zT_X7_hasStretch zW_R k (4, [some (.ref 0), some (.int l1), some (.int l2)], [], (I, J)) = if l2 < 0 then k (30, [some (.ref 0), some (.int l1), some (.int l2)], [], (I, J)) else k (8, [some (.ref 0), some (.int l1), some (.int l2)], [], (I, J)))) (zm_V zT_X7_hasStretch zW_R))
theorem zq_X7_hasStretch_R_8 (I : Nat → Nat → Int32) (J : Nat → Nat → Int64) (l1 : Int32) (l2 : Int32) : zv_X7_hasStretch_R_8 I J l1 l2 = if (I 0 1) < l1 then zv_X7_hasStretch_R_30 I J l1 l2 else zv_X7_hasStretch_R_16 I J l1 l2 := (zm_V_eq _ _ _).trans ((fun (k : zm_S → zm_R) => (rfl : zm_step zT_X7_hasStretch zW_R k (8, [some (.ref 0), some (.int l1), some (.int l2)], [], (I, J)) = if (I 0 1) < l1 then k (30, [some (.ref 0), some (.int l1), some (.int l2)], [], (I, J)) else k (16, [some (.ref 0), some (.int l1), some (.int l2)], [], (I, J)))) (zm_V zT_X7_hasStretch zW_R))
theorem zq_X7_hasStretch_R_16 (I : Nat → Nat → Int32) (J : Nat → Nat → Int64) (l1 : Int32) (l2 : Int32) : zv_X7_hasStretch_R_16 I J l1 l2 = if ((I 0 1) - l1) < l2 then zv_X7_hasStretch_R_30 I J l1 l2 else zv_X7_hasStretch_R_26 I J l1 l2 := (zm_V_eq _ _ _).trans ((fun (k : zm_S → zm_R) => (rfl : zm_step zT_X7_hasStretch zW_R k (16, [some (.ref 0), some (.int l1), some (.int l2)], [], (I, J)) = if ((I 0 1) - l1) < l2 then k (30, [some (.ref 0), some (.int l1), some (.int l2)], [], (I, J)) else k (26, [some (.ref 0), some (.int l1), some (.int l2)], [], (I, J)))) (zm_V zT_X7_hasStretch zW_R))
theorem zq_X7_hasStretch_R_26 (I : Nat → Nat → Int32) (J : Nat → Nat → Int64) (l1 : Int32) (l2 : Int32) : zv_X7_hasStretch_R_26 I J l1 l2 = zv_X7_hasStretch_R_31 I J l1 l2 1 := (zm_V_eq _ _ _).trans ((fun (k : zm_S → zm_R) => (rfl : zm_step zT_X7_hasStretch zW_R k (26, [some (.ref 0), some (.int l1), some (.int l2)], [], (I, J)) = k (31, [some (.ref 0), some (.int l1), some (.int l2)], [.int 1], (I, J)))) (zm_V zT_X7_hasStretch zW_R))
theorem zq_X7_hasStretch_R_30 (I : Nat → Nat → Int32) (J : Nat → Nat → Int64) (l1 : Int32) (l2 : Int32) : zv_X7_hasStretch_R_30 I J l1 l2 = zv_X7_hasStretch_R_31 I J l1 l2 0 := (zm_V_eq _ _ _).trans ((fun (k : zm_S → zm_R) => (rfl : zm_step zT_X7_hasStretch zW_R k (30, [some (.ref 0), some (.int l1), some (.int l2)], [], (I, J)) = k (31, [some (.ref 0), some (.int l1), some (.int l2)], [.int 0], (I, J)))) (zm_V zT_X7_hasStretch zW_R))
theorem zq_X7_hasStretch_R_31 (I : Nat → Nat → Int32) (J : Nat → Nat → Int64) (l1 : Int32) (l2 : Int32) (s0 : Int32) : zv_X7_hasStretch_R_31 I J l1 l2 s0 = if s0 = 0 ∨ s0 = 1 then some (some (.int s0), (I, J)) else none := (zm_V_eq _ _ _).trans ((fun (k : zm_S → zm_R) => (rfl : zm_step zT_X7_hasStretch zW_R k (31, [some (.ref 0), some (.int l1), some (.int l2)], [.int s0], (I, J)) = if s0 = 0 ∨ s0 = 1 then some (some (.int s0), (I, J)) else none)) (zm_V zT_X7_hasStretch zW_R))
theorem zf_X7_hasStretch_R (I : Nat → Nat → Int32) (J : Nat → Nat → Int64) (l1 : Int32) (l2 : Int32) : zF_X7_hasStretch zW_R [.ref 0, .int l1, .int l2] (I, J) = zv_X7_hasStretch_R_0 I J l1 l2 := rfl
noncomputable def zv_X5_sort_PR_0 (I : Nat → Nat → Int32) (J : Nat → Nat → Int64) : zm_R := zm_V zT_X5_sort zW_PR (0, [some (.ref 0), some (.ref 3), none, none, none], [], (I, J))
noncomputable def zv_X5_sort_PR_8 (I : Nat → Nat → Int32) (J : Nat → Nat → Int64) : zm_R := zm_V zT_X5_sort zW_PR (8, [some (.ref 0), some (.ref 3), none, none, none], [], (I, J))
noncomputable def zv_X5_sort_PR_10 (I : Nat → Nat → Int32) (J : Nat → Nat → Int64) (l2 : Int32) : zm_R := zm_V zT_X5_sort zW_PR (10, [some (.ref 0), some (.ref 3), some (.int l2), none, none], [], (I, J))
noncomputable def zv_X5_sort_PR_20 (I : Nat → Nat → Int32) (J : Nat → Nat → Int64) (l2 : Int32) : zm_R := zm_V zT_X5_sort zW_PR (20, [some (.ref 0), some (.ref 3), some (.int l2), none, none], [], (I, J))
noncomputable def zv_X5_sort_PR_29 (I : Nat → Nat → Int32) (J : Nat → Nat → Int64) (l2 : Int32) (s0 : Int32) : zm_R := zm_V zT_X5_sort zW_PR (29, [some (.ref 0), some (.ref 3), some (.int l2), none, none], [.int s0, .ref 2], (I, J))
noncomputable def zv_X5_sort_PR_31 (I : Nat → Nat → Int32) (J : Nat → Nat → Int64) (l2 : Int32) (s0 : Int32) (s1 : Int32) : zm_R := zm_V zT_X5_sort zW_PR (31, [some (.ref 0), some (.ref 3), some (.int l2), none, none], [.int s0, .int s1, .ref 2], (I, J))
noncomputable def zv_X5_sort_PR_39 (I : Nat → Nat → Int32) (J : Nat → Nat → Int64) (l2 : Int32) (s0 : Int32) (s1 : Int32) (s2 : Int32) (s3 : Int32) : zm_R := zm_V zT_X5_sort zW_PR (39, [some (.ref 0), some (.ref 3), some (.int l2), none, none], [.int s0, .int s1, .int s2, .int s3, .ref 2], (I, J))
noncomputable def zv_X5_sort_PR_48 (I : Nat → Nat → Int32) (J : Nat → Nat → Int64) (l2 : Int32) : zm_R := zm_V zT_X5_sort zW_PR (48, [some (.ref 0), some (.ref 3), some (.int l2), none, none], [], (I, J))
noncomputable def zv_X5_sort_PR_57 (I : Nat → Nat → Int32) (J : Nat → Nat → Int64) (l2 : Int32) (l3 : Int32) (l4 : Option Value) : zm_R := zm_V zT_X5_sort zW_PR (57, [some (.ref 0), some (.ref 3), some (.int l2), some (.int l3), l4], [], (I, J))
noncomputable def zv_X5_sort_PR_63 (I : Nat → Nat → Int32) (J : Nat → Nat → Int64) (l2 : Int32) (l3 : Int32) (l4 : Option Value) : zm_R := zm_V zT_X5_sort zW_PR (63, [some (.ref 0), some (.ref 3), some (.int l2), some (.int l3), l4], [], (I, J))
noncomputable def zv_X5_sort_PR_70 (I : Nat → Nat → Int32) (J : Nat → Nat → Int64) (l2 : Int32) (l3 : Int32) (l4 : Option Value) : zm_R := zm_V zT_X5_sort zW_PR (70, [some (.ref 0), some (.ref 3), some (.int l2), some (.int l3), l4], [], (I, J))
noncomputable def zv_X5_sort_PR_75 (I : Nat → Nat → Int32) (J : Nat → Nat → Int64) (l2 : Int32) (l3 : Int32) (l4 : Option Value) (s0 : Int32) : zm_R := zm_V zT_X5_sort zW_PR (75, [some (.ref 0), some (.ref 3), some (.int l2), some (.int l3), l4], [.int s0], (I, J))
noncomputable def zv_X5_sort_PR_84 (I : Nat → Nat → Int32) (J : Nat → Nat → Int64) (l2 : Int32) (l3 : Int32) (l4 : Int32) : zm_R := zm_V zT_X5_sort zW_PR (84, [some (.ref 0), some (.ref 3), some (.int l2), some (.int l3), some (.int l4)], [.ref 0], (I, J))
noncomputable def zv_X5_sort_PR_88 (I : Nat → Nat → Int32) (J : Nat → Nat → Int64) (l2 : Int32) (l3 : Int32) (l4 : Int32) : zm_R := zm_V zT_X5_sort zW_PR (88, [some (.ref 0), some (.ref 3), some (.int l2), some (.int l3), some (.int l4)], [.ref 0], (I, J))
noncomputable def zv_X5_sort_PR_89 (I : Nat → Nat → Int32) (J : Nat → Nat → Int64) (l2 : Int32) (l3 : Int32) (l4 : Int32) (s0 : Int32) : zm_R := zm_V zT_X5_sort zW_PR (89, [some (.ref 0), some (.ref 3), some (.int l2), some (.int l3), some (.int l4)], [.int s0, .ref 0], (I, J))
noncomputable def zv_X5_sort_PR_99 (I : Nat → Nat → Int32) (J : Nat → Nat → Int64) (l2 : Int32) (l3 : Int32) (l4 : Int32) : zm_R := zm_V zT_X5_sort zW_PR (99, [some (.ref 0), some (.ref 3), some (.int l2), some (.int l3), some (.int l4)], [], (I, J))
noncomputable def zv_X5_sort_PR_114 (I : Nat → Nat → Int32) (J : Nat → Nat → Int64) (l2 : Int32) (l3 : Int32) (l4 : Int32) : zm_R := zm_V zT_X5_sort zW_PR (114, [some (.ref 0), some (.ref 3), some (.int l2), some (.int l3), some (.int l4)], [], (I, J))
noncomputable def zv_X5_sort_PR_120 (I : Nat → Nat → Int32) (J : Nat → Nat → Int64) (l2 : Int32) (l3 : Int32) (l4 : Option Value) : zm_R := zm_V zT_X5_sort zW_PR (120, [some (.ref 0), some (.ref 3), some (.int l2), some (.int l3), l4], [], (I, J))
theorem zc_X5_sort_PR_0 (I : Nat → Nat → Int32) (J : Nat → Nat → Int64) {N : zm_I} (hF : zF_J7_fill_53178 [(.inr (.int, 10), [])] [.ref 0, .int 0] (zm_sub2 [(2, 1)] (I, J)) = some (none, N)) : zv_X5_sort_PR_0 I J = zv_X5_sort_PR_8 (zm_mrg [(2, 1)] (I, J) N).1 (zm_mrg [(2, 1)] (I, J) N).2  := by
  have e : ∀ k : zm_S → zm_R, zm_step zT_X5_sort zW_PR k (0, [some (.ref 0), some (.ref 3), none, none, none], [], (I, J)) = zm_app (2, none, false, [(0, 1)], zF_J7_fill_53178) zW_PR [.ref 2, .int 0] (I, J) (fun v N => k (8, [some (.ref 0), some (.ref 3), none, none, none], v.toList ++ [], N)) := fun k => rfl
  have g := zm_app_l (C := (2, none, false, [(0, 1)], zF_J7_fill_53178)) (wl := zW_PR) (as := [.ref 2, .int 0]) (wc := [(.inr (.int, 10), [])]) (ac := [.ref 0, .int 0]) (bs := [(2, 1)]) (M := (I, J)) (k := fun v N => zm_V zT_X5_sort zW_PR (8, [some (.ref 0), some (.ref 3), none, none, none], v.toList ++ [], N)) rfl rfl rfl rfl rfl rfl hF
  exact (zm_V_eq _ _ _).trans ((e _).trans g)
theorem zq_X5_sort_PR_8 (I : Nat → Nat → Int32) (J : Nat → Nat → Int64) : zv_X5_sort_PR_8 I J = zv_X5_sort_PR_10 I J 0 := (zm_V_eq _ _ _).trans ((fun (k : zm_S → zm_R) => (rfl : zm_step zT_X5_sort zW_PR k (8, [some (.ref 0), some (.ref 3), none, none, none], [], (I, J)) = k (10, [some (.ref 0), some (.ref 3), some (.int 0), none, none], [], (I, J)))) (zm_V zT_X5_sort zW_PR))
theorem zq_X5_sort_PR_10 (I : Nat → Nat → Int32) (J : Nat → Nat → Int64) (l2 : Int32) : zv_X5_sort_PR_10 I J l2 = if (I 3 1) ≤ (l2 + 1) then zv_X5_sort_PR_48 I J l2 else zv_X5_sort_PR_20 I J l2 := (zm_V_eq _ _ _).trans ((fun (k : zm_S → zm_R) => (rfl : zm_step zT_X5_sort zW_PR k (10, [some (.ref 0), some (.ref 3), some (.int l2), none, none], [], (I, J)) = if (I 3 1) ≤ (l2 + 1) then k (48, [some (.ref 0), some (.ref 3), some (.int l2), none, none], [], (I, J)) else k (20, [some (.ref 0), some (.ref 3), some (.int l2), none, none], [], (I, J)))) (zm_V zT_X5_sort zW_PR))
theorem zc_X5_sort_PR_20 (I : Nat → Nat → Int32) (J : Nat → Nat → Int64) (l2 : Int32) {N : zm_I} {r : Int32} (hF : zF_X7_intAt zW_R [.ref 0, .int l2] (zm_sub2 [(3, 2)] (I, J)) = some (some (.int r), N)) : zv_X5_sort_PR_20 I J l2 = zv_X5_sort_PR_29 (zm_mrg [(3, 2)] (I, J) N).1 (zm_mrg [(3, 2)] (I, J) N).2 l2 r := by
  have e : ∀ k : zm_S → zm_R, zm_step zT_X5_sort zW_PR k (20, [some (.ref 0), some (.ref 3), some (.int l2), none, none], [], (I, J)) = zm_app (2, some 7, false, [(0, 2)], zF_X7_intAt) zW_PR [.ref 3, .int l2] (I, J) (fun v N => k (29, [some (.ref 0), some (.ref 3), some (.int l2), none, none], v.toList ++ [.ref 2], N)) := fun k => rfl
  have g := zm_app_l (C := (2, some 7, false, [(0, 2)], zF_X7_intAt)) (wl := zW_PR) (as := [.ref 3, .int l2]) (wc := zW_R) (ac := [.ref 0, .int l2]) (bs := [(3, 2)]) (M := (I, J)) (k := fun v N => zm_V zT_X5_sort zW_PR (29, [some (.ref 0), some (.ref 3), some (.int l2), none, none], v.toList ++ [.ref 2], N)) rfl rfl rfl rfl rfl rfl hF
  exact (zm_V_eq _ _ _).trans ((e _).trans g)
theorem zq_X5_sort_PR_29 (I : Nat → Nat → Int32) (J : Nat → Nat → Int64) (l2 : Int32) (s0 : Int32) : zv_X5_sort_PR_29 I J l2 s0 = if (s0 : Int32) < 0 ∨ 10 ≤ Int32.toNatClampNeg s0 then none else zv_X5_sort_PR_31 I J l2 (I 2 (Int32.toNatClampNeg s0)) s0 := (zm_V_eq _ _ _).trans ((fun (k : zm_S → zm_R) => (rfl : zm_step zT_X5_sort zW_PR k (29, [some (.ref 0), some (.ref 3), some (.int l2), none, none], [.int s0, .ref 2], (I, J)) = if (s0 : Int32) < 0 ∨ 10 ≤ Int32.toNatClampNeg s0 then none else k (31, [some (.ref 0), some (.ref 3), some (.int l2), none, none], [.int (I 2 (Int32.toNatClampNeg s0)), .int s0, .ref 2], (I, J)))) (zm_V zT_X5_sort zW_PR))
theorem zc_X5_sort_PR_31 (I : Nat → Nat → Int32) (J : Nat → Nat → Int64) (l2 : Int32) (s0 : Int32) (s1 : Int32) {N : zm_I} {r : Int32} (hF : zF_X7_intAt zW_R [.ref 0, .int (l2 + 1)] (zm_sub2 [(3, 2)] (I, J)) = some (some (.int r), N)) : zv_X5_sort_PR_31 I J l2 s0 s1 = zv_X5_sort_PR_39 (zm_mrg [(3, 2)] (I, J) N).1 (zm_mrg [(3, 2)] (I, J) N).2 l2 r 1 s0 s1 := by
  have e : ∀ k : zm_S → zm_R, zm_step zT_X5_sort zW_PR k (31, [some (.ref 0), some (.ref 3), some (.int l2), none, none], [.int s0, .int s1, .ref 2], (I, J)) = zm_app (2, some 7, false, [(0, 2)], zF_X7_intAt) zW_PR [.ref 3, .int (l2 + 1)] (I, J) (fun v N => k (39, [some (.ref 0), some (.ref 3), some (.int l2), none, none], v.toList ++ [.int 1, .int s0, .int s1, .ref 2], N)) := fun k => rfl
  have g := zm_app_l (C := (2, some 7, false, [(0, 2)], zF_X7_intAt)) (wl := zW_PR) (as := [.ref 3, .int (l2 + 1)]) (wc := zW_R) (ac := [.ref 0, .int (l2 + 1)]) (bs := [(3, 2)]) (M := (I, J)) (k := fun v N => zm_V zT_X5_sort zW_PR (39, [some (.ref 0), some (.ref 3), some (.int l2), none, none], v.toList ++ [.int 1, .int s0, .int s1, .ref 2], N)) rfl rfl rfl rfl rfl rfl hF
  exact (zm_V_eq _ _ _).trans ((e _).trans g)
theorem zq_X5_sort_PR_39 (I : Nat → Nat → Int32) (J : Nat → Nat → Int64) (l2 : Int32) (s0 : Int32) (s1 : Int32) (s2 : Int32) (s3 : Int32) : zv_X5_sort_PR_39 I J l2 s0 s1 s2 s3 = if (s3 : Int32) < 0 ∨ 10 ≤ Int32.toNatClampNeg s3 then none else zv_X5_sort_PR_10 (zm_w I 2 (Int32.toNatClampNeg s3) (s2 ||| (s1 <<< (s0 &&& 31)))) J (l2 + 2) := (zm_V_eq _ _ _).trans ((fun (k : zm_S → zm_R) => (rfl : zm_step zT_X5_sort zW_PR k (39, [some (.ref 0), some (.ref 3), some (.int l2), none, none], [.int s0, .int s1, .int s2, .int s3, .ref 2], (I, J)) = if (s3 : Int32) < 0 ∨ 10 ≤ Int32.toNatClampNeg s3 then none else k (10, [some (.ref 0), some (.ref 3), some (.int (l2 + 2)), none, none], [], ((zm_w I 2 (Int32.toNatClampNeg s3) (s2 ||| (s1 <<< (s0 &&& 31)))), J)))) (zm_V zT_X5_sort zW_PR))
theorem zq_X5_sort_PR_48 (I : Nat → Nat → Int32) (J : Nat → Nat → Int64) (l2 : Int32) : zv_X5_sort_PR_48 I J l2 = zv_X5_sort_PR_57 (zm_w I 0 0 1) J 0 0 none := (zm_V_eq _ _ _).trans ((fun (k : zm_S → zm_R) => (rfl : zm_step zT_X5_sort zW_PR k (48, [some (.ref 0), some (.ref 3), some (.int l2), none, none], [], (I, J)) = k (57, [some (.ref 0), some (.ref 3), some (.int 0), some (.int 0), none], [], ((zm_w I 0 0 1), J)))) (zm_V zT_X5_sort zW_PR))
theorem zq_X5_sort_PR_57 (I : Nat → Nat → Int32) (J : Nat → Nat → Int64) (l2 : Int32) (l3 : Int32) (l4 : Option Value) : zv_X5_sort_PR_57 I J l2 l3 l4 = if 10 ≤ l3 then zv_X5_sort_PR_120 I J l2 l3 l4 else zv_X5_sort_PR_63 I J l2 l3 l4 := (zm_V_eq _ _ _).trans ((fun (k : zm_S → zm_R) => (rfl : zm_step zT_X5_sort zW_PR k (57, [some (.ref 0), some (.ref 3), some (.int l2), some (.int l3), l4], [], (I, J)) = if 10 ≤ l3 then k (120, [some (.ref 0), some (.ref 3), some (.int l2), some (.int l3), l4], [], (I, J)) else k (63, [some (.ref 0), some (.ref 3), some (.int l2), some (.int l3), l4], [], (I, J)))) (zm_V zT_X5_sort zW_PR))
theorem zq_X5_sort_PR_63 (I : Nat → Nat → Int32) (J : Nat → Nat → Int64) (l2 : Int32) (l3 : Int32) (l4 : Option Value) : zv_X5_sort_PR_63 I J l2 l3 l4 = if (I 0 0) = 0 then zv_X5_sort_PR_120 I J l2 l3 l4 else zv_X5_sort_PR_70 I J l2 l3 l4 := (zm_V_eq _ _ _).trans ((fun (k : zm_S → zm_R) => (rfl : zm_step zT_X5_sort zW_PR k (63, [some (.ref 0), some (.ref 3), some (.int l2), some (.int l3), l4], [], (I, J)) = if (I 0 0) = 0 then k (120, [some (.ref 0), some (.ref 3), some (.int l2), some (.int l3), l4], [], (I, J)) else k (70, [some (.ref 0), some (.ref 3), some (.int l2), some (.int l3), l4], [], (I, J)))) (zm_V zT_X5_sort zW_PR))
theorem zc_X5_sort_PR_70 (I : Nat → Nat → Int32) (J : Nat → Nat → Int64) (l2 : Int32) (l3 : Int32) (l4 : Option Value) {I2 : Nat → Nat → Int32} {J2 : Nat → Nat → Int64} {r : Int32} (hF : zF_X5_leastToCut zW_PR [.ref 0, .int l2] (I, J) = some (some (.int r), (I2, J2))) : zv_X5_sort_PR_70 I J l2 l3 l4 = zv_X5_sort_PR_75 I2 J2 l2 l3 (l4) r := by
  have e : ∀ k : zm_S → zm_R, zm_step zT_X5_sort zW_PR k (70, [some (.ref 0), some (.ref 3), some (.int l2), some (.int l3), l4], [], (I, J)) = zm_app (2, some 5, true, [], zF_X5_leastToCut) zW_PR [.ref 0, .int l2] (I, J) (fun v N => k (75, [some (.ref 0), some (.ref 3), some (.int l2), some (.int l3), l4], v.toList ++ [], N)) := fun k => rfl
  have g := zm_app_s (C := (2, some 5, true, [], zF_X5_leastToCut)) (wl := zW_PR) (as := [.ref 0, .int l2]) (M := (I, J)) (k := fun v N => zm_V zT_X5_sort zW_PR (75, [some (.ref 0), some (.ref 3), some (.int l2), some (.int l3), l4], v.toList ++ [], N)) rfl rfl hF
  exact (zm_V_eq _ _ _).trans ((e _).trans g)
theorem zq_X5_sort_PR_75 (I : Nat → Nat → Int32) (J : Nat → Nat → Int64) (l2 : Int32) (l3 : Int32) (l4 : Option Value) (s0 : Int32) : zv_X5_sort_PR_75 I J l2 l3 l4 s0 = if s0 = (-1) then zv_X5_sort_PR_88 I J l2 l3 s0 else zv_X5_sort_PR_84 I J l2 l3 s0 := (zm_V_eq _ _ _).trans ((fun (k : zm_S → zm_R) => (rfl : zm_step zT_X5_sort zW_PR k (75, [some (.ref 0), some (.ref 3), some (.int l2), some (.int l3), l4], [.int s0], (I, J)) = if s0 = (-1) then k (88, [some (.ref 0), some (.ref 3), some (.int l2), some (.int l3), some (.int s0)], [.ref 0], (I, J)) else k (84, [some (.ref 0), some (.ref 3), some (.int l2), some (.int l3), some (.int s0)], [.ref 0], (I, J)))) (zm_V zT_X5_sort zW_PR))
theorem zq_X5_sort_PR_84 (I : Nat → Nat → Int32) (J : Nat → Nat → Int64) (l2 : Int32) (l3 : Int32) (l4 : Int32) : zv_X5_sort_PR_84 I J l2 l3 l4 = zv_X5_sort_PR_89 I J l2 l3 l4 1 := (zm_V_eq _ _ _).trans ((fun (k : zm_S → zm_R) => (rfl : zm_step zT_X5_sort zW_PR k (84, [some (.ref 0), some (.ref 3), some (.int l2), some (.int l3), some (.int l4)], [.ref 0], (I, J)) = k (89, [some (.ref 0), some (.ref 3), some (.int l2), some (.int l3), some (.int l4)], [.int 1, .ref 0], (I, J)))) (zm_V zT_X5_sort zW_PR))
theorem zq_X5_sort_PR_88 (I : Nat → Nat → Int32) (J : Nat → Nat → Int64) (l2 : Int32) (l3 : Int32) (l4 : Int32) : zv_X5_sort_PR_88 I J l2 l3 l4 = zv_X5_sort_PR_89 I J l2 l3 l4 0 := (zm_V_eq _ _ _).trans ((fun (k : zm_S → zm_R) => (rfl : zm_step zT_X5_sort zW_PR k (88, [some (.ref 0), some (.ref 3), some (.int l2), some (.int l3), some (.int l4)], [.ref 0], (I, J)) = k (89, [some (.ref 0), some (.ref 3), some (.int l2), some (.int l3), some (.int l4)], [.int 0, .ref 0], (I, J)))) (zm_V zT_X5_sort zW_PR))
theorem zq_X5_sort_PR_89 (I : Nat → Nat → Int32) (J : Nat → Nat → Int64) (l2 : Int32) (l3 : Int32) (l4 : Int32) (s0 : Int32) : zv_X5_sort_PR_89 I J l2 l3 l4 s0 = if s0 = 0 ∨ s0 = 1 then if ((zm_w I 0 0 s0) 0 0) = 0 then zv_X5_sort_PR_114 (zm_w I 0 0 s0) J l2 l3 l4 else zv_X5_sort_PR_99 (zm_w I 0 0 s0) J l2 l3 l4 else none := (zm_V_eq _ _ _).trans ((fun (k : zm_S → zm_R) => (rfl : zm_step zT_X5_sort zW_PR k (89, [some (.ref 0), some (.ref 3), some (.int l2), some (.int l3), some (.int l4)], [.int s0, .ref 0], (I, J)) = if s0 = 0 ∨ s0 = 1 then if ((zm_w I 0 0 s0) 0 0) = 0 then k (114, [some (.ref 0), some (.ref 3), some (.int l2), some (.int l3), some (.int l4)], [], ((zm_w I 0 0 s0), J)) else k (99, [some (.ref 0), some (.ref 3), some (.int l2), some (.int l3), some (.int l4)], [], ((zm_w I 0 0 s0), J)) else none)) (zm_V zT_X5_sort zW_PR))
theorem zq_X5_sort_PR_99 (I : Nat → Nat → Int32) (J : Nat → Nat → Int64) (l2 : Int32) (l3 : Int32) (l4 : Int32) : zv_X5_sort_PR_99 I J l2 l3 l4 = if (l3 : Int32) < 0 ∨ 10 ≤ Int32.toNatClampNeg l3 then none else zv_X5_sort_PR_114 (zm_w I 1 (Int32.toNatClampNeg l3) l4) J (l2 ||| (1 <<< (l4 &&& 31))) l3 l4 := (zm_V_eq _ _ _).trans ((fun (k : zm_S → zm_R) => (rfl : zm_step zT_X5_sort zW_PR k (99, [some (.ref 0), some (.ref 3), some (.int l2), some (.int l3), some (.int l4)], [], (I, J)) = if (l3 : Int32) < 0 ∨ 10 ≤ Int32.toNatClampNeg l3 then none else k (114, [some (.ref 0), some (.ref 3), some (.int (l2 ||| (1 <<< (l4 &&& 31)))), some (.int l3), some (.int l4)], [], ((zm_w I 1 (Int32.toNatClampNeg l3) l4), J)))) (zm_V zT_X5_sort zW_PR))
theorem zq_X5_sort_PR_114 (I : Nat → Nat → Int32) (J : Nat → Nat → Int64) (l2 : Int32) (l3 : Int32) (l4 : Int32) : zv_X5_sort_PR_114 I J l2 l3 l4 = zv_X5_sort_PR_57 I J l2 (l3 + 1) (some (.int l4)) := (zm_V_eq _ _ _).trans ((fun (k : zm_S → zm_R) => (rfl : zm_step zT_X5_sort zW_PR k (114, [some (.ref 0), some (.ref 3), some (.int l2), some (.int l3), some (.int l4)], [], (I, J)) = k (57, [some (.ref 0), some (.ref 3), some (.int l2), some (.int (l3 + 1)), some (.int l4)], [], (I, J)))) (zm_V zT_X5_sort zW_PR))
theorem zq_X5_sort_PR_120 (I : Nat → Nat → Int32) (J : Nat → Nat → Int64) (l2 : Int32) (l3 : Int32) (l4 : Option Value) : zv_X5_sort_PR_120 I J l2 l3 l4 = some (none, (I, J)) := (zm_V_eq _ _ _).trans ((fun (k : zm_S → zm_R) => (rfl : zm_step zT_X5_sort zW_PR k (120, [some (.ref 0), some (.ref 3), some (.int l2), some (.int l3), l4], [], (I, J)) = some (none, (I, J)))) (zm_V zT_X5_sort zW_PR))
theorem zf_X5_sort_PR (I : Nat → Nat → Int32) (J : Nat → Nat → Int64) : zF_X5_sort zW_PR [.ref 0, .ref 3] (I, J) = zv_X5_sort_PR_0 I J := rfl
noncomputable def zv_X6_turn_LB_0 (I : Nat → Nat → Int32) (J : Nat → Nat → Int64) (l2 : Int32) : zm_R := zm_V zT_X6_turn zW_LB (0, [some (.ref 0), some (.ref 4), some (.int l2), none, none], [], (I, J))
noncomputable def zv_X6_turn_LB_7 (I : Nat → Nat → Int32) (J : Nat → Nat → Int64) (l2 : Int32) (l3 : Int32) : zm_R := zm_V zT_X6_turn zW_LB (7, [some (.ref 0), some (.ref 4), some (.int l2), some (.int l3), none], [], (I, J))
noncomputable def zv_X6_turn_LB_12 (I : Nat → Nat → Int32) (J : Nat → Nat → Int64) (l2 : Int32) (l3 : Int32) : zm_R := zm_V zT_X6_turn zW_LB (12, [some (.ref 0), some (.ref 4), some (.int l2), some (.int l3), none], [], (I, J))
noncomputable def zv_X6_turn_LB_30 (I : Nat → Nat → Int32) (J : Nat → Nat → Int64) (l2 : Int32) (l3 : Int32) : zm_R := zm_V zT_X6_turn zW_LB (30, [some (.ref 0), some (.ref 4), some (.int l2), some (.int l3), none], [], (I, J))
noncomputable def zv_X6_turn_LB_32 (I : Nat → Nat → Int32) (J : Nat → Nat → Int64) (l2 : Int32) (l3 : Int32) (l4 : Option Value) : zm_R := zm_V zT_X6_turn zW_LB (32, [some (.ref 0), some (.ref 4), some (.int l2), some (.int l3), l4], [], (I, J))
noncomputable def zv_X6_turn_LB_36 (I : Nat → Nat → Int32) (J : Nat → Nat → Int64) (l2 : Int32) (l3 : Int32) (l4 : Option Value) : zm_R := zm_V zT_X6_turn zW_LB (36, [some (.ref 0), some (.ref 4), some (.int l2), some (.int l3), l4], [], (I, J))
noncomputable def zv_X6_turn_LB_69 (I : Nat → Nat → Int32) (J : Nat → Nat → Int64) (l2 : Int32) (l3 : Int32) (l4 : Int32) : zm_R := zm_V zT_X6_turn zW_LB (69, [some (.ref 0), some (.ref 4), some (.int l2), some (.int l3), some (.int l4)], [], (I, J))
noncomputable def zv_X6_turn_LB_71 (I : Nat → Nat → Int32) (J : Nat → Nat → Int64) (l2 : Int32) (l3 : Int32) (l4 : Int32) : zm_R := zm_V zT_X6_turn zW_LB (71, [some (.ref 0), some (.ref 4), some (.int l2), some (.int l3), some (.int l4)], [], (I, J))
noncomputable def zv_X6_turn_LB_85 (I : Nat → Nat → Int32) (J : Nat → Nat → Int64) (l2 : Int32) (l3 : Int32) (l4 : Option Value) : zm_R := zm_V zT_X6_turn zW_LB (85, [some (.ref 0), some (.ref 4), some (.int l2), some (.int l3), l4], [], (I, J))
theorem zq_X6_turn_LB_0 (I : Nat → Nat → Int32) (J : Nat → Nat → Int64) (l2 : Int32) : zv_X6_turn_LB_0 I J l2 = zv_X6_turn_LB_7 I J l2 ((I 4 6) - 1) := (zm_V_eq _ _ _).trans ((fun (k : zm_S → zm_R) => (rfl : zm_step zT_X6_turn zW_LB k (0, [some (.ref 0), some (.ref 4), some (.int l2), none, none], [], (I, J)) = k (7, [some (.ref 0), some (.ref 4), some (.int l2), some (.int ((I 4 6) - 1)), none], [], (I, J)))) (zm_V zT_X6_turn zW_LB))
theorem zq_X6_turn_LB_7 (I : Nat → Nat → Int32) (J : Nat → Nat → Int64) (l2 : Int32) (l3 : Int32) : zv_X6_turn_LB_7 I J l2 l3 = if l3 ≤ l2 then zv_X6_turn_LB_30 I J l2 l3 else zv_X6_turn_LB_12 I J l2 l3 := (zm_V_eq _ _ _).trans ((fun (k : zm_S → zm_R) => (rfl : zm_step zT_X6_turn zW_LB k (7, [some (.ref 0), some (.ref 4), some (.int l2), some (.int l3), none], [], (I, J)) = if l3 ≤ l2 then k (30, [some (.ref 0), some (.ref 4), some (.int l2), some (.int l3), none], [], (I, J)) else k (12, [some (.ref 0), some (.ref 4), some (.int l2), some (.int l3), none], [], (I, J)))) (zm_V zT_X6_turn zW_LB))
theorem zq_X6_turn_LB_12 (I : Nat → Nat → Int32) (J : Nat → Nat → Int64) (l2 : Int32) (l3 : Int32) : zv_X6_turn_LB_12 I J l2 l3 = if (l3 : Int32) < 0 ∨ 5 ≤ Int32.toNatClampNeg l3 then none else if ((I 2 (Int32.toNatClampNeg l3)) : Int32) < 0 ∨ 5 ≤ Int32.toNatClampNeg (I 2 (Int32.toNatClampNeg l3)) then none else zv_X6_turn_LB_7 (zm_w I 8 (Int32.toNatClampNeg (I 2 (Int32.toNatClampNeg l3))) 0) J l2 (l3 + (-1)) := (zm_V_eq _ _ _).trans ((fun (k : zm_S → zm_R) => (rfl : zm_step zT_X6_turn zW_LB k (12, [some (.ref 0), some (.ref 4), some (.int l2), some (.int l3), none], [], (I, J)) = if (l3 : Int32) < 0 ∨ 5 ≤ Int32.toNatClampNeg l3 then none else if ((I 2 (Int32.toNatClampNeg l3)) : Int32) < 0 ∨ 5 ≤ Int32.toNatClampNeg (I 2 (Int32.toNatClampNeg l3)) then none else k (7, [some (.ref 0), some (.ref 4), some (.int l2), some (.int (l3 + (-1))), none], [], ((zm_w I 8 (Int32.toNatClampNeg (I 2 (Int32.toNatClampNeg l3))) 0), J)))) (zm_V zT_X6_turn zW_LB))
theorem zq_X6_turn_LB_30 (I : Nat → Nat → Int32) (J : Nat → Nat → Int64) (l2 : Int32) (l3 : Int32) : zv_X6_turn_LB_30 I J l2 l3 = zv_X6_turn_LB_32 I J l2 l2 none := (zm_V_eq _ _ _).trans ((fun (k : zm_S → zm_R) => (rfl : zm_step zT_X6_turn zW_LB k (30, [some (.ref 0), some (.ref 4), some (.int l2), some (.int l3), none], [], (I, J)) = k (32, [some (.ref 0), some (.ref 4), some (.int l2), some (.int l2), none], [], (I, J)))) (zm_V zT_X6_turn zW_LB))
theorem zq_X6_turn_LB_32 (I : Nat → Nat → Int32) (J : Nat → Nat → Int64) (l2 : Int32) (l3 : Int32) (l4 : Option Value) : zv_X6_turn_LB_32 I J l2 l3 l4 = if l3 < 0 then zv_X6_turn_LB_85 I J l2 l3 l4 else zv_X6_turn_LB_36 I J l2 l3 l4 := (zm_V_eq _ _ _).trans ((fun (k : zm_S → zm_R) => (rfl : zm_step zT_X6_turn zW_LB k (32, [some (.ref 0), some (.ref 4), some (.int l2), some (.int l3), l4], [], (I, J)) = if l3 < 0 then k (85, [some (.ref 0), some (.ref 4), some (.int l2), some (.int l3), l4], [], (I, J)) else k (36, [some (.ref 0), some (.ref 4), some (.int l2), some (.int l3), l4], [], (I, J)))) (zm_V zT_X6_turn zW_LB))
theorem zq_X6_turn_LB_36 (I : Nat → Nat → Int32) (J : Nat → Nat → Int64) (l2 : Int32) (l3 : Int32) (l4 : Option Value) : zv_X6_turn_LB_36 I J l2 l3 l4 = if (l3 : Int32) < 0 ∨ 5 ≤ Int32.toNatClampNeg l3 then none else if ((I 2 (Int32.toNatClampNeg l3)) : Int32) < 0 ∨ 5 ≤ Int32.toNatClampNeg (I 2 (Int32.toNatClampNeg l3)) then none else if ((I 2 (Int32.toNatClampNeg l3)) : Int32) < 0 ∨ 5 ≤ Int32.toNatClampNeg (I 2 (Int32.toNatClampNeg l3)) then none else if ((I 2 (Int32.toNatClampNeg l3)) : Int32) < 0 ∨ 5 ≤ Int32.toNatClampNeg (I 2 (Int32.toNatClampNeg l3)) then none else if ((zm_w I 8 (Int32.toNatClampNeg (I 2 (Int32.toNatClampNeg l3))) ((I 8 (Int32.toNatClampNeg (I 2 (Int32.toNatClampNeg l3)))) + 1)) 4 5) ≤ ((zm_w I 8 (Int32.toNatClampNeg (I 2 (Int32.toNatClampNeg l3))) ((I 8 (Int32.toNatClampNeg (I 2 (Int32.toNatClampNeg l3)))) + 1)) 8 (Int32.toNatClampNeg (I 2 (Int32.toNatClampNeg l3)))) then zv_X6_turn_LB_71 (zm_w I 8 (Int32.toNatClampNeg (I 2 (Int32.toNatClampNeg l3))) ((I 8 (Int32.toNatClampNeg (I 2 (Int32.toNatClampNeg l3)))) + 1)) J l2 l3 (I 2 (Int32.toNatClampNeg l3)) else zv_X6_turn_LB_69 (zm_w I 8 (Int32.toNatClampNeg (I 2 (Int32.toNatClampNeg l3))) ((I 8 (Int32.toNatClampNeg (I 2 (Int32.toNatClampNeg l3)))) + 1)) J l2 l3 (I 2 (Int32.toNatClampNeg l3)) := (zm_V_eq _ _ _).trans ((fun (k : zm_S → zm_R) => (rfl : zm_step zT_X6_turn zW_LB k (36, [some (.ref 0), some (.ref 4), some (.int l2), some (.int l3), l4], [], (I, J)) = if (l3 : Int32) < 0 ∨ 5 ≤ Int32.toNatClampNeg l3 then none else if ((I 2 (Int32.toNatClampNeg l3)) : Int32) < 0 ∨ 5 ≤ Int32.toNatClampNeg (I 2 (Int32.toNatClampNeg l3)) then none else if ((I 2 (Int32.toNatClampNeg l3)) : Int32) < 0 ∨ 5 ≤ Int32.toNatClampNeg (I 2 (Int32.toNatClampNeg l3)) then none else if ((I 2 (Int32.toNatClampNeg l3)) : Int32) < 0 ∨ 5 ≤ Int32.toNatClampNeg (I 2 (Int32.toNatClampNeg l3)) then none else if ((zm_w I 8 (Int32.toNatClampNeg (I 2 (Int32.toNatClampNeg l3))) ((I 8 (Int32.toNatClampNeg (I 2 (Int32.toNatClampNeg l3)))) + 1)) 4 5) ≤ ((zm_w I 8 (Int32.toNatClampNeg (I 2 (Int32.toNatClampNeg l3))) ((I 8 (Int32.toNatClampNeg (I 2 (Int32.toNatClampNeg l3)))) + 1)) 8 (Int32.toNatClampNeg (I 2 (Int32.toNatClampNeg l3)))) then k (71, [some (.ref 0), some (.ref 4), some (.int l2), some (.int l3), some (.int (I 2 (Int32.toNatClampNeg l3)))], [], ((zm_w I 8 (Int32.toNatClampNeg (I 2 (Int32.toNatClampNeg l3))) ((I 8 (Int32.toNatClampNeg (I 2 (Int32.toNatClampNeg l3)))) + 1)), J)) else k (69, [some (.ref 0), some (.ref 4), some (.int l2), some (.int l3), some (.int (I 2 (Int32.toNatClampNeg l3)))], [], ((zm_w I 8 (Int32.toNatClampNeg (I 2 (Int32.toNatClampNeg l3))) ((I 8 (Int32.toNatClampNeg (I 2 (Int32.toNatClampNeg l3)))) + 1)), J)))) (zm_V zT_X6_turn zW_LB))
theorem zq_X6_turn_LB_69 (I : Nat → Nat → Int32) (J : Nat → Nat → Int64) (l2 : Int32) (l3 : Int32) (l4 : Int32) : zv_X6_turn_LB_69 I J l2 l3 l4 = some (some (.int 1), (I, J)) := (zm_V_eq _ _ _).trans ((fun (k : zm_S → zm_R) => (rfl : zm_step zT_X6_turn zW_LB k (69, [some (.ref 0), some (.ref 4), some (.int l2), some (.int l3), some (.int l4)], [], (I, J)) = some (some (.int 1), (I, J)))) (zm_V zT_X6_turn zW_LB))
theorem zq_X6_turn_LB_71 (I : Nat → Nat → Int32) (J : Nat → Nat → Int64) (l2 : Int32) (l3 : Int32) (l4 : Int32) : zv_X6_turn_LB_71 I J l2 l3 l4 = if (l4 : Int32) < 0 ∨ 5 ≤ Int32.toNatClampNeg l4 then none else zv_X6_turn_LB_32 (zm_w I 8 (Int32.toNatClampNeg l4) 0) J l2 (l3 + (-1)) (some (.int l4)) := (zm_V_eq _ _ _).trans ((fun (k : zm_S → zm_R) => (rfl : zm_step zT_X6_turn zW_LB k (71, [some (.ref 0), some (.ref 4), some (.int l2), some (.int l3), some (.int l4)], [], (I, J)) = if (l4 : Int32) < 0 ∨ 5 ≤ Int32.toNatClampNeg l4 then none else k (32, [some (.ref 0), some (.ref 4), some (.int l2), some (.int (l3 + (-1))), some (.int l4)], [], ((zm_w I 8 (Int32.toNatClampNeg l4) 0), J)))) (zm_V zT_X6_turn zW_LB))
theorem zq_X6_turn_LB_85 (I : Nat → Nat → Int32) (J : Nat → Nat → Int64) (l2 : Int32) (l3 : Int32) (l4 : Option Value) : zv_X6_turn_LB_85 I J l2 l3 l4 = some (some (.int 0), (I, J)) := (zm_V_eq _ _ _).trans ((fun (k : zm_S → zm_R) => (rfl : zm_step zT_X6_turn zW_LB k (85, [some (.ref 0), some (.ref 4), some (.int l2), some (.int l3), l4], [], (I, J)) = some (some (.int 0), (I, J)))) (zm_V zT_X6_turn zW_LB))
theorem zf_X6_turn_LB (I : Nat → Nat → Int32) (J : Nat → Nat → Int64) (l2 : Int32) : zF_X6_turn zW_LB [.ref 0, .ref 4, .int l2] (I, J) = zv_X6_turn_LB_0 I J l2 := rfl
noncomputable def zv_X3_ageAt_Y_0 (I : Nat → Nat → Int32) (J : Nat → Nat → Int64) (l1 : Int32) (l2 : Int32) : zm_R := zm_V zT_X3_ageAt zW_Y (0, [some (.ref 0), some (.int l1), some (.int l2)], [], (I, J))
theorem zq_X3_ageAt_Y_0 (I : Nat → Nat → Int32) (J : Nat → Nat → Int64) (l1 : Int32) (l2 : Int32) : zv_X3_ageAt_Y_0 I J l1 l2 = if (((l2 * 5) + l1) : Int32) < 0 ∨ 305 ≤ Int32.toNatClampNeg ((l2 * 5) + l1) then none else some (some (.int (I 9 (Int32.toNatClampNeg ((l2 * 5) + l1)))), (I, J)) := (zm_V_eq _ _ _).trans ((fun (k : zm_S → zm_R) => (rfl : zm_step zT_X3_ageAt zW_Y k (0, [some (.ref 0), some (.int l1), some (.int l2)], [], (I, J)) = if (((l2 * 5) + l1) : Int32) < 0 ∨ 305 ≤ Int32.toNatClampNeg ((l2 * 5) + l1) then none else some (some (.int (I 9 (Int32.toNatClampNeg ((l2 * 5) + l1)))), (I, J)))) (zm_V zT_X3_ageAt zW_Y))
theorem zf_X3_ageAt_Y (I : Nat → Nat → Int32) (J : Nat → Nat → Int64) (l1 : Int32) (l2 : Int32) : zF_X3_ageAt zW_Y [.ref 0, .int l1, .int l2] (I, J) = zv_X3_ageAt_Y_0 I J l1 l2 := rfl
noncomputable def zv_X9_hasBench_X_0 (I : Nat → Nat → Int32) (J : Nat → Nat → Int64) : zm_R := zm_V zT_X9_hasBench zW_X (0, [some (.ref 0)], [], (I, J))
noncomputable def zv_X9_hasBench_X_10 (I : Nat → Nat → Int32) (J : Nat → Nat → Int64) : zm_R := zm_V zT_X9_hasBench zW_X (10, [some (.ref 0)], [], (I, J))
noncomputable def zv_X9_hasBench_X_14 (I : Nat → Nat → Int32) (J : Nat → Nat → Int64) : zm_R := zm_V zT_X9_hasBench zW_X (14, [some (.ref 0)], [], (I, J))
noncomputable def zv_X9_hasBench_X_15 (I : Nat → Nat → Int32) (J : Nat → Nat → Int64) (s0 : Int32) : zm_R := zm_V zT_X9_hasBench zW_X (15, [some (.ref 0)], [.int s0], (I, J))
set_option maxRecDepth 20000 in
theorem zq_X9_hasBench_X_0 (I : Nat → Nat → Int32) (J : Nat → Nat → Int64) : zv_X9_hasBench_X_0 I J = if (I 1 0) ≤ 0 then zv_X9_hasBench_X_14 I J else zv_X9_hasBench_X_10 I J := (zm_V_eq _ _ _).trans ((fun (k : zm_S → zm_R) => (rfl : zm_step zT_X9_hasBench zW_X k (0, [some (.ref 0)], [], (I, J)) = if (I 1 0) ≤ 0 then k (14, [some (.ref 0)], [], (I, J)) else k (10, [some (.ref 0)], [], (I, J)))) (zm_V zT_X9_hasBench zW_X))
set_option maxRecDepth 20000 in
theorem zq_X9_hasBench_X_10 (I : Nat → Nat → Int32) (J : Nat → Nat → Int64) : zv_X9_hasBench_X_10 I J = zv_X9_hasBench_X_15 I J 1 := (zm_V_eq _ _ _).trans ((fun (k : zm_S → zm_R) => (rfl : zm_step zT_X9_hasBench zW_X k (10, [some (.ref 0)], [], (I, J)) = k (15, [some (.ref 0)], [.int 1], (I, J)))) (zm_V zT_X9_hasBench zW_X))
set_option maxRecDepth 20000 in
theorem zq_X9_hasBench_X_14 (I : Nat → Nat → Int32) (J : Nat → Nat → Int64) : zv_X9_hasBench_X_14 I J = zv_X9_hasBench_X_15 I J 0 := (zm_V_eq _ _ _).trans ((fun (k : zm_S → zm_R) => (rfl : zm_step zT_X9_hasBench zW_X k (14, [some (.ref 0)], [], (I, J)) = k (15, [some (.ref 0)], [.int 0], (I, J)))) (zm_V zT_X9_hasBench zW_X))
set_option maxRecDepth 20000 in
theorem zq_X9_hasBench_X_15 (I : Nat → Nat → Int32) (J : Nat → Nat → Int64) (s0 : Int32) : zv_X9_hasBench_X_15 I J s0 = if s0 = 0 ∨ s0 = 1 then some (some (.int s0), (I, J)) else none := (zm_V_eq _ _ _).trans ((fun (k : zm_S → zm_R) => (rfl : zm_step zT_X9_hasBench zW_X k (15, [some (.ref 0)], [.int s0], (I, J)) = if s0 = 0 ∨ s0 = 1 then some (some (.int s0), (I, J)) else none)) (zm_V zT_X9_hasBench zW_X))
theorem zf_X9_hasBench_X (I : Nat → Nat → Int32) (J : Nat → Nat → Int64) : zF_X9_hasBench zW_X [.ref 0] (I, J) = zv_X9_hasBench_X_0 I J := rfl
noncomputable def zv_X9_refusalOfSights_X_0 (I : Nat → Nat → Int32) (J : Nat → Nat → Int64) (h : Nat) : zm_R := zm_V zT_X9_refusalOfSights zW_X (0, [some (.ref 0), some (.ref h), none], [], (I, J))
noncomputable def zv_X9_refusalOfSights_X_4 (I : Nat → Nat → Int32) (J : Nat → Nat → Int64) (h : Nat) : zm_R := zm_V zT_X9_refusalOfSights zW_X (4, [some (.ref 0), some (.ref h), none], [], (I, J))
noncomputable def zv_X9_refusalOfSights_X_8 (I : Nat → Nat → Int32) (J : Nat → Nat → Int64) (h : Nat) (s0 : Int32) : zm_R := zm_V zT_X9_refusalOfSights zW_X (8, [some (.ref 0), some (.ref h), none], [.int s0], (I, J))
noncomputable def zv_X9_refusalOfSights_X_11 (I : Nat → Nat → Int32) (J : Nat → Nat → Int64) (h : Nat) : zm_R := zm_V zT_X9_refusalOfSights zW_X (11, [some (.ref 0), some (.ref h), none], [], (I, J))
noncomputable def zv_X9_refusalOfSights_X_14 (I : Nat → Nat → Int32) (J : Nat → Nat → Int64) (h : Nat) : zm_R := zm_V zT_X9_refusalOfSights zW_X (14, [some (.ref 0), some (.ref h), none], [], (I, J))
noncomputable def zv_X9_refusalOfSights_X_18 (I : Nat → Nat → Int32) (J : Nat → Nat → Int64) (h : Nat) (s0 : Int32) : zm_R := zm_V zT_X9_refusalOfSights zW_X (18, [some (.ref 0), some (.ref h), none], [.int s0], (I, J))
noncomputable def zv_X9_refusalOfSights_X_21 (I : Nat → Nat → Int32) (J : Nat → Nat → Int64) (h : Nat) : zm_R := zm_V zT_X9_refusalOfSights zW_X (21, [some (.ref 0), some (.ref h), none], [], (I, J))
noncomputable def zv_X9_refusalOfSights_X_24 (I : Nat → Nat → Int32) (J : Nat → Nat → Int64) (h : Nat) : zm_R := zm_V zT_X9_refusalOfSights zW_X (24, [some (.ref 0), some (.ref h), none], [], (I, J))
noncomputable def zv_X9_refusalOfSights_X_33 (I : Nat → Nat → Int32) (J : Nat → Nat → Int64) (h : Nat) : zm_R := zm_V zT_X9_refusalOfSights zW_X (33, [some (.ref 0), some (.ref h), none], [], (I, J))
noncomputable def zv_X9_refusalOfSights_X_36 (I : Nat → Nat → Int32) (J : Nat → Nat → Int64) (h : Nat) : zm_R := zm_V zT_X9_refusalOfSights zW_X (36, [some (.ref 0), some (.ref h), none], [], (I, J))
noncomputable def zv_X9_refusalOfSights_X_38 (I : Nat → Nat → Int32) (J : Nat → Nat → Int64) (h : Nat) (l2 : Int32) : zm_R := zm_V zT_X9_refusalOfSights zW_X (38, [some (.ref 0), some (.ref h), some (.int l2)], [], (I, J))
noncomputable def zv_X9_refusalOfSights_X_48 (I : Nat → Nat → Int32) (J : Nat → Nat → Int64) (h : Nat) (l2 : Int32) : zm_R := zm_V zT_X9_refusalOfSights zW_X (48, [some (.ref 0), some (.ref h), some (.int l2)], [], (I, J))
noncomputable def zv_X9_refusalOfSights_X_63 (I : Nat → Nat → Int32) (J : Nat → Nat → Int64) (h : Nat) (l2 : Int32) (s0 : Int32) : zm_R := zm_V zT_X9_refusalOfSights zW_X (63, [some (.ref 0), some (.ref h), some (.int l2)], [.int s0], (I, J))
noncomputable def zv_X9_refusalOfSights_X_66 (I : Nat → Nat → Int32) (J : Nat → Nat → Int64) (h : Nat) (l2 : Int32) : zm_R := zm_V zT_X9_refusalOfSights zW_X (66, [some (.ref 0), some (.ref h), some (.int l2)], [], (I, J))
noncomputable def zv_X9_refusalOfSights_X_76 (I : Nat → Nat → Int32) (J : Nat → Nat → Int64) (h : Nat) (l2 : Int32) (s0 : Int32) : zm_R := zm_V zT_X9_refusalOfSights zW_X (76, [some (.ref 0), some (.ref h), some (.int l2)], [.int s0], (I, J))
noncomputable def zv_X9_refusalOfSights_X_79 (I : Nat → Nat → Int32) (J : Nat → Nat → Int64) (h : Nat) (l2 : Int32) : zm_R := zm_V zT_X9_refusalOfSights zW_X (79, [some (.ref 0), some (.ref h), some (.int l2)], [], (I, J))
noncomputable def zv_X9_refusalOfSights_X_89 (I : Nat → Nat → Int32) (J : Nat → Nat → Int64) (h : Nat) (l2 : Int32) (s0 : Int32) : zm_R := zm_V zT_X9_refusalOfSights zW_X (89, [some (.ref 0), some (.ref h), some (.int l2)], [.int s0], (I, J))
noncomputable def zv_X9_refusalOfSights_X_92 (I : Nat → Nat → Int32) (J : Nat → Nat → Int64) (h : Nat) (l2 : Int32) : zm_R := zm_V zT_X9_refusalOfSights zW_X (92, [some (.ref 0), some (.ref h), some (.int l2)], [], (I, J))
noncomputable def zv_X9_refusalOfSights_X_95 (I : Nat → Nat → Int32) (J : Nat → Nat → Int64) (h : Nat) (l2 : Int32) : zm_R := zm_V zT_X9_refusalOfSights zW_X (95, [some (.ref 0), some (.ref h), some (.int l2)], [], (I, J))
noncomputable def zv_X9_refusalOfSights_X_101 (I : Nat → Nat → Int32) (J : Nat → Nat → Int64) (h : Nat) (l2 : Int32) : zm_R := zm_V zT_X9_refusalOfSights zW_X (101, [some (.ref 0), some (.ref h), some (.int l2)], [], (I, J))
set_option maxRecDepth 20000 in
theorem zq_X9_refusalOfSights_X_0 (I : Nat → Nat → Int32) (J : Nat → Nat → Int64) (h : Nat) (hh : zm_isRow h) : zv_X9_refusalOfSights_X_0 I J h = zv_X9_refusalOfSights_X_4 I J h := by
  have key : ∀ (h : Nat), zm_isRow h → ∀ k : zm_S → zm_R, zm_step zT_X9_refusalOfSights zW_X k (0, [some (.ref 0), some (.ref h), none], [], (I, J)) = k (4, [some (.ref 0), some (.ref h), none], [], (I, J)) := by
    intro h hh
    rcases hh with rfl | rfl | rfl | rfl <;> (intro k; rfl)
  exact (zm_V_eq _ _ _).trans (key h hh _)
set_option maxRecDepth 20000 in
theorem zc_X9_refusalOfSights_X_4 (I : Nat → Nat → Int32) (J : Nat → Nat → Int64) (h : Nat) (hh : zm_isRow h) {I2 : Nat → Nat → Int32} {J2 : Nat → Nat → Int64} {r : Int32} (hF : zF_X9_hasBench zW_X [.ref 0] (I, J) = some (some (.int r), (I2, J2))) : zv_X9_refusalOfSights_X_4 I J h = zv_X9_refusalOfSights_X_8 I2 J2 h r := by
  have e : ∀ (h : Nat), zm_isRow h → ∀ k : zm_S → zm_R, zm_step zT_X9_refusalOfSights zW_X k (4, [some (.ref 0), some (.ref h), none], [], (I, J)) = zm_app (1, some 9, true, [], zF_X9_hasBench) zW_X [.ref 0] (I, J) (fun v N => k (8, [some (.ref 0), some (.ref h), none], v.toList ++ [], N)) := by
    intro h hh
    rcases hh with rfl | rfl | rfl | rfl <;> (intro k; rfl)
  have r9 : zm_recv zW_X [.ref 0] (some 9) = true := by
    clear hF e
    revert hh; intro hh; rcases hh with rfl | rfl | rfl | rfl <;> rfl
  have g := zm_app_s (C := (1, some 9, true, [], zF_X9_hasBench)) (wl := zW_X) (as := [.ref 0]) (M := (I, J)) (k := fun v N => zm_V zT_X9_refusalOfSights zW_X (8, [some (.ref 0), some (.ref h), none], v.toList ++ [], N)) r9 rfl hF
  exact (zm_V_eq _ _ _).trans ((e h hh _).trans g)
set_option maxRecDepth 20000 in
theorem zq_X9_refusalOfSights_X_8 (I : Nat → Nat → Int32) (J : Nat → Nat → Int64) (h : Nat) (s0 : Int32) (hh : zm_isRow h) : zv_X9_refusalOfSights_X_8 I J h s0 = if s0 = 0 then zv_X9_refusalOfSights_X_11 I J h else zv_X9_refusalOfSights_X_14 I J h := by
  have key : ∀ (h : Nat), zm_isRow h → ∀ k : zm_S → zm_R, zm_step zT_X9_refusalOfSights zW_X k (8, [some (.ref 0), some (.ref h), none], [.int s0], (I, J)) = if s0 = 0 then k (11, [some (.ref 0), some (.ref h), none], [], (I, J)) else k (14, [some (.ref 0), some (.ref h), none], [], (I, J)) := by
    intro h hh
    rcases hh with rfl | rfl | rfl | rfl <;> (intro k; rfl)
  exact (zm_V_eq _ _ _).trans (key h hh _)
set_option maxRecDepth 20000 in
theorem zq_X9_refusalOfSights_X_11 (I : Nat → Nat → Int32) (J : Nat → Nat → Int64) (h : Nat) (hh : zm_isRow h) : zv_X9_refusalOfSights_X_11 I J h = some (some (.int (-2)), (I, J)) := by
  have key : ∀ (h : Nat), zm_isRow h → ∀ k : zm_S → zm_R, zm_step zT_X9_refusalOfSights zW_X k (11, [some (.ref 0), some (.ref h), none], [], (I, J)) = some (some (.int (-2)), (I, J)) := by
    intro h hh
    rcases hh with rfl | rfl | rfl | rfl <;> (intro k; rfl)
  exact (zm_V_eq _ _ _).trans (key h hh _)
set_option maxRecDepth 20000 in
theorem zc_X9_refusalOfSights_X_14 (I : Nat → Nat → Int32) (J : Nat → Nat → Int64) (h : Nat) (hh : zm_isRow h) {N : zm_I} {r : Int32} (hF : zF_X7_isMade zW_R [.ref 0] (zm_sub2 [(h, 2)] (I, J)) = some (some (.int r), N)) : zv_X9_refusalOfSights_X_14 I J h = zv_X9_refusalOfSights_X_18 (zm_mrg [(h, 2)] (I, J) N).1 (zm_mrg [(h, 2)] (I, J) N).2 h r := by
  have e : ∀ (h : Nat), zm_isRow h → ∀ k : zm_S → zm_R, zm_step zT_X9_refusalOfSights zW_X k (14, [some (.ref 0), some (.ref h), none], [], (I, J)) = zm_app (1, some 7, false, [(0, 2)], zF_X7_isMade) zW_X [.ref h] (I, J) (fun v N => k (18, [some (.ref 0), some (.ref h), none], v.toList ++ [], N)) := by
    intro h hh
    rcases hh with rfl | rfl | rfl | rfl <;> (intro k; rfl)
  have r9 : zm_recv zW_X [.ref h] (some 7) = true ∧ (zm_dis [(h, 2)] && zm_bound (List.length zW_X) [(h, 2)]) = true ∧ zm_sub [(h, 2)] zW_X = zW_R ∧ List.map (zm_tr [(h, 2)]) [.ref h] = [.ref 0] := by
    clear hF e
    rcases hh with rfl | rfl | rfl | rfl <;> exact ⟨rfl, rfl, rfl, rfl⟩
  have g := zm_app_l (C := (1, some 7, false, [(0, 2)], zF_X7_isMade)) (wl := zW_X) (as := [.ref h]) (wc := zW_R) (ac := [.ref 0]) (bs := [(h, 2)]) (M := (I, J)) (k := fun v N => zm_V zT_X9_refusalOfSights zW_X (18, [some (.ref 0), some (.ref h), none], v.toList ++ [], N)) r9.1 rfl rfl r9.2.1 r9.2.2.1 r9.2.2.2 hF
  exact (zm_V_eq _ _ _).trans ((e h hh _).trans g)
set_option maxRecDepth 20000 in
theorem zq_X9_refusalOfSights_X_18 (I : Nat → Nat → Int32) (J : Nat → Nat → Int64) (h : Nat) (s0 : Int32) (hh : zm_isRow h) : zv_X9_refusalOfSights_X_18 I J h s0 = if s0 = 0 then zv_X9_refusalOfSights_X_21 I J h else zv_X9_refusalOfSights_X_24 I J h := by
  have key : ∀ (h : Nat), zm_isRow h → ∀ k : zm_S → zm_R, zm_step zT_X9_refusalOfSights zW_X k (18, [some (.ref 0), some (.ref h), none], [.int s0], (I, J)) = if s0 = 0 then k (21, [some (.ref 0), some (.ref h), none], [], (I, J)) else k (24, [some (.ref 0), some (.ref h), none], [], (I, J)) := by
    intro h hh
    rcases hh with rfl | rfl | rfl | rfl <;> (intro k; rfl)
  exact (zm_V_eq _ _ _).trans (key h hh _)
set_option maxRecDepth 20000 in
theorem zq_X9_refusalOfSights_X_21 (I : Nat → Nat → Int32) (J : Nat → Nat → Int64) (h : Nat) (hh : zm_isRow h) : zv_X9_refusalOfSights_X_21 I J h = some (some (.int (-6)), (I, J)) := by
  have key : ∀ (h : Nat), zm_isRow h → ∀ k : zm_S → zm_R, zm_step zT_X9_refusalOfSights zW_X k (21, [some (.ref 0), some (.ref h), none], [], (I, J)) = some (some (.int (-6)), (I, J)) := by
    intro h hh
    rcases hh with rfl | rfl | rfl | rfl <;> (intro k; rfl)
  exact (zm_V_eq _ _ _).trans (key h hh _)
set_option maxRecDepth 20000 in
theorem zq_X9_refusalOfSights_X_24 (I : Nat → Nat → Int32) (J : Nat → Nat → Int64) (h : Nat) (hh : zm_isRow h) : zv_X9_refusalOfSights_X_24 I J h = if ((I h 1) - (I h 1) / 3 * 3) = 0 then zv_X9_refusalOfSights_X_36 I J h else zv_X9_refusalOfSights_X_33 I J h := by
  have key : ∀ (h : Nat), zm_isRow h → ∀ k : zm_S → zm_R, zm_step zT_X9_refusalOfSights zW_X k (24, [some (.ref 0), some (.ref h), none], [], (I, J)) = if ((I h 1) - (I h 1) / 3 * 3) = 0 then k (36, [some (.ref 0), some (.ref h), none], [], (I, J)) else k (33, [some (.ref 0), some (.ref h), none], [], (I, J)) := by
    intro h hh
    rcases hh with rfl | rfl | rfl | rfl <;> (intro k; rfl)
  exact (zm_V_eq _ _ _).trans (key h hh _)
set_option maxRecDepth 20000 in
theorem zq_X9_refusalOfSights_X_33 (I : Nat → Nat → Int32) (J : Nat → Nat → Int64) (h : Nat) (hh : zm_isRow h) : zv_X9_refusalOfSights_X_33 I J h = some (some (.int (-2)), (I, J)) := by
  have key : ∀ (h : Nat), zm_isRow h → ∀ k : zm_S → zm_R, zm_step zT_X9_refusalOfSights zW_X k (33, [some (.ref 0), some (.ref h), none], [], (I, J)) = some (some (.int (-2)), (I, J)) := by
    intro h hh
    rcases hh with rfl | rfl | rfl | rfl <;> (intro k; rfl)
  exact (zm_V_eq _ _ _).trans (key h hh _)
set_option maxRecDepth 20000 in
theorem zq_X9_refusalOfSights_X_36 (I : Nat → Nat → Int32) (J : Nat → Nat → Int64) (h : Nat) (hh : zm_isRow h) : zv_X9_refusalOfSights_X_36 I J h = zv_X9_refusalOfSights_X_38 I J h 0 := by
  have key : ∀ (h : Nat), zm_isRow h → ∀ k : zm_S → zm_R, zm_step zT_X9_refusalOfSights zW_X k (36, [some (.ref 0), some (.ref h), none], [], (I, J)) = k (38, [some (.ref 0), some (.ref h), some (.int 0)], [], (I, J)) := by
    intro h hh
    rcases hh with rfl | rfl | rfl | rfl <;> (intro k; rfl)
  exact (zm_V_eq _ _ _).trans (key h hh _)
set_option maxRecDepth 20000 in
theorem zq_X9_refusalOfSights_X_38 (I : Nat → Nat → Int32) (J : Nat → Nat → Int64) (h : Nat) (l2 : Int32) (hh : zm_isRow h) : zv_X9_refusalOfSights_X_38 I J h l2 = if (I h 1) ≤ (l2 + 2) then zv_X9_refusalOfSights_X_101 I J h l2 else zv_X9_refusalOfSights_X_48 I J h l2 := by
  have key : ∀ (h : Nat), zm_isRow h → ∀ k : zm_S → zm_R, zm_step zT_X9_refusalOfSights zW_X k (38, [some (.ref 0), some (.ref h), some (.int l2)], [], (I, J)) = if (I h 1) ≤ (l2 + 2) then k (101, [some (.ref 0), some (.ref h), some (.int l2)], [], (I, J)) else k (48, [some (.ref 0), some (.ref h), some (.int l2)], [], (I, J)) := by
    intro h hh
    rcases hh with rfl | rfl | rfl | rfl <;> (intro k; rfl)
  exact (zm_V_eq _ _ _).trans (key h hh _)
set_option maxRecDepth 20000 in
theorem zc_X9_refusalOfSights_X_48 (I : Nat → Nat → Int32) (J : Nat → Nat → Int64) (h : Nat) (l2 : Int32) (hh : zm_isRow h) {N : zm_I} {r : Int32} (hF : zF_X7_isWithin zW_R [.ref 0, .int l2, .int 0, .int ((I 1 6) - 1)] (zm_sub2 [(h, 2)] (I, J)) = some (some (.int r), N)) : zv_X9_refusalOfSights_X_48 I J h l2 = zv_X9_refusalOfSights_X_63 (zm_mrg [(h, 2)] (I, J) N).1 (zm_mrg [(h, 2)] (I, J) N).2 h l2 r := by
  have e : ∀ (h : Nat), zm_isRow h → ∀ k : zm_S → zm_R, zm_step zT_X9_refusalOfSights zW_X k (48, [some (.ref 0), some (.ref h), some (.int l2)], [], (I, J)) = zm_app (4, some 7, false, [(0, 2)], zF_X7_isWithin) zW_X [.ref h, .int l2, .int 0, .int ((I 1 6) - 1)] (I, J) (fun v N => k (63, [some (.ref 0), some (.ref h), some (.int l2)], v.toList ++ [], N)) := by
    intro h hh
    rcases hh with rfl | rfl | rfl | rfl <;> (intro k; rfl)
  have r9 : zm_recv zW_X [.ref h, .int l2, .int 0, .int ((I 1 6) - 1)] (some 7) = true ∧ (zm_dis [(h, 2)] && zm_bound (List.length zW_X) [(h, 2)]) = true ∧ zm_sub [(h, 2)] zW_X = zW_R ∧ List.map (zm_tr [(h, 2)]) [.ref h, .int l2, .int 0, .int ((I 1 6) - 1)] = [.ref 0, .int l2, .int 0, .int ((I 1 6) - 1)] := by
    clear hF e
    rcases hh with rfl | rfl | rfl | rfl <;> exact ⟨rfl, rfl, rfl, rfl⟩
  have g := zm_app_l (C := (4, some 7, false, [(0, 2)], zF_X7_isWithin)) (wl := zW_X) (as := [.ref h, .int l2, .int 0, .int ((I 1 6) - 1)]) (wc := zW_R) (ac := [.ref 0, .int l2, .int 0, .int ((I 1 6) - 1)]) (bs := [(h, 2)]) (M := (I, J)) (k := fun v N => zm_V zT_X9_refusalOfSights zW_X (63, [some (.ref 0), some (.ref h), some (.int l2)], v.toList ++ [], N)) r9.1 rfl rfl r9.2.1 r9.2.2.1 r9.2.2.2 hF
  exact (zm_V_eq _ _ _).trans ((e h hh _).trans g)
set_option maxRecDepth 20000 in
theorem zq_X9_refusalOfSights_X_63 (I : Nat → Nat → Int32) (J : Nat → Nat → Int64) (h : Nat) (l2 : Int32) (s0 : Int32) (hh : zm_isRow h) : zv_X9_refusalOfSights_X_63 I J h l2 s0 = if s0 = 0 then zv_X9_refusalOfSights_X_92 I J h l2 else zv_X9_refusalOfSights_X_66 I J h l2 := by
  have key : ∀ (h : Nat), zm_isRow h → ∀ k : zm_S → zm_R, zm_step zT_X9_refusalOfSights zW_X k (63, [some (.ref 0), some (.ref h), some (.int l2)], [.int s0], (I, J)) = if s0 = 0 then k (92, [some (.ref 0), some (.ref h), some (.int l2)], [], (I, J)) else k (66, [some (.ref 0), some (.ref h), some (.int l2)], [], (I, J)) := by
    intro h hh
    rcases hh with rfl | rfl | rfl | rfl <;> (intro k; rfl)
  exact (zm_V_eq _ _ _).trans (key h hh _)
set_option maxRecDepth 20000 in
theorem zc_X9_refusalOfSights_X_66 (I : Nat → Nat → Int32) (J : Nat → Nat → Int64) (h : Nat) (l2 : Int32) (hh : zm_isRow h) {N : zm_I} {r : Int32} (hF : zF_X7_isWithin zW_R [.ref 0, .int (l2 + 1), .int 0, .int 60] (zm_sub2 [(h, 2)] (I, J)) = some (some (.int r), N)) : zv_X9_refusalOfSights_X_66 I J h l2 = zv_X9_refusalOfSights_X_76 (zm_mrg [(h, 2)] (I, J) N).1 (zm_mrg [(h, 2)] (I, J) N).2 h l2 r := by
  have e : ∀ (h : Nat), zm_isRow h → ∀ k : zm_S → zm_R, zm_step zT_X9_refusalOfSights zW_X k (66, [some (.ref 0), some (.ref h), some (.int l2)], [], (I, J)) = zm_app (4, some 7, false, [(0, 2)], zF_X7_isWithin) zW_X [.ref h, .int (l2 + 1), .int 0, .int 60] (I, J) (fun v N => k (76, [some (.ref 0), some (.ref h), some (.int l2)], v.toList ++ [], N)) := by
    intro h hh
    rcases hh with rfl | rfl | rfl | rfl <;> (intro k; rfl)
  have r9 : zm_recv zW_X [.ref h, .int (l2 + 1), .int 0, .int 60] (some 7) = true ∧ (zm_dis [(h, 2)] && zm_bound (List.length zW_X) [(h, 2)]) = true ∧ zm_sub [(h, 2)] zW_X = zW_R ∧ List.map (zm_tr [(h, 2)]) [.ref h, .int (l2 + 1), .int 0, .int 60] = [.ref 0, .int (l2 + 1), .int 0, .int 60] := by
    clear hF e
    rcases hh with rfl | rfl | rfl | rfl <;> exact ⟨rfl, rfl, rfl, rfl⟩
  have g := zm_app_l (C := (4, some 7, false, [(0, 2)], zF_X7_isWithin)) (wl := zW_X) (as := [.ref h, .int (l2 + 1), .int 0, .int 60]) (wc := zW_R) (ac := [.ref 0, .int (l2 + 1), .int 0, .int 60]) (bs := [(h, 2)]) (M := (I, J)) (k := fun v N => zm_V zT_X9_refusalOfSights zW_X (76, [some (.ref 0), some (.ref h), some (.int l2)], v.toList ++ [], N)) r9.1 rfl rfl r9.2.1 r9.2.2.1 r9.2.2.2 hF
  exact (zm_V_eq _ _ _).trans ((e h hh _).trans g)
set_option maxRecDepth 20000 in
theorem zq_X9_refusalOfSights_X_76 (I : Nat → Nat → Int32) (J : Nat → Nat → Int64) (h : Nat) (l2 : Int32) (s0 : Int32) (hh : zm_isRow h) : zv_X9_refusalOfSights_X_76 I J h l2 s0 = if s0 = 0 then zv_X9_refusalOfSights_X_92 I J h l2 else zv_X9_refusalOfSights_X_79 I J h l2 := by
  have key : ∀ (h : Nat), zm_isRow h → ∀ k : zm_S → zm_R, zm_step zT_X9_refusalOfSights zW_X k (76, [some (.ref 0), some (.ref h), some (.int l2)], [.int s0], (I, J)) = if s0 = 0 then k (92, [some (.ref 0), some (.ref h), some (.int l2)], [], (I, J)) else k (79, [some (.ref 0), some (.ref h), some (.int l2)], [], (I, J)) := by
    intro h hh
    rcases hh with rfl | rfl | rfl | rfl <;> (intro k; rfl)
  exact (zm_V_eq _ _ _).trans (key h hh _)
set_option maxRecDepth 20000 in
theorem zc_X9_refusalOfSights_X_79 (I : Nat → Nat → Int32) (J : Nat → Nat → Int64) (h : Nat) (l2 : Int32) (hh : zm_isRow h) {N : zm_I} {r : Int32} (hF : zF_X7_isWithin zW_R [.ref 0, .int (l2 + 2), .int (-1), .int 99] (zm_sub2 [(h, 2)] (I, J)) = some (some (.int r), N)) : zv_X9_refusalOfSights_X_79 I J h l2 = zv_X9_refusalOfSights_X_89 (zm_mrg [(h, 2)] (I, J) N).1 (zm_mrg [(h, 2)] (I, J) N).2 h l2 r := by
  have e : ∀ (h : Nat), zm_isRow h → ∀ k : zm_S → zm_R, zm_step zT_X9_refusalOfSights zW_X k (79, [some (.ref 0), some (.ref h), some (.int l2)], [], (I, J)) = zm_app (4, some 7, false, [(0, 2)], zF_X7_isWithin) zW_X [.ref h, .int (l2 + 2), .int (-1), .int 99] (I, J) (fun v N => k (89, [some (.ref 0), some (.ref h), some (.int l2)], v.toList ++ [], N)) := by
    intro h hh
    rcases hh with rfl | rfl | rfl | rfl <;> (intro k; rfl)
  have r9 : zm_recv zW_X [.ref h, .int (l2 + 2), .int (-1), .int 99] (some 7) = true ∧ (zm_dis [(h, 2)] && zm_bound (List.length zW_X) [(h, 2)]) = true ∧ zm_sub [(h, 2)] zW_X = zW_R ∧ List.map (zm_tr [(h, 2)]) [.ref h, .int (l2 + 2), .int (-1), .int 99] = [.ref 0, .int (l2 + 2), .int (-1), .int 99] := by
    clear hF e
    rcases hh with rfl | rfl | rfl | rfl <;> exact ⟨rfl, rfl, rfl, rfl⟩
  have g := zm_app_l (C := (4, some 7, false, [(0, 2)], zF_X7_isWithin)) (wl := zW_X) (as := [.ref h, .int (l2 + 2), .int (-1), .int 99]) (wc := zW_R) (ac := [.ref 0, .int (l2 + 2), .int (-1), .int 99]) (bs := [(h, 2)]) (M := (I, J)) (k := fun v N => zm_V zT_X9_refusalOfSights zW_X (89, [some (.ref 0), some (.ref h), some (.int l2)], v.toList ++ [], N)) r9.1 rfl rfl r9.2.1 r9.2.2.1 r9.2.2.2 hF
  exact (zm_V_eq _ _ _).trans ((e h hh _).trans g)
set_option maxRecDepth 20000 in
theorem zq_X9_refusalOfSights_X_89 (I : Nat → Nat → Int32) (J : Nat → Nat → Int64) (h : Nat) (l2 : Int32) (s0 : Int32) (hh : zm_isRow h) : zv_X9_refusalOfSights_X_89 I J h l2 s0 = if s0 = 0 then zv_X9_refusalOfSights_X_92 I J h l2 else zv_X9_refusalOfSights_X_95 I J h l2 := by
  have key : ∀ (h : Nat), zm_isRow h → ∀ k : zm_S → zm_R, zm_step zT_X9_refusalOfSights zW_X k (89, [some (.ref 0), some (.ref h), some (.int l2)], [.int s0], (I, J)) = if s0 = 0 then k (92, [some (.ref 0), some (.ref h), some (.int l2)], [], (I, J)) else k (95, [some (.ref 0), some (.ref h), some (.int l2)], [], (I, J)) := by
    intro h hh
    rcases hh with rfl | rfl | rfl | rfl <;> (intro k; rfl)
  exact (zm_V_eq _ _ _).trans (key h hh _)
set_option maxRecDepth 20000 in
theorem zq_X9_refusalOfSights_X_92 (I : Nat → Nat → Int32) (J : Nat → Nat → Int64) (h : Nat) (l2 : Int32) (hh : zm_isRow h) : zv_X9_refusalOfSights_X_92 I J h l2 = some (some (.int (-2)), (I, J)) := by
  have key : ∀ (h : Nat), zm_isRow h → ∀ k : zm_S → zm_R, zm_step zT_X9_refusalOfSights zW_X k (92, [some (.ref 0), some (.ref h), some (.int l2)], [], (I, J)) = some (some (.int (-2)), (I, J)) := by
    intro h hh
    rcases hh with rfl | rfl | rfl | rfl <;> (intro k; rfl)
  exact (zm_V_eq _ _ _).trans (key h hh _)
set_option maxRecDepth 20000 in
theorem zq_X9_refusalOfSights_X_95 (I : Nat → Nat → Int32) (J : Nat → Nat → Int64) (h : Nat) (l2 : Int32) (hh : zm_isRow h) : zv_X9_refusalOfSights_X_95 I J h l2 = zv_X9_refusalOfSights_X_38 I J h (l2 + 3) := by
  have key : ∀ (h : Nat), zm_isRow h → ∀ k : zm_S → zm_R, zm_step zT_X9_refusalOfSights zW_X k (95, [some (.ref 0), some (.ref h), some (.int l2)], [], (I, J)) = k (38, [some (.ref 0), some (.ref h), some (.int (l2 + 3))], [], (I, J)) := by
    intro h hh
    rcases hh with rfl | rfl | rfl | rfl <;> (intro k; rfl)
  exact (zm_V_eq _ _ _).trans (key h hh _)
set_option maxRecDepth 20000 in
theorem zq_X9_refusalOfSights_X_101 (I : Nat → Nat → Int32) (J : Nat → Nat → Int64) (h : Nat) (l2 : Int32) (hh : zm_isRow h) : zv_X9_refusalOfSights_X_101 I J h l2 = some (some (.int 0), (I, J)) := by
  have key : ∀ (h : Nat), zm_isRow h → ∀ k : zm_S → zm_R, zm_step zT_X9_refusalOfSights zW_X k (101, [some (.ref 0), some (.ref h), some (.int l2)], [], (I, J)) = some (some (.int 0), (I, J)) := by
    intro h hh
    rcases hh with rfl | rfl | rfl | rfl <;> (intro k; rfl)
  exact (zm_V_eq _ _ _).trans (key h hh _)
theorem zf_X9_refusalOfSights_X (I : Nat → Nat → Int32) (J : Nat → Nat → Int64) (h : Nat) : zF_X9_refusalOfSights zW_X [.ref 0, .ref h] (I, J) = zv_X9_refusalOfSights_X_0 I J h := rfl
noncomputable def zv_X9_isAsSeen_X_0 (I : Nat → Nat → Int32) (J : Nat → Nat → Int64) (h : Nat) : zm_R := zm_V zT_X9_isAsSeen zW_X (0, [some (.ref 0), some (.ref h), none, none, none], [], (I, J))
noncomputable def zv_X9_isAsSeen_X_11 (I : Nat → Nat → Int32) (J : Nat → Nat → Int64) (h : Nat) : zm_R := zm_V zT_X9_isAsSeen zW_X (11, [some (.ref 0), some (.ref h), none, none, none], [], (I, J))
noncomputable def zv_X9_isAsSeen_X_13 (I : Nat → Nat → Int32) (J : Nat → Nat → Int64) (h : Nat) (l2 : Int32) (l3 : Option Value) (l4 : Option Value) : zm_R := zm_V zT_X9_isAsSeen zW_X (13, [some (.ref 0), some (.ref h), some (.int l2), l3, l4], [], (I, J))
noncomputable def zv_X9_isAsSeen_X_23 (I : Nat → Nat → Int32) (J : Nat → Nat → Int64) (h : Nat) (l2 : Int32) (l3 : Option Value) (l4 : Option Value) : zm_R := zm_V zT_X9_isAsSeen zW_X (23, [some (.ref 0), some (.ref h), some (.int l2), l3, l4], [], (I, J))
noncomputable def zv_X9_isAsSeen_X_28 (I : Nat → Nat → Int32) (J : Nat → Nat → Int64) (h : Nat) (l2 : Int32) (l3 : Option Value) (l4 : Option Value) (s0 : Int32) : zm_R := zm_V zT_X9_isAsSeen zW_X (28, [some (.ref 0), some (.ref h), some (.int l2), l3, l4], [.int s0], (I, J))
noncomputable def zv_X9_isAsSeen_X_36 (I : Nat → Nat → Int32) (J : Nat → Nat → Int64) (h : Nat) (l2 : Int32) (l3 : Int32) (l4 : Option Value) (s0 : Int32) : zm_R := zm_V zT_X9_isAsSeen zW_X (36, [some (.ref 0), some (.ref h), some (.int l2), some (.int l3), l4], [.int s0], (I, J))
noncomputable def zv_X9_isAsSeen_X_48 (I : Nat → Nat → Int32) (J : Nat → Nat → Int64) (h : Nat) (l2 : Int32) (l3 : Int32) (l4 : Int32) (s0 : Int32) : zm_R := zm_V zT_X9_isAsSeen zW_X (48, [some (.ref 0), some (.ref h), some (.int l2), some (.int l3), some (.int l4)], [.int s0], (I, J))
noncomputable def zv_X9_isAsSeen_X_55 (I : Nat → Nat → Int32) (J : Nat → Nat → Int64) (h : Nat) (l2 : Int32) (l3 : Int32) (l4 : Int32) (s0 : Int32) (s1 : Int32) : zm_R := zm_V zT_X9_isAsSeen zW_X (55, [some (.ref 0), some (.ref h), some (.int l2), some (.int l3), some (.int l4)], [.int s0, .int s1], (I, J))
noncomputable def zv_X9_isAsSeen_X_58 (I : Nat → Nat → Int32) (J : Nat → Nat → Int64) (h : Nat) (l2 : Int32) (l3 : Int32) (l4 : Int32) : zm_R := zm_V zT_X9_isAsSeen zW_X (58, [some (.ref 0), some (.ref h), some (.int l2), some (.int l3), some (.int l4)], [], (I, J))
noncomputable def zv_X9_isAsSeen_X_60 (I : Nat → Nat → Int32) (J : Nat → Nat → Int64) (h : Nat) (l2 : Int32) (l3 : Int32) (l4 : Int32) : zm_R := zm_V zT_X9_isAsSeen zW_X (60, [some (.ref 0), some (.ref h), some (.int l2), some (.int l3), some (.int l4)], [], (I, J))
noncomputable def zv_X9_isAsSeen_X_66 (I : Nat → Nat → Int32) (J : Nat → Nat → Int64) (h : Nat) (l2 : Int32) (l3 : Option Value) (l4 : Option Value) : zm_R := zm_V zT_X9_isAsSeen zW_X (66, [some (.ref 0), some (.ref h), some (.int l2), l3, l4], [], (I, J))
set_option maxRecDepth 20000 in
theorem zc_X9_isAsSeen_X_0 (I : Nat → Nat → Int32) (J : Nat → Nat → Int64) (h : Nat) (hh : zm_isRow h) {N : zm_I} (hF : zF_X3_keep zW_YB [.ref 0, .ref 11] (zm_sub2 [(32, 11), (11, 10)] (I, J)) = some (none, N)) : zv_X9_isAsSeen_X_0 I J h = zv_X9_isAsSeen_X_11 (zm_mrg [(32, 11), (11, 10)] (I, J) N).1 (zm_mrg [(32, 11), (11, 10)] (I, J) N).2 h  := by
  have e : ∀ (h : Nat), zm_isRow h → ∀ k : zm_S → zm_R, zm_step zT_X9_isAsSeen zW_X k (0, [some (.ref 0), some (.ref h), none, none, none], [], (I, J)) = zm_app (2, some 3, false, [(0, 11), (1, 10)], zF_X3_keep) zW_X [.ref 32, .ref 11] (I, J) (fun v N => k (11, [some (.ref 0), some (.ref h), none, none, none], v.toList ++ [], N)) := by
    intro h hh
    rcases hh with rfl | rfl | rfl | rfl <;> (intro k; rfl)
  have r9 : zm_recv zW_X [.ref 32, .ref 11] (some 3) = true ∧ (zm_dis [(32, 11), (11, 10)] && zm_bound (List.length zW_X) [(32, 11), (11, 10)]) = true ∧ zm_sub [(32, 11), (11, 10)] zW_X = zW_YB ∧ List.map (zm_tr [(32, 11), (11, 10)]) [.ref 32, .ref 11] = [.ref 0, .ref 11] := by
    clear hF e
    rcases hh with rfl | rfl | rfl | rfl <;> exact ⟨rfl, rfl, rfl, rfl⟩
  have g := zm_app_l (C := (2, some 3, false, [(0, 11), (1, 10)], zF_X3_keep)) (wl := zW_X) (as := [.ref 32, .ref 11]) (wc := zW_YB) (ac := [.ref 0, .ref 11]) (bs := [(32, 11), (11, 10)]) (M := (I, J)) (k := fun v N => zm_V zT_X9_isAsSeen zW_X (11, [some (.ref 0), some (.ref h), none, none, none], v.toList ++ [], N)) r9.1 rfl rfl r9.2.1 r9.2.2.1 r9.2.2.2 hF
  exact (zm_V_eq _ _ _).trans ((e h hh _).trans g)
set_option maxRecDepth 20000 in
theorem zq_X9_isAsSeen_X_11 (I : Nat → Nat → Int32) (J : Nat → Nat → Int64) (h : Nat) (hh : zm_isRow h) : zv_X9_isAsSeen_X_11 I J h = zv_X9_isAsSeen_X_13 I J h 0 none none := by
  have key : ∀ (h : Nat), zm_isRow h → ∀ k : zm_S → zm_R, zm_step zT_X9_isAsSeen zW_X k (11, [some (.ref 0), some (.ref h), none, none, none], [], (I, J)) = k (13, [some (.ref 0), some (.ref h), some (.int 0), none, none], [], (I, J)) := by
    intro h hh
    rcases hh with rfl | rfl | rfl | rfl <;> (intro k; rfl)
  exact (zm_V_eq _ _ _).trans (key h hh _)
set_option maxRecDepth 20000 in
theorem zq_X9_isAsSeen_X_13 (I : Nat → Nat → Int32) (J : Nat → Nat → Int64) (h : Nat) (l2 : Int32) (l3 : Option Value) (l4 : Option Value) (hh : zm_isRow h) : zv_X9_isAsSeen_X_13 I J h l2 l3 l4 = if (I h 1) ≤ (l2 + 2) then zv_X9_isAsSeen_X_66 I J h l2 l3 l4 else zv_X9_isAsSeen_X_23 I J h l2 l3 l4 := by
  have key : ∀ (h : Nat), zm_isRow h → ∀ k : zm_S → zm_R, zm_step zT_X9_isAsSeen zW_X k (13, [some (.ref 0), some (.ref h), some (.int l2), l3, l4], [], (I, J)) = if (I h 1) ≤ (l2 + 2) then k (66, [some (.ref 0), some (.ref h), some (.int l2), l3, l4], [], (I, J)) else k (23, [some (.ref 0), some (.ref h), some (.int l2), l3, l4], [], (I, J)) := by
    intro h hh
    rcases hh with rfl | rfl | rfl | rfl <;> (intro k; rfl)
  exact (zm_V_eq _ _ _).trans (key h hh _)
set_option maxRecDepth 20000 in
theorem zc_X9_isAsSeen_X_23 (I : Nat → Nat → Int32) (J : Nat → Nat → Int64) (h : Nat) (l2 : Int32) (l3 : Option Value) (l4 : Option Value) (hh : zm_isRow h) {N : zm_I} {r : Int32} (hF : zF_X7_intAt zW_R [.ref 0, .int l2] (zm_sub2 [(h, 2)] (I, J)) = some (some (.int r), N)) : zv_X9_isAsSeen_X_23 I J h l2 l3 l4 = zv_X9_isAsSeen_X_28 (zm_mrg [(h, 2)] (I, J) N).1 (zm_mrg [(h, 2)] (I, J) N).2 h l2 (l3) (l4) r := by
  have e : ∀ (h : Nat), zm_isRow h → ∀ k : zm_S → zm_R, zm_step zT_X9_isAsSeen zW_X k (23, [some (.ref 0), some (.ref h), some (.int l2), l3, l4], [], (I, J)) = zm_app (2, some 7, false, [(0, 2)], zF_X7_intAt) zW_X [.ref h, .int l2] (I, J) (fun v N => k (28, [some (.ref 0), some (.ref h), some (.int l2), l3, l4], v.toList ++ [], N)) := by
    intro h hh
    rcases hh with rfl | rfl | rfl | rfl <;> (intro k; rfl)
  have r9 : zm_recv zW_X [.ref h, .int l2] (some 7) = true ∧ (zm_dis [(h, 2)] && zm_bound (List.length zW_X) [(h, 2)]) = true ∧ zm_sub [(h, 2)] zW_X = zW_R ∧ List.map (zm_tr [(h, 2)]) [.ref h, .int l2] = [.ref 0, .int l2] := by
    clear hF e
    rcases hh with rfl | rfl | rfl | rfl <;> exact ⟨rfl, rfl, rfl, rfl⟩
  have g := zm_app_l (C := (2, some 7, false, [(0, 2)], zF_X7_intAt)) (wl := zW_X) (as := [.ref h, .int l2]) (wc := zW_R) (ac := [.ref 0, .int l2]) (bs := [(h, 2)]) (M := (I, J)) (k := fun v N => zm_V zT_X9_isAsSeen zW_X (28, [some (.ref 0), some (.ref h), some (.int l2), l3, l4], v.toList ++ [], N)) r9.1 rfl rfl r9.2.1 r9.2.2.1 r9.2.2.2 hF
  exact (zm_V_eq _ _ _).trans ((e h hh _).trans g)
set_option maxRecDepth 20000 in
theorem zc_X9_isAsSeen_X_28 (I : Nat → Nat → Int32) (J : Nat → Nat → Int64) (h : Nat) (l2 : Int32) (l3 : Option Value) (l4 : Option Value) (s0 : Int32) (hh : zm_isRow h) {N : zm_I} {r : Int32} (hF : zF_X7_intAt zW_R [.ref 0, .int (l2 + 1)] (zm_sub2 [(h, 2)] (I, J)) = some (some (.int r), N)) : zv_X9_isAsSeen_X_28 I J h l2 l3 l4 s0 = zv_X9_isAsSeen_X_36 (zm_mrg [(h, 2)] (I, J) N).1 (zm_mrg [(h, 2)] (I, J) N).2 h l2 s0 (l4) r := by
  have e : ∀ (h : Nat), zm_isRow h → ∀ k : zm_S → zm_R, zm_step zT_X9_isAsSeen zW_X k (28, [some (.ref 0), some (.ref h), some (.int l2), l3, l4], [.int s0], (I, J)) = zm_app (2, some 7, false, [(0, 2)], zF_X7_intAt) zW_X [.ref h, .int (l2 + 1)] (I, J) (fun v N => k (36, [some (.ref 0), some (.ref h), some (.int l2), some (.int s0), l4], v.toList ++ [], N)) := by
    intro h hh
    rcases hh with rfl | rfl | rfl | rfl <;> (intro k; rfl)
  have r9 : zm_recv zW_X [.ref h, .int (l2 + 1)] (some 7) = true ∧ (zm_dis [(h, 2)] && zm_bound (List.length zW_X) [(h, 2)]) = true ∧ zm_sub [(h, 2)] zW_X = zW_R ∧ List.map (zm_tr [(h, 2)]) [.ref h, .int (l2 + 1)] = [.ref 0, .int (l2 + 1)] := by
    clear hF e
    rcases hh with rfl | rfl | rfl | rfl <;> exact ⟨rfl, rfl, rfl, rfl⟩
  have g := zm_app_l (C := (2, some 7, false, [(0, 2)], zF_X7_intAt)) (wl := zW_X) (as := [.ref h, .int (l2 + 1)]) (wc := zW_R) (ac := [.ref 0, .int (l2 + 1)]) (bs := [(h, 2)]) (M := (I, J)) (k := fun v N => zm_V zT_X9_isAsSeen zW_X (36, [some (.ref 0), some (.ref h), some (.int l2), some (.int s0), l4], v.toList ++ [], N)) r9.1 rfl rfl r9.2.1 r9.2.2.1 r9.2.2.2 hF
  exact (zm_V_eq _ _ _).trans ((e h hh _).trans g)
set_option maxRecDepth 20000 in
theorem zc_X9_isAsSeen_X_36 (I : Nat → Nat → Int32) (J : Nat → Nat → Int64) (h : Nat) (l2 : Int32) (l3 : Int32) (l4 : Option Value) (s0 : Int32) (hh : zm_isRow h) {N : zm_I} {r : Int32} (hF : zF_X3_ageAt zW_Y [.ref 0, .int l3, .int s0] (zm_sub2 [(32, 11)] (I, J)) = some (some (.int r), N)) : zv_X9_isAsSeen_X_36 I J h l2 l3 l4 s0 = zv_X9_isAsSeen_X_48 (zm_mrg [(32, 11)] (I, J) N).1 (zm_mrg [(32, 11)] (I, J) N).2 h l2 l3 s0 r := by
  have e : ∀ (h : Nat), zm_isRow h → ∀ k : zm_S → zm_R, zm_step zT_X9_isAsSeen zW_X k (36, [some (.ref 0), some (.ref h), some (.int l2), some (.int l3), l4], [.int s0], (I, J)) = zm_app (3, some 3, false, [(0, 11)], zF_X3_ageAt) zW_X [.ref 32, .int l3, .int s0] (I, J) (fun v N => k (48, [some (.ref 0), some (.ref h), some (.int l2), some (.int l3), some (.int s0)], v.toList ++ [], N)) := by
    intro h hh
    rcases hh with rfl | rfl | rfl | rfl <;> (intro k; rfl)
  have r9 : zm_recv zW_X [.ref 32, .int l3, .int s0] (some 3) = true ∧ (zm_dis [(32, 11)] && zm_bound (List.length zW_X) [(32, 11)]) = true ∧ zm_sub [(32, 11)] zW_X = zW_Y ∧ List.map (zm_tr [(32, 11)]) [.ref 32, .int l3, .int s0] = [.ref 0, .int l3, .int s0] := by
    clear hF e
    rcases hh with rfl | rfl | rfl | rfl <;> exact ⟨rfl, rfl, rfl, rfl⟩
  have g := zm_app_l (C := (3, some 3, false, [(0, 11)], zF_X3_ageAt)) (wl := zW_X) (as := [.ref 32, .int l3, .int s0]) (wc := zW_Y) (ac := [.ref 0, .int l3, .int s0]) (bs := [(32, 11)]) (M := (I, J)) (k := fun v N => zm_V zT_X9_isAsSeen zW_X (48, [some (.ref 0), some (.ref h), some (.int l2), some (.int l3), some (.int s0)], v.toList ++ [], N)) r9.1 rfl rfl r9.2.1 r9.2.2.1 r9.2.2.2 hF
  exact (zm_V_eq _ _ _).trans ((e h hh _).trans g)
set_option maxRecDepth 20000 in
theorem zc_X9_isAsSeen_X_48 (I : Nat → Nat → Int32) (J : Nat → Nat → Int64) (h : Nat) (l2 : Int32) (l3 : Int32) (l4 : Int32) (s0 : Int32) (hh : zm_isRow h) {N : zm_I} {r : Int32} (hF : zF_X7_intAt zW_R [.ref 0, .int (l2 + 2)] (zm_sub2 [(h, 2)] (I, J)) = some (some (.int r), N)) : zv_X9_isAsSeen_X_48 I J h l2 l3 l4 s0 = zv_X9_isAsSeen_X_55 (zm_mrg [(h, 2)] (I, J) N).1 (zm_mrg [(h, 2)] (I, J) N).2 h l2 l3 l4 r s0 := by
  have e : ∀ (h : Nat), zm_isRow h → ∀ k : zm_S → zm_R, zm_step zT_X9_isAsSeen zW_X k (48, [some (.ref 0), some (.ref h), some (.int l2), some (.int l3), some (.int l4)], [.int s0], (I, J)) = zm_app (2, some 7, false, [(0, 2)], zF_X7_intAt) zW_X [.ref h, .int (l2 + 2)] (I, J) (fun v N => k (55, [some (.ref 0), some (.ref h), some (.int l2), some (.int l3), some (.int l4)], v.toList ++ [.int s0], N)) := by
    intro h hh
    rcases hh with rfl | rfl | rfl | rfl <;> (intro k; rfl)
  have r9 : zm_recv zW_X [.ref h, .int (l2 + 2)] (some 7) = true ∧ (zm_dis [(h, 2)] && zm_bound (List.length zW_X) [(h, 2)]) = true ∧ zm_sub [(h, 2)] zW_X = zW_R ∧ List.map (zm_tr [(h, 2)]) [.ref h, .int (l2 + 2)] = [.ref 0, .int (l2 + 2)] := by
    clear hF e
    rcases hh with rfl | rfl | rfl | rfl <;> exact ⟨rfl, rfl, rfl, rfl⟩
  have g := zm_app_l (C := (2, some 7, false, [(0, 2)], zF_X7_intAt)) (wl := zW_X) (as := [.ref h, .int (l2 + 2)]) (wc := zW_R) (ac := [.ref 0, .int (l2 + 2)]) (bs := [(h, 2)]) (M := (I, J)) (k := fun v N => zm_V zT_X9_isAsSeen zW_X (55, [some (.ref 0), some (.ref h), some (.int l2), some (.int l3), some (.int l4)], v.toList ++ [.int s0], N)) r9.1 rfl rfl r9.2.1 r9.2.2.1 r9.2.2.2 hF
  exact (zm_V_eq _ _ _).trans ((e h hh _).trans g)
set_option maxRecDepth 20000 in
theorem zq_X9_isAsSeen_X_55 (I : Nat → Nat → Int32) (J : Nat → Nat → Int64) (h : Nat) (l2 : Int32) (l3 : Int32) (l4 : Int32) (s0 : Int32) (s1 : Int32) (hh : zm_isRow h) : zv_X9_isAsSeen_X_55 I J h l2 l3 l4 s0 s1 = if s1 = s0 then zv_X9_isAsSeen_X_60 I J h l2 l3 l4 else zv_X9_isAsSeen_X_58 I J h l2 l3 l4 := by
  have key : ∀ (h : Nat), zm_isRow h → ∀ k : zm_S → zm_R, zm_step zT_X9_isAsSeen zW_X k (55, [some (.ref 0), some (.ref h), some (.int l2), some (.int l3), some (.int l4)], [.int s0, .int s1], (I, J)) = if s1 = s0 then k (60, [some (.ref 0), some (.ref h), some (.int l2), some (.int l3), some (.int l4)], [], (I, J)) else k (58, [some (.ref 0), some (.ref h), some (.int l2), some (.int l3), some (.int l4)], [], (I, J)) := by
    intro h hh
    rcases hh with rfl | rfl | rfl | rfl <;> (intro k; rfl)
  exact (zm_V_eq _ _ _).trans (key h hh _)
set_option maxRecDepth 20000 in
theorem zq_X9_isAsSeen_X_58 (I : Nat → Nat → Int32) (J : Nat → Nat → Int64) (h : Nat) (l2 : Int32) (l3 : Int32) (l4 : Int32) (hh : zm_isRow h) : zv_X9_isAsSeen_X_58 I J h l2 l3 l4 = some (some (.int 0), (I, J)) := by
  have key : ∀ (h : Nat), zm_isRow h → ∀ k : zm_S → zm_R, zm_step zT_X9_isAsSeen zW_X k (58, [some (.ref 0), some (.ref h), some (.int l2), some (.int l3), some (.int l4)], [], (I, J)) = some (some (.int 0), (I, J)) := by
    intro h hh
    rcases hh with rfl | rfl | rfl | rfl <;> (intro k; rfl)
  exact (zm_V_eq _ _ _).trans (key h hh _)
set_option maxRecDepth 20000 in
theorem zq_X9_isAsSeen_X_60 (I : Nat → Nat → Int32) (J : Nat → Nat → Int64) (h : Nat) (l2 : Int32) (l3 : Int32) (l4 : Int32) (hh : zm_isRow h) : zv_X9_isAsSeen_X_60 I J h l2 l3 l4 = zv_X9_isAsSeen_X_13 I J h (l2 + 3) (some (.int l3)) (some (.int l4)) := by
  have key : ∀ (h : Nat), zm_isRow h → ∀ k : zm_S → zm_R, zm_step zT_X9_isAsSeen zW_X k (60, [some (.ref 0), some (.ref h), some (.int l2), some (.int l3), some (.int l4)], [], (I, J)) = k (13, [some (.ref 0), some (.ref h), some (.int (l2 + 3)), some (.int l3), some (.int l4)], [], (I, J)) := by
    intro h hh
    rcases hh with rfl | rfl | rfl | rfl <;> (intro k; rfl)
  exact (zm_V_eq _ _ _).trans (key h hh _)
set_option maxRecDepth 20000 in
theorem zq_X9_isAsSeen_X_66 (I : Nat → Nat → Int32) (J : Nat → Nat → Int64) (h : Nat) (l2 : Int32) (l3 : Option Value) (l4 : Option Value) (hh : zm_isRow h) : zv_X9_isAsSeen_X_66 I J h l2 l3 l4 = some (some (.int 1), (I, J)) := by
  have key : ∀ (h : Nat), zm_isRow h → ∀ k : zm_S → zm_R, zm_step zT_X9_isAsSeen zW_X k (66, [some (.ref 0), some (.ref h), some (.int l2), l3, l4], [], (I, J)) = some (some (.int 1), (I, J)) := by
    intro h hh
    rcases hh with rfl | rfl | rfl | rfl <;> (intro k; rfl)
  exact (zm_V_eq _ _ _).trans (key h hh _)
theorem zf_X9_isAsSeen_X (I : Nat → Nat → Int32) (J : Nat → Nat → Int64) (h : Nat) : zF_X9_isAsSeen zW_X [.ref 0, .ref h] (I, J) = zv_X9_isAsSeen_X_0 I J h := rfl
noncomputable def zv_X9_refusalOfSights_Xn_0 (I : Nat → Nat → Int32) (J : Nat → Nat → Int64) : zm_R := zm_V zT_X9_refusalOfSights zW_X (0, [some (.ref 0), some (.null), none], [], (I, J))
noncomputable def zv_X9_refusalOfSights_Xn_11 (I : Nat → Nat → Int32) (J : Nat → Nat → Int64) : zm_R := zm_V zT_X9_refusalOfSights zW_X (11, [some (.ref 0), some (.null), none], [], (I, J))
set_option maxRecDepth 20000 in
theorem zq_X9_refusalOfSights_Xn_0 (I : Nat → Nat → Int32) (J : Nat → Nat → Int64) : zv_X9_refusalOfSights_Xn_0 I J = zv_X9_refusalOfSights_Xn_11 I J := (zm_V_eq _ _ _).trans ((fun (k : zm_S → zm_R) => (rfl : zm_step zT_X9_refusalOfSights zW_X k (0, [some (.ref 0), some (.null), none], [], (I, J)) = k (11, [some (.ref 0), some (.null), none], [], (I, J)))) (zm_V zT_X9_refusalOfSights zW_X))
set_option maxRecDepth 20000 in
theorem zq_X9_refusalOfSights_Xn_11 (I : Nat → Nat → Int32) (J : Nat → Nat → Int64) : zv_X9_refusalOfSights_Xn_11 I J = some (some (.int (-2)), (I, J)) := (zm_V_eq _ _ _).trans ((fun (k : zm_S → zm_R) => (rfl : zm_step zT_X9_refusalOfSights zW_X k (11, [some (.ref 0), some (.null), none], [], (I, J)) = some (some (.int (-2)), (I, J)))) (zm_V zT_X9_refusalOfSights zW_X))
theorem zf_X9_refusalOfSights_Xn (I : Nat → Nat → Int32) (J : Nat → Nat → Int64) : zF_X9_refusalOfSights zW_X [.ref 0, .null] (I, J) = zv_X9_refusalOfSights_Xn_0 I J := rfl
noncomputable def zv_X9_pileUp_X_0 (I : Nat → Nat → Int32) (J : Nat → Nat → Int64) (l1 : Int32) : zm_R := zm_V zT_X9_pileUp zW_X (0, [some (.ref 0), some (.int l1), none, none], [], (I, J))
noncomputable def zv_X9_pileUp_X_5 (I : Nat → Nat → Int32) (J : Nat → Nat → Int64) (h : Nat) (l1 : Int32) : zm_R := zm_V zT_X9_pileUp zW_X (5, [some (.ref 0), some (.int l1), none, none], [.ref h], (I, J))
noncomputable def zv_X9_pileUp_X_10 (I : Nat → Nat → Int32) (J : Nat → Nat → Int64) (h : Nat) (l1 : Int32) : zm_R := zm_V zT_X9_pileUp zW_X (10, [some (.ref 0), some (.int l1), some (.ref h), none], [], (I, J))
noncomputable def zv_X9_pileUp_X_14 (I : Nat → Nat → Int32) (J : Nat → Nat → Int64) (h : Nat) (l1 : Int32) (s0 : Int32) : zm_R := zm_V zT_X9_pileUp zW_X (14, [some (.ref 0), some (.int l1), some (.ref h), none], [.int s0], (I, J))
noncomputable def zv_X9_pileUp_X_17 (I : Nat → Nat → Int32) (J : Nat → Nat → Int64) (h : Nat) (l1 : Int32) : zm_R := zm_V zT_X9_pileUp zW_X (17, [some (.ref 0), some (.int l1), some (.ref h), none], [], (I, J))
noncomputable def zv_X9_pileUp_X_20 (I : Nat → Nat → Int32) (J : Nat → Nat → Int64) (h : Nat) (l1 : Int32) : zm_R := zm_V zT_X9_pileUp zW_X (20, [some (.ref 0), some (.int l1), some (.ref h), none], [], (I, J))
noncomputable def zv_X9_pileUp_X_24 (I : Nat → Nat → Int32) (J : Nat → Nat → Int64) (h : Nat) (l1 : Int32) (s0 : Int32) : zm_R := zm_V zT_X9_pileUp zW_X (24, [some (.ref 0), some (.int l1), some (.ref h), none], [.int s0], (I, J))
noncomputable def zv_X9_pileUp_X_27 (I : Nat → Nat → Int32) (J : Nat → Nat → Int64) (h : Nat) (l1 : Int32) : zm_R := zm_V zT_X9_pileUp zW_X (27, [some (.ref 0), some (.int l1), some (.ref h), none], [], (I, J))
noncomputable def zv_X9_pileUp_X_30 (I : Nat → Nat → Int32) (J : Nat → Nat → Int64) (h : Nat) (l1 : Int32) : zm_R := zm_V zT_X9_pileUp zW_X (30, [some (.ref 0), some (.int l1), some (.ref h), none], [], (I, J))
noncomputable def zv_X9_pileUp_X_39 (I : Nat → Nat → Int32) (J : Nat → Nat → Int64) (h : Nat) (l1 : Int32) : zm_R := zm_V zT_X9_pileUp zW_X (39, [some (.ref 0), some (.int l1), some (.ref h), none], [], (I, J))
noncomputable def zv_X9_pileUp_X_42 (I : Nat → Nat → Int32) (J : Nat → Nat → Int64) (h : Nat) (l1 : Int32) : zm_R := zm_V zT_X9_pileUp zW_X (42, [some (.ref 0), some (.int l1), some (.ref h), none], [], (I, J))
noncomputable def zv_X9_pileUp_X_44 (I : Nat → Nat → Int32) (J : Nat → Nat → Int64) (h : Nat) (l1 : Int32) (l3 : Int32) : zm_R := zm_V zT_X9_pileUp zW_X (44, [some (.ref 0), some (.int l1), some (.ref h), some (.int l3)], [], (I, J))
noncomputable def zv_X9_pileUp_X_52 (I : Nat → Nat → Int32) (J : Nat → Nat → Int64) (h : Nat) (l1 : Int32) (l3 : Int32) : zm_R := zm_V zT_X9_pileUp zW_X (52, [some (.ref 0), some (.int l1), some (.ref h), some (.int l3)], [], (I, J))
noncomputable def zv_X9_pileUp_X_60 (I : Nat → Nat → Int32) (J : Nat → Nat → Int64) (h : Nat) (l1 : Int32) (l3 : Int32) (s0 : Int32) : zm_R := zm_V zT_X9_pileUp zW_X (60, [some (.ref 0), some (.int l1), some (.ref h), some (.int l3)], [.int s0], (I, J))
noncomputable def zv_X9_pileUp_X_63 (I : Nat → Nat → Int32) (J : Nat → Nat → Int64) (h : Nat) (l1 : Int32) (l3 : Int32) : zm_R := zm_V zT_X9_pileUp zW_X (63, [some (.ref 0), some (.int l1), some (.ref h), some (.int l3)], [], (I, J))
noncomputable def zv_X9_pileUp_X_66 (I : Nat → Nat → Int32) (J : Nat → Nat → Int64) (h : Nat) (l1 : Int32) (l3 : Int32) : zm_R := zm_V zT_X9_pileUp zW_X (66, [some (.ref 0), some (.int l1), some (.ref h), some (.int l3)], [], (I, J))
noncomputable def zv_X9_pileUp_X_72 (I : Nat → Nat → Int32) (J : Nat → Nat → Int64) (h : Nat) (l1 : Int32) (l3 : Int32) : zm_R := zm_V zT_X9_pileUp zW_X (72, [some (.ref 0), some (.int l1), some (.ref h), some (.int l3)], [], (I, J))
noncomputable def zv_X9_pileUp_X_80 (I : Nat → Nat → Int32) (J : Nat → Nat → Int64) (h : Nat) (l1 : Int32) (l3 : Int32) : zm_R := zm_V zT_X9_pileUp zW_X (80, [some (.ref 0), some (.int l1), some (.ref h), some (.int l3)], [], (I, J))
set_option maxRecDepth 20000 in
theorem zc_X9_pileUp_X_0 {h : Nat} (I : Nat → Nat → Int32) (J : Nat → Nat → Int64) (l1 : Int32) {I2 : Nat → Nat → Int32} {J2 : Nat → Nat → Int64} (hF : zF_X9_rowAt zW_X [.ref 0, .int l1] (I, J) = some (some (.ref h), (I2, J2))) : zv_X9_pileUp_X_0 I J l1 = zv_X9_pileUp_X_5 I2 J2 h l1 := by
  have e : ∀ k : zm_S → zm_R, zm_step zT_X9_pileUp zW_X k (0, [some (.ref 0), some (.int l1), none, none], [], (I, J)) = zm_app (2, some 9, true, [], zF_X9_rowAt) zW_X [.ref 0, .int l1] (I, J) (fun v N => k (5, [some (.ref 0), some (.int l1), none, none], v.toList ++ [], N)) := fun k => rfl
  have g := zm_app_s (C := (2, some 9, true, [], zF_X9_rowAt)) (wl := zW_X) (as := [.ref 0, .int l1]) (M := (I, J)) (k := fun v N => zm_V zT_X9_pileUp zW_X (5, [some (.ref 0), some (.int l1), none, none], v.toList ++ [], N)) rfl rfl hF
  exact (zm_V_eq _ _ _).trans ((e _).trans g)
set_option maxRecDepth 20000 in
theorem zq_X9_pileUp_X_5 (I : Nat → Nat → Int32) (J : Nat → Nat → Int64) (h : Nat) (l1 : Int32) (hh : zm_isRow h) : zv_X9_pileUp_X_5 I J h l1 = zv_X9_pileUp_X_10 I J h l1 := by
  have key : ∀ (h : Nat), zm_isRow h → ∀ k : zm_S → zm_R, zm_step zT_X9_pileUp zW_X k (5, [some (.ref 0), some (.int l1), none, none], [.ref h], (I, J)) = k (10, [some (.ref 0), some (.int l1), some (.ref h), none], [], (I, J)) := by
    intro h hh
    rcases hh with rfl | rfl | rfl | rfl <;> (intro k; rfl)
  exact (zm_V_eq _ _ _).trans (key h hh _)
set_option maxRecDepth 20000 in
theorem zc_X9_pileUp_X_10 (I : Nat → Nat → Int32) (J : Nat → Nat → Int64) (h : Nat) (l1 : Int32) (hh : zm_isRow h) {I2 : Nat → Nat → Int32} {J2 : Nat → Nat → Int64} {r : Int32} (hF : zF_X9_hasBench zW_X [.ref 0] (I, J) = some (some (.int r), (I2, J2))) : zv_X9_pileUp_X_10 I J h l1 = zv_X9_pileUp_X_14 I2 J2 h l1 r := by
  have e : ∀ (h : Nat), zm_isRow h → ∀ k : zm_S → zm_R, zm_step zT_X9_pileUp zW_X k (10, [some (.ref 0), some (.int l1), some (.ref h), none], [], (I, J)) = zm_app (1, some 9, true, [], zF_X9_hasBench) zW_X [.ref 0] (I, J) (fun v N => k (14, [some (.ref 0), some (.int l1), some (.ref h), none], v.toList ++ [], N)) := by
    intro h hh
    rcases hh with rfl | rfl | rfl | rfl <;> (intro k; rfl)
  have r9 : zm_recv zW_X [.ref 0] (some 9) = true := by
    clear hF e
    revert hh; intro hh; rcases hh with rfl | rfl | rfl | rfl <;> rfl
  have g := zm_app_s (C := (1, some 9, true, [], zF_X9_hasBench)) (wl := zW_X) (as := [.ref 0]) (M := (I, J)) (k := fun v N => zm_V zT_X9_pileUp zW_X (14, [some (.ref 0), some (.int l1), some (.ref h), none], v.toList ++ [], N)) r9 rfl hF
  exact (zm_V_eq _ _ _).trans ((e h hh _).trans g)
set_option maxRecDepth 20000 in
theorem zq_X9_pileUp_X_14 (I : Nat → Nat → Int32) (J : Nat → Nat → Int64) (h : Nat) (l1 : Int32) (s0 : Int32) (hh : zm_isRow h) : zv_X9_pileUp_X_14 I J h l1 s0 = if s0 = 0 then zv_X9_pileUp_X_17 I J h l1 else zv_X9_pileUp_X_20 I J h l1 := by
  have key : ∀ (h : Nat), zm_isRow h → ∀ k : zm_S → zm_R, zm_step zT_X9_pileUp zW_X k (14, [some (.ref 0), some (.int l1), some (.ref h), none], [.int s0], (I, J)) = if s0 = 0 then k (17, [some (.ref 0), some (.int l1), some (.ref h), none], [], (I, J)) else k (20, [some (.ref 0), some (.int l1), some (.ref h), none], [], (I, J)) := by
    intro h hh
    rcases hh with rfl | rfl | rfl | rfl <;> (intro k; rfl)
  exact (zm_V_eq _ _ _).trans (key h hh _)
set_option maxRecDepth 20000 in
theorem zq_X9_pileUp_X_17 (I : Nat → Nat → Int32) (J : Nat → Nat → Int64) (h : Nat) (l1 : Int32) (hh : zm_isRow h) : zv_X9_pileUp_X_17 I J h l1 = some (some (.int (-2)), (I, J)) := by
  have key : ∀ (h : Nat), zm_isRow h → ∀ k : zm_S → zm_R, zm_step zT_X9_pileUp zW_X k (17, [some (.ref 0), some (.int l1), some (.ref h), none], [], (I, J)) = some (some (.int (-2)), (I, J)) := by
    intro h hh
    rcases hh with rfl | rfl | rfl | rfl <;> (intro k; rfl)
  exact (zm_V_eq _ _ _).trans (key h hh _)
set_option maxRecDepth 20000 in
theorem zc_X9_pileUp_X_20 (I : Nat → Nat → Int32) (J : Nat → Nat → Int64) (h : Nat) (l1 : Int32) (hh : zm_isRow h) {N : zm_I} {r : Int32} (hF : zF_X7_isMade zW_R [.ref 0] (zm_sub2 [(h, 2)] (I, J)) = some (some (.int r), N)) : zv_X9_pileUp_X_20 I J h l1 = zv_X9_pileUp_X_24 (zm_mrg [(h, 2)] (I, J) N).1 (zm_mrg [(h, 2)] (I, J) N).2 h l1 r := by
  have e : ∀ (h : Nat), zm_isRow h → ∀ k : zm_S → zm_R, zm_step zT_X9_pileUp zW_X k (20, [some (.ref 0), some (.int l1), some (.ref h), none], [], (I, J)) = zm_app (1, some 7, false, [(0, 2)], zF_X7_isMade) zW_X [.ref h] (I, J) (fun v N => k (24, [some (.ref 0), some (.int l1), some (.ref h), none], v.toList ++ [], N)) := by
    intro h hh
    rcases hh with rfl | rfl | rfl | rfl <;> (intro k; rfl)
  have r9 : zm_recv zW_X [.ref h] (some 7) = true ∧ (zm_dis [(h, 2)] && zm_bound (List.length zW_X) [(h, 2)]) = true ∧ zm_sub [(h, 2)] zW_X = zW_R ∧ List.map (zm_tr [(h, 2)]) [.ref h] = [.ref 0] := by
    clear hF e
    rcases hh with rfl | rfl | rfl | rfl <;> exact ⟨rfl, rfl, rfl, rfl⟩
  have g := zm_app_l (C := (1, some 7, false, [(0, 2)], zF_X7_isMade)) (wl := zW_X) (as := [.ref h]) (wc := zW_R) (ac := [.ref 0]) (bs := [(h, 2)]) (M := (I, J)) (k := fun v N => zm_V zT_X9_pileUp zW_X (24, [some (.ref 0), some (.int l1), some (.ref h), none], v.toList ++ [], N)) r9.1 rfl rfl r9.2.1 r9.2.2.1 r9.2.2.2 hF
  exact (zm_V_eq _ _ _).trans ((e h hh _).trans g)
set_option maxRecDepth 20000 in
theorem zq_X9_pileUp_X_24 (I : Nat → Nat → Int32) (J : Nat → Nat → Int64) (h : Nat) (l1 : Int32) (s0 : Int32) (hh : zm_isRow h) : zv_X9_pileUp_X_24 I J h l1 s0 = if s0 = 0 then zv_X9_pileUp_X_27 I J h l1 else zv_X9_pileUp_X_30 I J h l1 := by
  have key : ∀ (h : Nat), zm_isRow h → ∀ k : zm_S → zm_R, zm_step zT_X9_pileUp zW_X k (24, [some (.ref 0), some (.int l1), some (.ref h), none], [.int s0], (I, J)) = if s0 = 0 then k (27, [some (.ref 0), some (.int l1), some (.ref h), none], [], (I, J)) else k (30, [some (.ref 0), some (.int l1), some (.ref h), none], [], (I, J)) := by
    intro h hh
    rcases hh with rfl | rfl | rfl | rfl <;> (intro k; rfl)
  exact (zm_V_eq _ _ _).trans (key h hh _)
set_option maxRecDepth 20000 in
theorem zq_X9_pileUp_X_27 (I : Nat → Nat → Int32) (J : Nat → Nat → Int64) (h : Nat) (l1 : Int32) (hh : zm_isRow h) : zv_X9_pileUp_X_27 I J h l1 = some (some (.int (-6)), (I, J)) := by
  have key : ∀ (h : Nat), zm_isRow h → ∀ k : zm_S → zm_R, zm_step zT_X9_pileUp zW_X k (27, [some (.ref 0), some (.int l1), some (.ref h), none], [], (I, J)) = some (some (.int (-6)), (I, J)) := by
    intro h hh
    rcases hh with rfl | rfl | rfl | rfl <;> (intro k; rfl)
  exact (zm_V_eq _ _ _).trans (key h hh _)
set_option maxRecDepth 20000 in
theorem zq_X9_pileUp_X_30 (I : Nat → Nat → Int32) (J : Nat → Nat → Int64) (h : Nat) (l1 : Int32) (hh : zm_isRow h) : zv_X9_pileUp_X_30 I J h l1 = if ((I h 1) - (I h 1) / 2 * 2) = 0 then zv_X9_pileUp_X_42 I J h l1 else zv_X9_pileUp_X_39 I J h l1 := by
  have key : ∀ (h : Nat), zm_isRow h → ∀ k : zm_S → zm_R, zm_step zT_X9_pileUp zW_X k (30, [some (.ref 0), some (.int l1), some (.ref h), none], [], (I, J)) = if ((I h 1) - (I h 1) / 2 * 2) = 0 then k (42, [some (.ref 0), some (.int l1), some (.ref h), none], [], (I, J)) else k (39, [some (.ref 0), some (.int l1), some (.ref h), none], [], (I, J)) := by
    intro h hh
    rcases hh with rfl | rfl | rfl | rfl <;> (intro k; rfl)
  exact (zm_V_eq _ _ _).trans (key h hh _)
set_option maxRecDepth 20000 in
theorem zq_X9_pileUp_X_39 (I : Nat → Nat → Int32) (J : Nat → Nat → Int64) (h : Nat) (l1 : Int32) (hh : zm_isRow h) : zv_X9_pileUp_X_39 I J h l1 = some (some (.int (-2)), (I, J)) := by
  have key : ∀ (h : Nat), zm_isRow h → ∀ k : zm_S → zm_R, zm_step zT_X9_pileUp zW_X k (39, [some (.ref 0), some (.int l1), some (.ref h), none], [], (I, J)) = some (some (.int (-2)), (I, J)) := by
    intro h hh
    rcases hh with rfl | rfl | rfl | rfl <;> (intro k; rfl)
  exact (zm_V_eq _ _ _).trans (key h hh _)
set_option maxRecDepth 20000 in
theorem zq_X9_pileUp_X_42 (I : Nat → Nat → Int32) (J : Nat → Nat → Int64) (h : Nat) (l1 : Int32) (hh : zm_isRow h) : zv_X9_pileUp_X_42 I J h l1 = zv_X9_pileUp_X_44 I J h l1 0 := by
  have key : ∀ (h : Nat), zm_isRow h → ∀ k : zm_S → zm_R, zm_step zT_X9_pileUp zW_X k (42, [some (.ref 0), some (.int l1), some (.ref h), none], [], (I, J)) = k (44, [some (.ref 0), some (.int l1), some (.ref h), some (.int 0)], [], (I, J)) := by
    intro h hh
    rcases hh with rfl | rfl | rfl | rfl <;> (intro k; rfl)
  exact (zm_V_eq _ _ _).trans (key h hh _)
set_option maxRecDepth 20000 in
theorem zq_X9_pileUp_X_44 (I : Nat → Nat → Int32) (J : Nat → Nat → Int64) (h : Nat) (l1 : Int32) (l3 : Int32) (hh : zm_isRow h) : zv_X9_pileUp_X_44 I J h l1 l3 = if (I h 1) ≤ l3 then zv_X9_pileUp_X_72 I J h l1 l3 else zv_X9_pileUp_X_52 I J h l1 l3 := by
  have key : ∀ (h : Nat), zm_isRow h → ∀ k : zm_S → zm_R, zm_step zT_X9_pileUp zW_X k (44, [some (.ref 0), some (.int l1), some (.ref h), some (.int l3)], [], (I, J)) = if (I h 1) ≤ l3 then k (72, [some (.ref 0), some (.int l1), some (.ref h), some (.int l3)], [], (I, J)) else k (52, [some (.ref 0), some (.int l1), some (.ref h), some (.int l3)], [], (I, J)) := by
    intro h hh
    rcases hh with rfl | rfl | rfl | rfl <;> (intro k; rfl)
  exact (zm_V_eq _ _ _).trans (key h hh _)
set_option maxRecDepth 20000 in
theorem zc_X9_pileUp_X_52 (I : Nat → Nat → Int32) (J : Nat → Nat → Int64) (h : Nat) (l1 : Int32) (l3 : Int32) (hh : zm_isRow h) {N : zm_I} {r : Int32} (hF : zF_X7_isWithin zW_R [.ref 0, .int l3, .int 0, .int 9] (zm_sub2 [(h, 2)] (I, J)) = some (some (.int r), N)) : zv_X9_pileUp_X_52 I J h l1 l3 = zv_X9_pileUp_X_60 (zm_mrg [(h, 2)] (I, J) N).1 (zm_mrg [(h, 2)] (I, J) N).2 h l1 l3 r := by
  have e : ∀ (h : Nat), zm_isRow h → ∀ k : zm_S → zm_R, zm_step zT_X9_pileUp zW_X k (52, [some (.ref 0), some (.int l1), some (.ref h), some (.int l3)], [], (I, J)) = zm_app (4, some 7, false, [(0, 2)], zF_X7_isWithin) zW_X [.ref h, .int l3, .int 0, .int 9] (I, J) (fun v N => k (60, [some (.ref 0), some (.int l1), some (.ref h), some (.int l3)], v.toList ++ [], N)) := by
    intro h hh
    rcases hh with rfl | rfl | rfl | rfl <;> (intro k; rfl)
  have r9 : zm_recv zW_X [.ref h, .int l3, .int 0, .int 9] (some 7) = true ∧ (zm_dis [(h, 2)] && zm_bound (List.length zW_X) [(h, 2)]) = true ∧ zm_sub [(h, 2)] zW_X = zW_R ∧ List.map (zm_tr [(h, 2)]) [.ref h, .int l3, .int 0, .int 9] = [.ref 0, .int l3, .int 0, .int 9] := by
    clear hF e
    rcases hh with rfl | rfl | rfl | rfl <;> exact ⟨rfl, rfl, rfl, rfl⟩
  have g := zm_app_l (C := (4, some 7, false, [(0, 2)], zF_X7_isWithin)) (wl := zW_X) (as := [.ref h, .int l3, .int 0, .int 9]) (wc := zW_R) (ac := [.ref 0, .int l3, .int 0, .int 9]) (bs := [(h, 2)]) (M := (I, J)) (k := fun v N => zm_V zT_X9_pileUp zW_X (60, [some (.ref 0), some (.int l1), some (.ref h), some (.int l3)], v.toList ++ [], N)) r9.1 rfl rfl r9.2.1 r9.2.2.1 r9.2.2.2 hF
  exact (zm_V_eq _ _ _).trans ((e h hh _).trans g)
set_option maxRecDepth 20000 in
theorem zq_X9_pileUp_X_60 (I : Nat → Nat → Int32) (J : Nat → Nat → Int64) (h : Nat) (l1 : Int32) (l3 : Int32) (s0 : Int32) (hh : zm_isRow h) : zv_X9_pileUp_X_60 I J h l1 l3 s0 = if s0 = 0 then zv_X9_pileUp_X_63 I J h l1 l3 else zv_X9_pileUp_X_66 I J h l1 l3 := by
  have key : ∀ (h : Nat), zm_isRow h → ∀ k : zm_S → zm_R, zm_step zT_X9_pileUp zW_X k (60, [some (.ref 0), some (.int l1), some (.ref h), some (.int l3)], [.int s0], (I, J)) = if s0 = 0 then k (63, [some (.ref 0), some (.int l1), some (.ref h), some (.int l3)], [], (I, J)) else k (66, [some (.ref 0), some (.int l1), some (.ref h), some (.int l3)], [], (I, J)) := by
    intro h hh
    rcases hh with rfl | rfl | rfl | rfl <;> (intro k; rfl)
  exact (zm_V_eq _ _ _).trans (key h hh _)
set_option maxRecDepth 20000 in
theorem zq_X9_pileUp_X_63 (I : Nat → Nat → Int32) (J : Nat → Nat → Int64) (h : Nat) (l1 : Int32) (l3 : Int32) (hh : zm_isRow h) : zv_X9_pileUp_X_63 I J h l1 l3 = some (some (.int (-2)), (I, J)) := by
  have key : ∀ (h : Nat), zm_isRow h → ∀ k : zm_S → zm_R, zm_step zT_X9_pileUp zW_X k (63, [some (.ref 0), some (.int l1), some (.ref h), some (.int l3)], [], (I, J)) = some (some (.int (-2)), (I, J)) := by
    intro h hh
    rcases hh with rfl | rfl | rfl | rfl <;> (intro k; rfl)
  exact (zm_V_eq _ _ _).trans (key h hh _)
set_option maxRecDepth 20000 in
theorem zq_X9_pileUp_X_66 (I : Nat → Nat → Int32) (J : Nat → Nat → Int64) (h : Nat) (l1 : Int32) (l3 : Int32) (hh : zm_isRow h) : zv_X9_pileUp_X_66 I J h l1 l3 = zv_X9_pileUp_X_44 I J h l1 (l3 + 1) := by
  have key : ∀ (h : Nat), zm_isRow h → ∀ k : zm_S → zm_R, zm_step zT_X9_pileUp zW_X k (66, [some (.ref 0), some (.int l1), some (.ref h), some (.int l3)], [], (I, J)) = k (44, [some (.ref 0), some (.int l1), some (.ref h), some (.int (l3 + 1))], [], (I, J)) := by
    intro h hh
    rcases hh with rfl | rfl | rfl | rfl <;> (intro k; rfl)
  exact (zm_V_eq _ _ _).trans (key h hh _)
set_option maxRecDepth 20000 in
theorem zc_X9_pileUp_X_72 (I : Nat → Nat → Int32) (J : Nat → Nat → Int64) (h : Nat) (l1 : Int32) (l3 : Int32) (hh : zm_isRow h) {N : zm_I} (hF : zF_X5_sort zW_PR [.ref 0, .ref 3] (zm_sub2 [(63, 3), (h, 2)] (I, J)) = some (none, N)) : zv_X9_pileUp_X_72 I J h l1 l3 = zv_X9_pileUp_X_80 (zm_mrg [(63, 3), (h, 2)] (I, J) N).1 (zm_mrg [(63, 3), (h, 2)] (I, J) N).2 h l1 l3 := by
  have e : ∀ (h : Nat), zm_isRow h → ∀ k : zm_S → zm_R, zm_step zT_X9_pileUp zW_X k (72, [some (.ref 0), some (.int l1), some (.ref h), some (.int l3)], [], (I, J)) = zm_app (2, some 5, false, [(0, 3), (1, 2)], zF_X5_sort) zW_X [.ref 63, .ref h] (I, J) (fun v N => k (80, [some (.ref 0), some (.int l1), some (.ref h), some (.int l3)], v.toList ++ [], N)) := by
    intro h hh
    rcases hh with rfl | rfl | rfl | rfl <;> (intro k; rfl)
  have r9 : zm_recv zW_X [.ref 63, .ref h] (some 5) = true ∧ (zm_dis [(63, 3), (h, 2)] && zm_bound (List.length zW_X) [(63, 3), (h, 2)]) = true ∧ zm_sub [(63, 3), (h, 2)] zW_X = zW_PR ∧ List.map (zm_tr [(63, 3), (h, 2)]) [.ref 63, .ref h] = [.ref 0, .ref 3] := by
    clear hF e
    rcases hh with rfl | rfl | rfl | rfl <;> exact ⟨rfl, rfl, rfl, rfl⟩
  have g := zm_app_l (C := (2, some 5, false, [(0, 3), (1, 2)], zF_X5_sort)) (wl := zW_X) (as := [.ref 63, .ref h]) (wc := zW_PR) (ac := [.ref 0, .ref 3]) (bs := [(63, 3), (h, 2)]) (M := (I, J)) (k := fun v N => zm_V zT_X9_pileUp zW_X (80, [some (.ref 0), some (.int l1), some (.ref h), some (.int l3)], v.toList ++ [], N)) r9.1 rfl rfl r9.2.1 r9.2.2.1 r9.2.2.2 hF
  exact (zm_V_eq _ _ _).trans ((e h hh _).trans g)
set_option maxRecDepth 20000 in
theorem zq_X9_pileUp_X_80 (I : Nat → Nat → Int32) (J : Nat → Nat → Int64) (h : Nat) (l1 : Int32) (l3 : Int32) (hh : zm_isRow h) : zv_X9_pileUp_X_80 I J h l1 l3 = some (some (.int 0), (I, J)) := by
  have key : ∀ (h : Nat), zm_isRow h → ∀ k : zm_S → zm_R, zm_step zT_X9_pileUp zW_X k (80, [some (.ref 0), some (.int l1), some (.ref h), some (.int l3)], [], (I, J)) = some (some (.int 0), (I, J)) := by
    intro h hh
    rcases hh with rfl | rfl | rfl | rfl <;> (intro k; rfl)
  exact (zm_V_eq _ _ _).trans (key h hh _)
theorem zf_X9_pileUp_X (I : Nat → Nat → Int32) (J : Nat → Nat → Int64) (l1 : Int32) : zF_X9_pileUp zW_X [.ref 0, .int l1] (I, J) = zv_X9_pileUp_X_0 I J l1 := rfl
noncomputable def zv_X9_pileUp_Xn_0 (I : Nat → Nat → Int32) (J : Nat → Nat → Int64) (l1 : Int32) : zm_R := zm_V zT_X9_pileUp zW_X (0, [some (.ref 0), some (.int l1), none, none], [], (I, J))
noncomputable def zv_X9_pileUp_Xn_5 (I : Nat → Nat → Int32) (J : Nat → Nat → Int64) (l1 : Int32) : zm_R := zm_V zT_X9_pileUp zW_X (5, [some (.ref 0), some (.int l1), none, none], [.null], (I, J))
noncomputable def zv_X9_pileUp_Xn_17 (I : Nat → Nat → Int32) (J : Nat → Nat → Int64) (l1 : Int32) : zm_R := zm_V zT_X9_pileUp zW_X (17, [some (.ref 0), some (.int l1), some (.null), none], [], (I, J))
set_option maxRecDepth 20000 in
theorem zc_X9_pileUp_Xn_0 (I : Nat → Nat → Int32) (J : Nat → Nat → Int64) (l1 : Int32) {I2 : Nat → Nat → Int32} {J2 : Nat → Nat → Int64} (hF : zF_X9_rowAt zW_X [.ref 0, .int l1] (I, J) = some (some (.null), (I2, J2))) : zv_X9_pileUp_Xn_0 I J l1 = zv_X9_pileUp_Xn_5 I2 J2 l1 := by
  have e : ∀ k : zm_S → zm_R, zm_step zT_X9_pileUp zW_X k (0, [some (.ref 0), some (.int l1), none, none], [], (I, J)) = zm_app (2, some 9, true, [], zF_X9_rowAt) zW_X [.ref 0, .int l1] (I, J) (fun v N => k (5, [some (.ref 0), some (.int l1), none, none], v.toList ++ [], N)) := fun k => rfl
  have g := zm_app_s (C := (2, some 9, true, [], zF_X9_rowAt)) (wl := zW_X) (as := [.ref 0, .int l1]) (M := (I, J)) (k := fun v N => zm_V zT_X9_pileUp zW_X (5, [some (.ref 0), some (.int l1), none, none], v.toList ++ [], N)) rfl rfl hF
  exact (zm_V_eq _ _ _).trans ((e _).trans g)
set_option maxRecDepth 20000 in
theorem zq_X9_pileUp_Xn_5 (I : Nat → Nat → Int32) (J : Nat → Nat → Int64) (l1 : Int32) : zv_X9_pileUp_Xn_5 I J l1 = zv_X9_pileUp_Xn_17 I J l1 := (zm_V_eq _ _ _).trans ((fun (k : zm_S → zm_R) => (rfl : zm_step zT_X9_pileUp zW_X k (5, [some (.ref 0), some (.int l1), none, none], [.null], (I, J)) = k (17, [some (.ref 0), some (.int l1), some (.null), none], [], (I, J)))) (zm_V zT_X9_pileUp zW_X))
set_option maxRecDepth 20000 in
theorem zq_X9_pileUp_Xn_17 (I : Nat → Nat → Int32) (J : Nat → Nat → Int64) (l1 : Int32) : zv_X9_pileUp_Xn_17 I J l1 = some (some (.int (-2)), (I, J)) := (zm_V_eq _ _ _).trans ((fun (k : zm_S → zm_R) => (rfl : zm_step zT_X9_pileUp zW_X k (17, [some (.ref 0), some (.int l1), some (.null), none], [], (I, J)) = some (some (.int (-2)), (I, J)))) (zm_V zT_X9_pileUp zW_X))
theorem zf_X9_pileUp_Xn (I : Nat → Nat → Int32) (J : Nat → Nat → Int64) (l1 : Int32) : zF_X9_pileUp zW_X [.ref 0, .int l1] (I, J) = zv_X9_pileUp_Xn_0 I J l1 := rfl
noncomputable def zv_X7_copyStretch_X_0 (I : Nat → Nat → Int32) (J : Nat → Nat → Int64) (h : Nat) (h2 : Nat) (l2 : Int32) (l3 : Int32) (l4 : Int32) : zm_R := zm_V zT_X7_copyStretch zW_X (0, [some (.ref h), some (.ref h2), some (.int l2), some (.int l3), some (.int l4), none], [], (I, J))
noncomputable def zv_X7_copyStretch_X_5 (I : Nat → Nat → Int32) (J : Nat → Nat → Int64) (h : Nat) (h2 : Nat) (l2 : Int32) (l3 : Int32) (l4 : Int32) : zm_R := zm_V zT_X7_copyStretch zW_X (5, [some (.ref h), some (.ref h2), some (.int l2), some (.int l3), some (.int l4), none], [], (I, J))
noncomputable def zv_X7_copyStretch_X_8 (I : Nat → Nat → Int32) (J : Nat → Nat → Int64) (h : Nat) (h2 : Nat) (l2 : Int32) (l3 : Int32) (l4 : Int32) (l5 : Int32) : zm_R := zm_V zT_X7_copyStretch zW_X (8, [some (.ref h), some (.ref h2), some (.int l2), some (.int l3), some (.int l4), some (.int l5)], [], (I, J))
noncomputable def zv_X7_copyStretch_X_15 (I : Nat → Nat → Int32) (J : Nat → Nat → Int64) (h : Nat) (h2 : Nat) (l2 : Int32) (l3 : Int32) (l4 : Int32) (l5 : Int32) : zm_R := zm_V zT_X7_copyStretch zW_X (15, [some (.ref h), some (.ref h2), some (.int l2), some (.int l3), some (.int l4), some (.int l5)], [], (I, J))
noncomputable def zv_X7_copyStretch_X_39 (I : Nat → Nat → Int32) (J : Nat → Nat → Int64) (h : Nat) (h2 : Nat) (l2 : Int32) (l3 : Int32) (l4 : Int32) (l5 : Int32) : zm_R := zm_V zT_X7_copyStretch zW_X (39, [some (.ref h), some (.ref h2), some (.int l2), some (.int l3), some (.int l4), some (.int l5)], [], (I, J))
noncomputable def zv_X7_copyStretch_X_42 (I : Nat → Nat → Int32) (J : Nat → Nat → Int64) (h : Nat) (h2 : Nat) (l2 : Int32) (l3 : Int32) (l4 : Int32) : zm_R := zm_V zT_X7_copyStretch zW_X (42, [some (.ref h), some (.ref h2), some (.int l2), some (.int l3), some (.int l4), none], [], (I, J))
noncomputable def zv_X7_copyStretch_X_48 (I : Nat → Nat → Int32) (J : Nat → Nat → Int64) (h : Nat) (h2 : Nat) (l2 : Int32) (l3 : Int32) (l4 : Int32) (l5 : Int32) : zm_R := zm_V zT_X7_copyStretch zW_X (48, [some (.ref h), some (.ref h2), some (.int l2), some (.int l3), some (.int l4), some (.int l5)], [], (I, J))
noncomputable def zv_X7_copyStretch_X_53 (I : Nat → Nat → Int32) (J : Nat → Nat → Int64) (h : Nat) (h2 : Nat) (l2 : Int32) (l3 : Int32) (l4 : Int32) (l5 : Int32) : zm_R := zm_V zT_X7_copyStretch zW_X (53, [some (.ref h), some (.ref h2), some (.int l2), some (.int l3), some (.int l4), some (.int l5)], [], (I, J))
noncomputable def zv_X7_copyStretch_X_77 (I : Nat → Nat → Int32) (J : Nat → Nat → Int64) (h : Nat) (h2 : Nat) (l2 : Int32) (l3 : Int32) (l4 : Int32) (l5 : Int32) : zm_R := zm_V zT_X7_copyStretch zW_X (77, [some (.ref h), some (.ref h2), some (.int l2), some (.int l3), some (.int l4), some (.int l5)], [], (I, J))
set_option maxRecDepth 20000 in
theorem zq_X7_copyStretch_X_0 (I : Nat → Nat → Int32) (J : Nat → Nat → Int64) (h : Nat) (h2 : Nat) (l2 : Int32) (l3 : Int32) (l4 : Int32) (hh : zm_isRow h) (hh2 : zm_isRow h2) : zv_X7_copyStretch_X_0 I J h h2 l2 l3 l4 = if l2 < l3 then zv_X7_copyStretch_X_42 I J h h2 l2 l3 l4 else zv_X7_copyStretch_X_5 I J h h2 l2 l3 l4 := by
  have key : ∀ (h : Nat) (h2 : Nat), zm_isRow h → zm_isRow h2 → ∀ k : zm_S → zm_R, zm_step zT_X7_copyStretch zW_X k (0, [some (.ref h), some (.ref h2), some (.int l2), some (.int l3), some (.int l4), none], [], (I, J)) = if l2 < l3 then k (42, [some (.ref h), some (.ref h2), some (.int l2), some (.int l3), some (.int l4), none], [], (I, J)) else k (5, [some (.ref h), some (.ref h2), some (.int l2), some (.int l3), some (.int l4), none], [], (I, J)) := by
    intro h h2 hh hh2
    rcases hh with rfl | rfl | rfl | rfl <;> rcases hh2 with rfl | rfl | rfl | rfl <;> (intro k; rfl)
  exact (zm_V_eq _ _ _).trans (key h h2 hh hh2 _)
set_option maxRecDepth 20000 in
theorem zq_X7_copyStretch_X_5 (I : Nat → Nat → Int32) (J : Nat → Nat → Int64) (h : Nat) (h2 : Nat) (l2 : Int32) (l3 : Int32) (l4 : Int32) (hh : zm_isRow h) (hh2 : zm_isRow h2) : zv_X7_copyStretch_X_5 I J h h2 l2 l3 l4 = zv_X7_copyStretch_X_8 I J h h2 l2 l3 l4 0 := by
  have key : ∀ (h : Nat) (h2 : Nat), zm_isRow h → zm_isRow h2 → ∀ k : zm_S → zm_R, zm_step zT_X7_copyStretch zW_X k (5, [some (.ref h), some (.ref h2), some (.int l2), some (.int l3), some (.int l4), none], [], (I, J)) = k (8, [some (.ref h), some (.ref h2), some (.int l2), some (.int l3), some (.int l4), some (.int 0)], [], (I, J)) := by
    intro h h2 hh hh2
    rcases hh with rfl | rfl | rfl | rfl <;> rcases hh2 with rfl | rfl | rfl | rfl <;> (intro k; rfl)
  exact (zm_V_eq _ _ _).trans (key h h2 hh hh2 _)
set_option maxRecDepth 20000 in
theorem zq_X7_copyStretch_X_8 (I : Nat → Nat → Int32) (J : Nat → Nat → Int64) (h : Nat) (h2 : Nat) (l2 : Int32) (l3 : Int32) (l4 : Int32) (l5 : Int32) (hh : zm_isRow h) (hh2 : zm_isRow h2) : zv_X7_copyStretch_X_8 I J h h2 l2 l3 l4 l5 = if l4 ≤ l5 then zv_X7_copyStretch_X_39 I J h h2 l2 l3 l4 l5 else zv_X7_copyStretch_X_15 I J h h2 l2 l3 l4 l5 := by
  have key : ∀ (h : Nat) (h2 : Nat), zm_isRow h → zm_isRow h2 → ∀ k : zm_S → zm_R, zm_step zT_X7_copyStretch zW_X k (8, [some (.ref h), some (.ref h2), some (.int l2), some (.int l3), some (.int l4), some (.int l5)], [], (I, J)) = if l4 ≤ l5 then k (39, [some (.ref h), some (.ref h2), some (.int l2), some (.int l3), some (.int l4), some (.int l5)], [], (I, J)) else k (15, [some (.ref h), some (.ref h2), some (.int l2), some (.int l3), some (.int l4), some (.int l5)], [], (I, J)) := by
    intro h h2 hh hh2
    rcases hh with rfl | rfl | rfl | rfl <;> rcases hh2 with rfl | rfl | rfl | rfl <;> (intro k; rfl)
  exact (zm_V_eq _ _ _).trans (key h h2 hh hh2 _)
set_option maxRecDepth 20000 in
theorem zq_X7_copyStretch_X_15 (I : Nat → Nat → Int32) (J : Nat → Nat → Int64) (h : Nat) (h2 : Nat) (l2 : Int32) (l3 : Int32) (l4 : Int32) (l5 : Int32) (hh : zm_isRow h) (hh2 : zm_isRow h2) : zv_X7_copyStretch_X_15 I J h h2 l2 l3 l4 l5 = if ((l2 + l5) : Int32) < 0 ∨ 60 ≤ Int32.toNatClampNeg (l2 + l5) then none else if ((l3 + l5) : Int32) < 0 ∨ 60 ≤ Int32.toNatClampNeg (l3 + l5) then none else zv_X7_copyStretch_X_8 I (zm_wl J (h + 1) (Int32.toNatClampNeg (l3 + l5)) (J (h2 + 1) (Int32.toNatClampNeg (l2 + l5)))) h h2 l2 l3 l4 (l5 + 1) := by
  have key : ∀ (h : Nat) (h2 : Nat), zm_isRow h → zm_isRow h2 → ∀ k : zm_S → zm_R, zm_step zT_X7_copyStretch zW_X k (15, [some (.ref h), some (.ref h2), some (.int l2), some (.int l3), some (.int l4), some (.int l5)], [], (I, J)) = if ((l2 + l5) : Int32) < 0 ∨ 60 ≤ Int32.toNatClampNeg (l2 + l5) then none else if ((l3 + l5) : Int32) < 0 ∨ 60 ≤ Int32.toNatClampNeg (l3 + l5) then none else k (8, [some (.ref h), some (.ref h2), some (.int l2), some (.int l3), some (.int l4), some (.int (l5 + 1))], [], (I, (zm_wl J (h + 1) (Int32.toNatClampNeg (l3 + l5)) (J (h2 + 1) (Int32.toNatClampNeg (l2 + l5)))))) := by
    intro h h2 hh hh2
    rcases hh with rfl | rfl | rfl | rfl <;> rcases hh2 with rfl | rfl | rfl | rfl <;> (intro k; rfl)
  exact (zm_V_eq _ _ _).trans (key h h2 hh hh2 _)
set_option maxRecDepth 20000 in
theorem zq_X7_copyStretch_X_39 (I : Nat → Nat → Int32) (J : Nat → Nat → Int64) (h : Nat) (h2 : Nat) (l2 : Int32) (l3 : Int32) (l4 : Int32) (l5 : Int32) (hh : zm_isRow h) (hh2 : zm_isRow h2) : zv_X7_copyStretch_X_39 I J h h2 l2 l3 l4 l5 = zv_X7_copyStretch_X_77 I J h h2 l2 l3 l4 l5 := by
  have key : ∀ (h : Nat) (h2 : Nat), zm_isRow h → zm_isRow h2 → ∀ k : zm_S → zm_R, zm_step zT_X7_copyStretch zW_X k (39, [some (.ref h), some (.ref h2), some (.int l2), some (.int l3), some (.int l4), some (.int l5)], [], (I, J)) = k (77, [some (.ref h), some (.ref h2), some (.int l2), some (.int l3), some (.int l4), some (.int l5)], [], (I, J)) := by
    intro h h2 hh hh2
    rcases hh with rfl | rfl | rfl | rfl <;> rcases hh2 with rfl | rfl | rfl | rfl <;> (intro k; rfl)
  exact (zm_V_eq _ _ _).trans (key h h2 hh hh2 _)
set_option maxRecDepth 20000 in
theorem zq_X7_copyStretch_X_42 (I : Nat → Nat → Int32) (J : Nat → Nat → Int64) (h : Nat) (h2 : Nat) (l2 : Int32) (l3 : Int32) (l4 : Int32) (hh : zm_isRow h) (hh2 : zm_isRow h2) : zv_X7_copyStretch_X_42 I J h h2 l2 l3 l4 = zv_X7_copyStretch_X_48 I J h h2 l2 l3 l4 (l4 - 1) := by
  have key : ∀ (h : Nat) (h2 : Nat), zm_isRow h → zm_isRow h2 → ∀ k : zm_S → zm_R, zm_step zT_X7_copyStretch zW_X k (42, [some (.ref h), some (.ref h2), some (.int l2), some (.int l3), some (.int l4), none], [], (I, J)) = k (48, [some (.ref h), some (.ref h2), some (.int l2), some (.int l3), some (.int l4), some (.int (l4 - 1))], [], (I, J)) := by
    intro h h2 hh hh2
    rcases hh with rfl | rfl | rfl | rfl <;> rcases hh2 with rfl | rfl | rfl | rfl <;> (intro k; rfl)
  exact (zm_V_eq _ _ _).trans (key h h2 hh hh2 _)
set_option maxRecDepth 20000 in
theorem zq_X7_copyStretch_X_48 (I : Nat → Nat → Int32) (J : Nat → Nat → Int64) (h : Nat) (h2 : Nat) (l2 : Int32) (l3 : Int32) (l4 : Int32) (l5 : Int32) (hh : zm_isRow h) (hh2 : zm_isRow h2) : zv_X7_copyStretch_X_48 I J h h2 l2 l3 l4 l5 = if l5 < 0 then zv_X7_copyStretch_X_77 I J h h2 l2 l3 l4 l5 else zv_X7_copyStretch_X_53 I J h h2 l2 l3 l4 l5 := by
  have key : ∀ (h : Nat) (h2 : Nat), zm_isRow h → zm_isRow h2 → ∀ k : zm_S → zm_R, zm_step zT_X7_copyStretch zW_X k (48, [some (.ref h), some (.ref h2), some (.int l2), some (.int l3), some (.int l4), some (.int l5)], [], (I, J)) = if l5 < 0 then k (77, [some (.ref h), some (.ref h2), some (.int l2), some (.int l3), some (.int l4), some (.int l5)], [], (I, J)) else k (53, [some (.ref h), some (.ref h2), some (.int l2), some (.int l3), some (.int l4), some (.int l5)], [], (I, J)) := by
    intro h h2 hh hh2
    rcases hh with rfl | rfl | rfl | rfl <;> rcases hh2 with rfl | rfl | rfl | rfl <;> (intro k; rfl)
  exact (zm_V_eq _ _ _).trans (key h h2 hh hh2 _)
set_option maxRecDepth 20000 in
theorem zq_X7_copyStretch_X_53 (I : Nat → Nat → Int32) (J : Nat → Nat → Int64) (h : Nat) (h2 : Nat) (l2 : Int32) (l3 : Int32) (l4 : Int32) (l5 : Int32) (hh : zm_isRow h) (hh2 : zm_isRow h2) : zv_X7_copyStretch_X_53 I J h h2 l2 l3 l4 l5 = if ((l2 + l5) : Int32) < 0 ∨ 60 ≤ Int32.toNatClampNeg (l2 + l5) then none else if ((l3 + l5) : Int32) < 0 ∨ 60 ≤ Int32.toNatClampNeg (l3 + l5) then none else zv_X7_copyStretch_X_48 I (zm_wl J (h + 1) (Int32.toNatClampNeg (l3 + l5)) (J (h2 + 1) (Int32.toNatClampNeg (l2 + l5)))) h h2 l2 l3 l4 (l5 + (-1)) := by
  have key : ∀ (h : Nat) (h2 : Nat), zm_isRow h → zm_isRow h2 → ∀ k : zm_S → zm_R, zm_step zT_X7_copyStretch zW_X k (53, [some (.ref h), some (.ref h2), some (.int l2), some (.int l3), some (.int l4), some (.int l5)], [], (I, J)) = if ((l2 + l5) : Int32) < 0 ∨ 60 ≤ Int32.toNatClampNeg (l2 + l5) then none else if ((l3 + l5) : Int32) < 0 ∨ 60 ≤ Int32.toNatClampNeg (l3 + l5) then none else k (48, [some (.ref h), some (.ref h2), some (.int l2), some (.int l3), some (.int l4), some (.int (l5 + (-1)))], [], (I, (zm_wl J (h + 1) (Int32.toNatClampNeg (l3 + l5)) (J (h2 + 1) (Int32.toNatClampNeg (l2 + l5)))))) := by
    intro h h2 hh hh2
    rcases hh with rfl | rfl | rfl | rfl <;> rcases hh2 with rfl | rfl | rfl | rfl <;> (intro k; rfl)
  exact (zm_V_eq _ _ _).trans (key h h2 hh hh2 _)
set_option maxRecDepth 20000 in
theorem zq_X7_copyStretch_X_77 (I : Nat → Nat → Int32) (J : Nat → Nat → Int64) (h : Nat) (h2 : Nat) (l2 : Int32) (l3 : Int32) (l4 : Int32) (l5 : Int32) (hh : zm_isRow h) (hh2 : zm_isRow h2) : zv_X7_copyStretch_X_77 I J h h2 l2 l3 l4 l5 = some (none, (I, J)) := by
  have key : ∀ (h : Nat) (h2 : Nat), zm_isRow h → zm_isRow h2 → ∀ k : zm_S → zm_R, zm_step zT_X7_copyStretch zW_X k (77, [some (.ref h), some (.ref h2), some (.int l2), some (.int l3), some (.int l4), some (.int l5)], [], (I, J)) = some (none, (I, J)) := by
    intro h h2 hh hh2
    rcases hh with rfl | rfl | rfl | rfl <;> rcases hh2 with rfl | rfl | rfl | rfl <;> (intro k; rfl)
  exact (zm_V_eq _ _ _).trans (key h h2 hh hh2 _)
theorem zf_X7_copyStretch_X (I : Nat → Nat → Int32) (J : Nat → Nat → Int64) (h : Nat) (h2 : Nat) (l2 : Int32) (l3 : Int32) (l4 : Int32) : zF_X7_copyStretch zW_X [.ref h, .ref h2, .int l2, .int l3, .int l4] (I, J) = zv_X7_copyStretch_X_0 I J h h2 l2 l3 l4 := rfl
noncomputable def zv_X9_paste_X_0 (I : Nat → Nat → Int32) (J : Nat → Nat → Int64) (l1 : Int32) (l2 : Int32) (l3 : Int32) (l4 : Int32) (l5 : Int32) : zm_R := zm_V zT_X9_paste zW_X (0, [some (.ref 0), some (.int l1), some (.int l2), some (.int l3), some (.int l4), some (.int l5), none, none], [], (I, J))
noncomputable def zv_X9_paste_X_5 (I : Nat → Nat → Int32) (J : Nat → Nat → Int64) (h : Nat) (l1 : Int32) (l2 : Int32) (l3 : Int32) (l4 : Int32) (l5 : Int32) : zm_R := zm_V zT_X9_paste zW_X (5, [some (.ref 0), some (.int l1), some (.int l2), some (.int l3), some (.int l4), some (.int l5), none, none], [.ref h], (I, J))
noncomputable def zv_X9_paste_X_12 (I : Nat → Nat → Int32) (J : Nat → Nat → Int64) (h : Nat) (h2 : Nat) (l1 : Int32) (l2 : Int32) (l3 : Int32) (l4 : Int32) (l5 : Int32) : zm_R := zm_V zT_X9_paste zW_X (12, [some (.ref 0), some (.int l1), some (.int l2), some (.int l3), some (.int l4), some (.int l5), some (.ref h), none], [.ref h2], (I, J))
noncomputable def zv_X9_paste_X_19 (I : Nat → Nat → Int32) (J : Nat → Nat → Int64) (h : Nat) (h2 : Nat) (l1 : Int32) (l2 : Int32) (l3 : Int32) (l4 : Int32) (l5 : Int32) : zm_R := zm_V zT_X9_paste zW_X (19, [some (.ref 0), some (.int l1), some (.int l2), some (.int l3), some (.int l4), some (.int l5), some (.ref h), some (.ref h2)], [], (I, J))
noncomputable def zv_X9_paste_X_27 (I : Nat → Nat → Int32) (J : Nat → Nat → Int64) (h : Nat) (h2 : Nat) (l1 : Int32) (l2 : Int32) (l3 : Int32) (l4 : Int32) (l5 : Int32) : zm_R := zm_V zT_X9_paste zW_X (27, [some (.ref 0), some (.int l1), some (.int l2), some (.int l3), some (.int l4), some (.int l5), some (.ref h), some (.ref h2)], [], (I, J))
noncomputable def zv_X9_paste_X_32 (I : Nat → Nat → Int32) (J : Nat → Nat → Int64) (h : Nat) (h2 : Nat) (l1 : Int32) (l2 : Int32) (l3 : Int32) (l4 : Int32) (l5 : Int32) (s0 : Int32) : zm_R := zm_V zT_X9_paste zW_X (32, [some (.ref 0), some (.int l1), some (.int l2), some (.int l3), some (.int l4), some (.int l5), some (.ref h), some (.ref h2)], [.int s0], (I, J))
noncomputable def zv_X9_paste_X_35 (I : Nat → Nat → Int32) (J : Nat → Nat → Int64) (h : Nat) (h2 : Nat) (l1 : Int32) (l2 : Int32) (l3 : Int32) (l4 : Int32) (l5 : Int32) : zm_R := zm_V zT_X9_paste zW_X (35, [some (.ref 0), some (.int l1), some (.int l2), some (.int l3), some (.int l4), some (.int l5), some (.ref h), some (.ref h2)], [], (I, J))
noncomputable def zv_X9_paste_X_40 (I : Nat → Nat → Int32) (J : Nat → Nat → Int64) (h : Nat) (h2 : Nat) (l1 : Int32) (l2 : Int32) (l3 : Int32) (l4 : Int32) (l5 : Int32) (s0 : Int32) : zm_R := zm_V zT_X9_paste zW_X (40, [some (.ref 0), some (.int l1), some (.int l2), some (.int l3), some (.int l4), some (.int l5), some (.ref h), some (.ref h2)], [.int s0], (I, J))
noncomputable def zv_X9_paste_X_43 (I : Nat → Nat → Int32) (J : Nat → Nat → Int64) (h : Nat) (h2 : Nat) (l1 : Int32) (l2 : Int32) (l3 : Int32) (l4 : Int32) (l5 : Int32) : zm_R := zm_V zT_X9_paste zW_X (43, [some (.ref 0), some (.int l1), some (.int l2), some (.int l3), some (.int l4), some (.int l5), some (.ref h), some (.ref h2)], [], (I, J))
noncomputable def zv_X9_paste_X_46 (I : Nat → Nat → Int32) (J : Nat → Nat → Int64) (h : Nat) (h2 : Nat) (l1 : Int32) (l2 : Int32) (l3 : Int32) (l4 : Int32) (l5 : Int32) : zm_R := zm_V zT_X9_paste zW_X (46, [some (.ref 0), some (.int l1), some (.int l2), some (.int l3), some (.int l4), some (.int l5), some (.ref h), some (.ref h2)], [], (I, J))
noncomputable def zv_X9_paste_X_59 (I : Nat → Nat → Int32) (J : Nat → Nat → Int64) (h : Nat) (h2 : Nat) (l1 : Int32) (l2 : Int32) (l3 : Int32) (l4 : Int32) (l5 : Int32) : zm_R := zm_V zT_X9_paste zW_X (59, [some (.ref 0), some (.int l1), some (.int l2), some (.int l3), some (.int l4), some (.int l5), some (.ref h), some (.ref h2)], [], (I, J))
noncomputable def zv_X9_paste_X_62 (I : Nat → Nat → Int32) (J : Nat → Nat → Int64) (h : Nat) (h2 : Nat) (l1 : Int32) (l2 : Int32) (l3 : Int32) (l4 : Int32) (l5 : Int32) : zm_R := zm_V zT_X9_paste zW_X (62, [some (.ref 0), some (.int l1), some (.int l2), some (.int l3), some (.int l4), some (.int l5), some (.ref h), some (.ref h2)], [], (I, J))
noncomputable def zv_X9_paste_X_70 (I : Nat → Nat → Int32) (J : Nat → Nat → Int64) (h : Nat) (h2 : Nat) (l1 : Int32) (l2 : Int32) (l3 : Int32) (l4 : Int32) (l5 : Int32) (s0 : Int32) : zm_R := zm_V zT_X9_paste zW_X (70, [some (.ref 0), some (.int l1), some (.int l2), some (.int l3), some (.int l4), some (.int l5), some (.ref h), some (.ref h2)], [.int s0], (I, J))
noncomputable def zv_X9_paste_X_73 (I : Nat → Nat → Int32) (J : Nat → Nat → Int64) (h : Nat) (h2 : Nat) (l1 : Int32) (l2 : Int32) (l3 : Int32) (l4 : Int32) (l5 : Int32) : zm_R := zm_V zT_X9_paste zW_X (73, [some (.ref 0), some (.int l1), some (.int l2), some (.int l3), some (.int l4), some (.int l5), some (.ref h), some (.ref h2)], [], (I, J))
noncomputable def zv_X9_paste_X_82 (I : Nat → Nat → Int32) (J : Nat → Nat → Int64) (h : Nat) (h2 : Nat) (l1 : Int32) (l2 : Int32) (l3 : Int32) (l4 : Int32) (l5 : Int32) (s0 : Int32) : zm_R := zm_V zT_X9_paste zW_X (82, [some (.ref 0), some (.int l1), some (.int l2), some (.int l3), some (.int l4), some (.int l5), some (.ref h), some (.ref h2)], [.int s0], (I, J))
noncomputable def zv_X9_paste_X_85 (I : Nat → Nat → Int32) (J : Nat → Nat → Int64) (h : Nat) (h2 : Nat) (l1 : Int32) (l2 : Int32) (l3 : Int32) (l4 : Int32) (l5 : Int32) : zm_R := zm_V zT_X9_paste zW_X (85, [some (.ref 0), some (.int l1), some (.int l2), some (.int l3), some (.int l4), some (.int l5), some (.ref h), some (.ref h2)], [], (I, J))
noncomputable def zv_X9_paste_X_88 (I : Nat → Nat → Int32) (J : Nat → Nat → Int64) (h : Nat) (h2 : Nat) (l1 : Int32) (l2 : Int32) (l3 : Int32) (l4 : Int32) (l5 : Int32) : zm_R := zm_V zT_X9_paste zW_X (88, [some (.ref 0), some (.int l1), some (.int l2), some (.int l3), some (.int l4), some (.int l5), some (.ref h), some (.ref h2)], [], (I, J))
noncomputable def zv_X9_paste_X_100 (I : Nat → Nat → Int32) (J : Nat → Nat → Int64) (h : Nat) (h2 : Nat) (l1 : Int32) (l2 : Int32) (l3 : Int32) (l4 : Int32) (l5 : Int32) : zm_R := zm_V zT_X9_paste zW_X (100, [some (.ref 0), some (.int l1), some (.int l2), some (.int l3), some (.int l4), some (.int l5), some (.ref h), some (.ref h2)], [], (I, J))
set_option maxRecDepth 20000 in
theorem zc_X9_paste_X_0 {h : Nat} (I : Nat → Nat → Int32) (J : Nat → Nat → Int64) (l1 : Int32) (l2 : Int32) (l3 : Int32) (l4 : Int32) (l5 : Int32) {I2 : Nat → Nat → Int32} {J2 : Nat → Nat → Int64} (hF : zF_X9_rowAt zW_X [.ref 0, .int l1] (I, J) = some (some (.ref h), (I2, J2))) : zv_X9_paste_X_0 I J l1 l2 l3 l4 l5 = zv_X9_paste_X_5 I2 J2 h l1 l2 l3 l4 l5 := by
  have e : ∀ k : zm_S → zm_R, zm_step zT_X9_paste zW_X k (0, [some (.ref 0), some (.int l1), some (.int l2), some (.int l3), some (.int l4), some (.int l5), none, none], [], (I, J)) = zm_app (2, some 9, true, [], zF_X9_rowAt) zW_X [.ref 0, .int l1] (I, J) (fun v N => k (5, [some (.ref 0), some (.int l1), some (.int l2), some (.int l3), some (.int l4), some (.int l5), none, none], v.toList ++ [], N)) := fun k => rfl
  have g := zm_app_s (C := (2, some 9, true, [], zF_X9_rowAt)) (wl := zW_X) (as := [.ref 0, .int l1]) (M := (I, J)) (k := fun v N => zm_V zT_X9_paste zW_X (5, [some (.ref 0), some (.int l1), some (.int l2), some (.int l3), some (.int l4), some (.int l5), none, none], v.toList ++ [], N)) rfl rfl hF
  exact (zm_V_eq _ _ _).trans ((e _).trans g)
set_option maxRecDepth 20000 in
theorem zc_X9_paste_X_5 {h2 : Nat} (I : Nat → Nat → Int32) (J : Nat → Nat → Int64) (h : Nat) (l1 : Int32) (l2 : Int32) (l3 : Int32) (l4 : Int32) (l5 : Int32) (hh : zm_isRow h) {I2 : Nat → Nat → Int32} {J2 : Nat → Nat → Int64} (hF : zF_X9_rowAt zW_X [.ref 0, .int l3] (I, J) = some (some (.ref h2), (I2, J2))) : zv_X9_paste_X_5 I J h l1 l2 l3 l4 l5 = zv_X9_paste_X_12 I2 J2 h h2 l1 l2 l3 l4 l5 := by
  have e : ∀ (h : Nat), zm_isRow h → ∀ k : zm_S → zm_R, zm_step zT_X9_paste zW_X k (5, [some (.ref 0), some (.int l1), some (.int l2), some (.int l3), some (.int l4), some (.int l5), none, none], [.ref h], (I, J)) = zm_app (2, some 9, true, [], zF_X9_rowAt) zW_X [.ref 0, .int l3] (I, J) (fun v N => k (12, [some (.ref 0), some (.int l1), some (.int l2), some (.int l3), some (.int l4), some (.int l5), some (.ref h), none], v.toList ++ [], N)) := by
    intro h hh
    rcases hh with rfl | rfl | rfl | rfl <;> (intro k; rfl)
  have r9 : zm_recv zW_X [.ref 0, .int l3] (some 9) = true := by
    clear hF e
    revert hh; intro hh; rcases hh with rfl | rfl | rfl | rfl <;> rfl
  have g := zm_app_s (C := (2, some 9, true, [], zF_X9_rowAt)) (wl := zW_X) (as := [.ref 0, .int l3]) (M := (I, J)) (k := fun v N => zm_V zT_X9_paste zW_X (12, [some (.ref 0), some (.int l1), some (.int l2), some (.int l3), some (.int l4), some (.int l5), some (.ref h), none], v.toList ++ [], N)) r9 rfl hF
  exact (zm_V_eq _ _ _).trans ((e h hh _).trans g)
set_option maxRecDepth 20000 in
theorem zq_X9_paste_X_12 (I : Nat → Nat → Int32) (J : Nat → Nat → Int64) (h : Nat) (h2 : Nat) (l1 : Int32) (l2 : Int32) (l3 : Int32) (l4 : Int32) (l5 : Int32) (hh : zm_isRow h) (hh2 : zm_isRow h2) : zv_X9_paste_X_12 I J h h2 l1 l2 l3 l4 l5 = zv_X9_paste_X_19 I J h h2 l1 l2 l3 l4 l5 := by
  have key : ∀ (h : Nat) (h2 : Nat), zm_isRow h → zm_isRow h2 → ∀ k : zm_S → zm_R, zm_step zT_X9_paste zW_X k (12, [some (.ref 0), some (.int l1), some (.int l2), some (.int l3), some (.int l4), some (.int l5), some (.ref h), none], [.ref h2], (I, J)) = k (19, [some (.ref 0), some (.int l1), some (.int l2), some (.int l3), some (.int l4), some (.int l5), some (.ref h), some (.ref h2)], [], (I, J)) := by
    intro h h2 hh hh2
    rcases hh with rfl | rfl | rfl | rfl <;> rcases hh2 with rfl | rfl | rfl | rfl <;> (intro k; rfl)
  exact (zm_V_eq _ _ _).trans (key h h2 hh hh2 _)
set_option maxRecDepth 20000 in
theorem zq_X9_paste_X_19 (I : Nat → Nat → Int32) (J : Nat → Nat → Int64) (h : Nat) (h2 : Nat) (l1 : Int32) (l2 : Int32) (l3 : Int32) (l4 : Int32) (l5 : Int32) (hh : zm_isRow h) (hh2 : zm_isRow h2) : zv_X9_paste_X_19 I J h h2 l1 l2 l3 l4 l5 = zv_X9_paste_X_27 I J h h2 l1 l2 l3 l4 l5 := by
  have key : ∀ (h : Nat) (h2 : Nat), zm_isRow h → zm_isRow h2 → ∀ k : zm_S → zm_R, zm_step zT_X9_paste zW_X k (19, [some (.ref 0), some (.int l1), some (.int l2), some (.int l3), some (.int l4), some (.int l5), some (.ref h), some (.ref h2)], [], (I, J)) = k (27, [some (.ref 0), some (.int l1), some (.int l2), some (.int l3), some (.int l4), some (.int l5), some (.ref h), some (.ref h2)], [], (I, J)) := by
    intro h h2 hh hh2
    rcases hh with rfl | rfl | rfl | rfl <;> rcases hh2 with rfl | rfl | rfl | rfl <;> (intro k; rfl)
  exact (zm_V_eq _ _ _).trans (key h h2 hh hh2 _)
set_option maxRecDepth 20000 in
theorem zc_X9_paste_X_27 (I : Nat → Nat → Int32) (J : Nat → Nat → Int64) (h : Nat) (h2 : Nat) (l1 : Int32) (l2 : Int32) (l3 : Int32) (l4 : Int32) (l5 : Int32) (hh : zm_isRow h) (hh2 : zm_isRow h2) {N : zm_I} {r : Int32} (hF : zF_X7_isMade zW_R [.ref 0] (zm_sub2 [(h, 2)] (I, J)) = some (some (.int r), N)) : zv_X9_paste_X_27 I J h h2 l1 l2 l3 l4 l5 = zv_X9_paste_X_32 (zm_mrg [(h, 2)] (I, J) N).1 (zm_mrg [(h, 2)] (I, J) N).2 h h2 l1 l2 l3 l4 l5 r := by
  have e : ∀ (h : Nat) (h2 : Nat), zm_isRow h → zm_isRow h2 → ∀ k : zm_S → zm_R, zm_step zT_X9_paste zW_X k (27, [some (.ref 0), some (.int l1), some (.int l2), some (.int l3), some (.int l4), some (.int l5), some (.ref h), some (.ref h2)], [], (I, J)) = zm_app (1, some 7, false, [(0, 2)], zF_X7_isMade) zW_X [.ref h] (I, J) (fun v N => k (32, [some (.ref 0), some (.int l1), some (.int l2), some (.int l3), some (.int l4), some (.int l5), some (.ref h), some (.ref h2)], v.toList ++ [], N)) := by
    intro h h2 hh hh2
    rcases hh with rfl | rfl | rfl | rfl <;> rcases hh2 with rfl | rfl | rfl | rfl <;> (intro k; rfl)
  have r9 : zm_recv zW_X [.ref h] (some 7) = true ∧ (zm_dis [(h, 2)] && zm_bound (List.length zW_X) [(h, 2)]) = true ∧ zm_sub [(h, 2)] zW_X = zW_R ∧ List.map (zm_tr [(h, 2)]) [.ref h] = [.ref 0] := by
    clear hF e
    rcases hh with rfl | rfl | rfl | rfl <;> rcases hh2 with rfl | rfl | rfl | rfl <;> exact ⟨rfl, rfl, rfl, rfl⟩
  have g := zm_app_l (C := (1, some 7, false, [(0, 2)], zF_X7_isMade)) (wl := zW_X) (as := [.ref h]) (wc := zW_R) (ac := [.ref 0]) (bs := [(h, 2)]) (M := (I, J)) (k := fun v N => zm_V zT_X9_paste zW_X (32, [some (.ref 0), some (.int l1), some (.int l2), some (.int l3), some (.int l4), some (.int l5), some (.ref h), some (.ref h2)], v.toList ++ [], N)) r9.1 rfl rfl r9.2.1 r9.2.2.1 r9.2.2.2 hF
  exact (zm_V_eq _ _ _).trans ((e h h2 hh hh2 _).trans g)
set_option maxRecDepth 20000 in
theorem zq_X9_paste_X_32 (I : Nat → Nat → Int32) (J : Nat → Nat → Int64) (h : Nat) (h2 : Nat) (l1 : Int32) (l2 : Int32) (l3 : Int32) (l4 : Int32) (l5 : Int32) (s0 : Int32) (hh : zm_isRow h) (hh2 : zm_isRow h2) : zv_X9_paste_X_32 I J h h2 l1 l2 l3 l4 l5 s0 = if s0 = 0 then zv_X9_paste_X_43 I J h h2 l1 l2 l3 l4 l5 else zv_X9_paste_X_35 I J h h2 l1 l2 l3 l4 l5 := by
  have key : ∀ (h : Nat) (h2 : Nat), zm_isRow h → zm_isRow h2 → ∀ k : zm_S → zm_R, zm_step zT_X9_paste zW_X k (32, [some (.ref 0), some (.int l1), some (.int l2), some (.int l3), some (.int l4), some (.int l5), some (.ref h), some (.ref h2)], [.int s0], (I, J)) = if s0 = 0 then k (43, [some (.ref 0), some (.int l1), some (.int l2), some (.int l3), some (.int l4), some (.int l5), some (.ref h), some (.ref h2)], [], (I, J)) else k (35, [some (.ref 0), some (.int l1), some (.int l2), some (.int l3), some (.int l4), some (.int l5), some (.ref h), some (.ref h2)], [], (I, J)) := by
    intro h h2 hh hh2
    rcases hh with rfl | rfl | rfl | rfl <;> rcases hh2 with rfl | rfl | rfl | rfl <;> (intro k; rfl)
  exact (zm_V_eq _ _ _).trans (key h h2 hh hh2 _)
set_option maxRecDepth 20000 in
theorem zc_X9_paste_X_35 (I : Nat → Nat → Int32) (J : Nat → Nat → Int64) (h : Nat) (h2 : Nat) (l1 : Int32) (l2 : Int32) (l3 : Int32) (l4 : Int32) (l5 : Int32) (hh : zm_isRow h) (hh2 : zm_isRow h2) {N : zm_I} {r : Int32} (hF : zF_X7_isMade zW_R [.ref 0] (zm_sub2 [(h2, 2)] (I, J)) = some (some (.int r), N)) : zv_X9_paste_X_35 I J h h2 l1 l2 l3 l4 l5 = zv_X9_paste_X_40 (zm_mrg [(h2, 2)] (I, J) N).1 (zm_mrg [(h2, 2)] (I, J) N).2 h h2 l1 l2 l3 l4 l5 r := by
  have e : ∀ (h : Nat) (h2 : Nat), zm_isRow h → zm_isRow h2 → ∀ k : zm_S → zm_R, zm_step zT_X9_paste zW_X k (35, [some (.ref 0), some (.int l1), some (.int l2), some (.int l3), some (.int l4), some (.int l5), some (.ref h), some (.ref h2)], [], (I, J)) = zm_app (1, some 7, false, [(0, 2)], zF_X7_isMade) zW_X [.ref h2] (I, J) (fun v N => k (40, [some (.ref 0), some (.int l1), some (.int l2), some (.int l3), some (.int l4), some (.int l5), some (.ref h), some (.ref h2)], v.toList ++ [], N)) := by
    intro h h2 hh hh2
    rcases hh with rfl | rfl | rfl | rfl <;> rcases hh2 with rfl | rfl | rfl | rfl <;> (intro k; rfl)
  have r9 : zm_recv zW_X [.ref h2] (some 7) = true ∧ (zm_dis [(h2, 2)] && zm_bound (List.length zW_X) [(h2, 2)]) = true ∧ zm_sub [(h2, 2)] zW_X = zW_R ∧ List.map (zm_tr [(h2, 2)]) [.ref h2] = [.ref 0] := by
    clear hF e
    rcases hh with rfl | rfl | rfl | rfl <;> rcases hh2 with rfl | rfl | rfl | rfl <;> exact ⟨rfl, rfl, rfl, rfl⟩
  have g := zm_app_l (C := (1, some 7, false, [(0, 2)], zF_X7_isMade)) (wl := zW_X) (as := [.ref h2]) (wc := zW_R) (ac := [.ref 0]) (bs := [(h2, 2)]) (M := (I, J)) (k := fun v N => zm_V zT_X9_paste zW_X (40, [some (.ref 0), some (.int l1), some (.int l2), some (.int l3), some (.int l4), some (.int l5), some (.ref h), some (.ref h2)], v.toList ++ [], N)) r9.1 rfl rfl r9.2.1 r9.2.2.1 r9.2.2.2 hF
  exact (zm_V_eq _ _ _).trans ((e h h2 hh hh2 _).trans g)
set_option maxRecDepth 20000 in
theorem zq_X9_paste_X_40 (I : Nat → Nat → Int32) (J : Nat → Nat → Int64) (h : Nat) (h2 : Nat) (l1 : Int32) (l2 : Int32) (l3 : Int32) (l4 : Int32) (l5 : Int32) (s0 : Int32) (hh : zm_isRow h) (hh2 : zm_isRow h2) : zv_X9_paste_X_40 I J h h2 l1 l2 l3 l4 l5 s0 = if s0 = 0 then zv_X9_paste_X_43 I J h h2 l1 l2 l3 l4 l5 else zv_X9_paste_X_46 I J h h2 l1 l2 l3 l4 l5 := by
  have key : ∀ (h : Nat) (h2 : Nat), zm_isRow h → zm_isRow h2 → ∀ k : zm_S → zm_R, zm_step zT_X9_paste zW_X k (40, [some (.ref 0), some (.int l1), some (.int l2), some (.int l3), some (.int l4), some (.int l5), some (.ref h), some (.ref h2)], [.int s0], (I, J)) = if s0 = 0 then k (43, [some (.ref 0), some (.int l1), some (.int l2), some (.int l3), some (.int l4), some (.int l5), some (.ref h), some (.ref h2)], [], (I, J)) else k (46, [some (.ref 0), some (.int l1), some (.int l2), some (.int l3), some (.int l4), some (.int l5), some (.ref h), some (.ref h2)], [], (I, J)) := by
    intro h h2 hh hh2
    rcases hh with rfl | rfl | rfl | rfl <;> rcases hh2 with rfl | rfl | rfl | rfl <;> (intro k; rfl)
  exact (zm_V_eq _ _ _).trans (key h h2 hh hh2 _)
set_option maxRecDepth 20000 in
theorem zq_X9_paste_X_43 (I : Nat → Nat → Int32) (J : Nat → Nat → Int64) (h : Nat) (h2 : Nat) (l1 : Int32) (l2 : Int32) (l3 : Int32) (l4 : Int32) (l5 : Int32) (hh : zm_isRow h) (hh2 : zm_isRow h2) : zv_X9_paste_X_43 I J h h2 l1 l2 l3 l4 l5 = some (some (.int (-6)), (I, J)) := by
  have key : ∀ (h : Nat) (h2 : Nat), zm_isRow h → zm_isRow h2 → ∀ k : zm_S → zm_R, zm_step zT_X9_paste zW_X k (43, [some (.ref 0), some (.int l1), some (.int l2), some (.int l3), some (.int l4), some (.int l5), some (.ref h), some (.ref h2)], [], (I, J)) = some (some (.int (-6)), (I, J)) := by
    intro h h2 hh hh2
    rcases hh with rfl | rfl | rfl | rfl <;> rcases hh2 with rfl | rfl | rfl | rfl <;> (intro k; rfl)
  exact (zm_V_eq _ _ _).trans (key h h2 hh hh2 _)
set_option maxRecDepth 20000 in
theorem zq_X9_paste_X_46 (I : Nat → Nat → Int32) (J : Nat → Nat → Int64) (h : Nat) (h2 : Nat) (l1 : Int32) (l2 : Int32) (l3 : Int32) (l4 : Int32) (l5 : Int32) (hh : zm_isRow h) (hh2 : zm_isRow h2) : zv_X9_paste_X_46 I J h h2 l1 l2 l3 l4 l5 = if (I h 0) = (I h2 0) then zv_X9_paste_X_62 I J h h2 l1 l2 l3 l4 l5 else zv_X9_paste_X_59 I J h h2 l1 l2 l3 l4 l5 := by
  have key : ∀ (h : Nat) (h2 : Nat), zm_isRow h → zm_isRow h2 → ∀ k : zm_S → zm_R, zm_step zT_X9_paste zW_X k (46, [some (.ref 0), some (.int l1), some (.int l2), some (.int l3), some (.int l4), some (.int l5), some (.ref h), some (.ref h2)], [], (I, J)) = if (I h 0) = (I h2 0) then k (62, [some (.ref 0), some (.int l1), some (.int l2), some (.int l3), some (.int l4), some (.int l5), some (.ref h), some (.ref h2)], [], (I, J)) else k (59, [some (.ref 0), some (.int l1), some (.int l2), some (.int l3), some (.int l4), some (.int l5), some (.ref h), some (.ref h2)], [], (I, J)) := by
    intro h h2 hh hh2
    rcases hh with rfl | rfl | rfl | rfl <;> rcases hh2 with rfl | rfl | rfl | rfl <;> (intro k; rfl)
  exact (zm_V_eq _ _ _).trans (key h h2 hh hh2 _)
set_option maxRecDepth 20000 in
theorem zq_X9_paste_X_59 (I : Nat → Nat → Int32) (J : Nat → Nat → Int64) (h : Nat) (h2 : Nat) (l1 : Int32) (l2 : Int32) (l3 : Int32) (l4 : Int32) (l5 : Int32) (hh : zm_isRow h) (hh2 : zm_isRow h2) : zv_X9_paste_X_59 I J h h2 l1 l2 l3 l4 l5 = some (some (.int (-8)), (I, J)) := by
  have key : ∀ (h : Nat) (h2 : Nat), zm_isRow h → zm_isRow h2 → ∀ k : zm_S → zm_R, zm_step zT_X9_paste zW_X k (59, [some (.ref 0), some (.int l1), some (.int l2), some (.int l3), some (.int l4), some (.int l5), some (.ref h), some (.ref h2)], [], (I, J)) = some (some (.int (-8)), (I, J)) := by
    intro h h2 hh hh2
    rcases hh with rfl | rfl | rfl | rfl <;> rcases hh2 with rfl | rfl | rfl | rfl <;> (intro k; rfl)
  exact (zm_V_eq _ _ _).trans (key h h2 hh hh2 _)
set_option maxRecDepth 20000 in
theorem zc_X9_paste_X_62 (I : Nat → Nat → Int32) (J : Nat → Nat → Int64) (h : Nat) (h2 : Nat) (l1 : Int32) (l2 : Int32) (l3 : Int32) (l4 : Int32) (l5 : Int32) (hh : zm_isRow h) (hh2 : zm_isRow h2) {N : zm_I} {r : Int32} (hF : zF_X7_hasStretch zW_R [.ref 0, .int l2, .int l5] (zm_sub2 [(h, 2)] (I, J)) = some (some (.int r), N)) : zv_X9_paste_X_62 I J h h2 l1 l2 l3 l4 l5 = zv_X9_paste_X_70 (zm_mrg [(h, 2)] (I, J) N).1 (zm_mrg [(h, 2)] (I, J) N).2 h h2 l1 l2 l3 l4 l5 r := by
  have e : ∀ (h : Nat) (h2 : Nat), zm_isRow h → zm_isRow h2 → ∀ k : zm_S → zm_R, zm_step zT_X9_paste zW_X k (62, [some (.ref 0), some (.int l1), some (.int l2), some (.int l3), some (.int l4), some (.int l5), some (.ref h), some (.ref h2)], [], (I, J)) = zm_app (3, some 7, false, [(0, 2)], zF_X7_hasStretch) zW_X [.ref h, .int l2, .int l5] (I, J) (fun v N => k (70, [some (.ref 0), some (.int l1), some (.int l2), some (.int l3), some (.int l4), some (.int l5), some (.ref h), some (.ref h2)], v.toList ++ [], N)) := by
    intro h h2 hh hh2
    rcases hh with rfl | rfl | rfl | rfl <;> rcases hh2 with rfl | rfl | rfl | rfl <;> (intro k; rfl)
  have r9 : zm_recv zW_X [.ref h, .int l2, .int l5] (some 7) = true ∧ (zm_dis [(h, 2)] && zm_bound (List.length zW_X) [(h, 2)]) = true ∧ zm_sub [(h, 2)] zW_X = zW_R ∧ List.map (zm_tr [(h, 2)]) [.ref h, .int l2, .int l5] = [.ref 0, .int l2, .int l5] := by
    clear hF e
    rcases hh with rfl | rfl | rfl | rfl <;> rcases hh2 with rfl | rfl | rfl | rfl <;> exact ⟨rfl, rfl, rfl, rfl⟩
  have g := zm_app_l (C := (3, some 7, false, [(0, 2)], zF_X7_hasStretch)) (wl := zW_X) (as := [.ref h, .int l2, .int l5]) (wc := zW_R) (ac := [.ref 0, .int l2, .int l5]) (bs := [(h, 2)]) (M := (I, J)) (k := fun v N => zm_V zT_X9_paste zW_X (70, [some (.ref 0), some (.int l1), some (.int l2), some (.int l3), some (.int l4), some (.int l5), some (.ref h), some (.ref h2)], v.toList ++ [], N)) r9.1 rfl rfl r9.2.1 r9.2.2.1 r9.2.2.2 hF
  exact (zm_V_eq _ _ _).trans ((e h h2 hh hh2 _).trans g)
set_option maxRecDepth 20000 in
theorem zq_X9_paste_X_70 (I : Nat → Nat → Int32) (J : Nat → Nat → Int64) (h : Nat) (h2 : Nat) (l1 : Int32) (l2 : Int32) (l3 : Int32) (l4 : Int32) (l5 : Int32) (s0 : Int32) (hh : zm_isRow h) (hh2 : zm_isRow h2) : zv_X9_paste_X_70 I J h h2 l1 l2 l3 l4 l5 s0 = if s0 = 0 then zv_X9_paste_X_85 I J h h2 l1 l2 l3 l4 l5 else zv_X9_paste_X_73 I J h h2 l1 l2 l3 l4 l5 := by
  have key : ∀ (h : Nat) (h2 : Nat), zm_isRow h → zm_isRow h2 → ∀ k : zm_S → zm_R, zm_step zT_X9_paste zW_X k (70, [some (.ref 0), some (.int l1), some (.int l2), some (.int l3), some (.int l4), some (.int l5), some (.ref h), some (.ref h2)], [.int s0], (I, J)) = if s0 = 0 then k (85, [some (.ref 0), some (.int l1), some (.int l2), some (.int l3), some (.int l4), some (.int l5), some (.ref h), some (.ref h2)], [], (I, J)) else k (73, [some (.ref 0), some (.int l1), some (.int l2), some (.int l3), some (.int l4), some (.int l5), some (.ref h), some (.ref h2)], [], (I, J)) := by
    intro h h2 hh hh2
    rcases hh with rfl | rfl | rfl | rfl <;> rcases hh2 with rfl | rfl | rfl | rfl <;> (intro k; rfl)
  exact (zm_V_eq _ _ _).trans (key h h2 hh hh2 _)
set_option maxRecDepth 20000 in
theorem zc_X9_paste_X_73 (I : Nat → Nat → Int32) (J : Nat → Nat → Int64) (h : Nat) (h2 : Nat) (l1 : Int32) (l2 : Int32) (l3 : Int32) (l4 : Int32) (l5 : Int32) (hh : zm_isRow h) (hh2 : zm_isRow h2) {N : zm_I} {r : Int32} (hF : zF_X7_hasStretch zW_R [.ref 0, .int l4, .int l5] (zm_sub2 [(h2, 2)] (I, J)) = some (some (.int r), N)) : zv_X9_paste_X_73 I J h h2 l1 l2 l3 l4 l5 = zv_X9_paste_X_82 (zm_mrg [(h2, 2)] (I, J) N).1 (zm_mrg [(h2, 2)] (I, J) N).2 h h2 l1 l2 l3 l4 l5 r := by
  have e : ∀ (h : Nat) (h2 : Nat), zm_isRow h → zm_isRow h2 → ∀ k : zm_S → zm_R, zm_step zT_X9_paste zW_X k (73, [some (.ref 0), some (.int l1), some (.int l2), some (.int l3), some (.int l4), some (.int l5), some (.ref h), some (.ref h2)], [], (I, J)) = zm_app (3, some 7, false, [(0, 2)], zF_X7_hasStretch) zW_X [.ref h2, .int l4, .int l5] (I, J) (fun v N => k (82, [some (.ref 0), some (.int l1), some (.int l2), some (.int l3), some (.int l4), some (.int l5), some (.ref h), some (.ref h2)], v.toList ++ [], N)) := by
    intro h h2 hh hh2
    rcases hh with rfl | rfl | rfl | rfl <;> rcases hh2 with rfl | rfl | rfl | rfl <;> (intro k; rfl)
  have r9 : zm_recv zW_X [.ref h2, .int l4, .int l5] (some 7) = true ∧ (zm_dis [(h2, 2)] && zm_bound (List.length zW_X) [(h2, 2)]) = true ∧ zm_sub [(h2, 2)] zW_X = zW_R ∧ List.map (zm_tr [(h2, 2)]) [.ref h2, .int l4, .int l5] = [.ref 0, .int l4, .int l5] := by
    clear hF e
    rcases hh with rfl | rfl | rfl | rfl <;> rcases hh2 with rfl | rfl | rfl | rfl <;> exact ⟨rfl, rfl, rfl, rfl⟩
  have g := zm_app_l (C := (3, some 7, false, [(0, 2)], zF_X7_hasStretch)) (wl := zW_X) (as := [.ref h2, .int l4, .int l5]) (wc := zW_R) (ac := [.ref 0, .int l4, .int l5]) (bs := [(h2, 2)]) (M := (I, J)) (k := fun v N => zm_V zT_X9_paste zW_X (82, [some (.ref 0), some (.int l1), some (.int l2), some (.int l3), some (.int l4), some (.int l5), some (.ref h), some (.ref h2)], v.toList ++ [], N)) r9.1 rfl rfl r9.2.1 r9.2.2.1 r9.2.2.2 hF
  exact (zm_V_eq _ _ _).trans ((e h h2 hh hh2 _).trans g)
set_option maxRecDepth 20000 in
theorem zq_X9_paste_X_82 (I : Nat → Nat → Int32) (J : Nat → Nat → Int64) (h : Nat) (h2 : Nat) (l1 : Int32) (l2 : Int32) (l3 : Int32) (l4 : Int32) (l5 : Int32) (s0 : Int32) (hh : zm_isRow h) (hh2 : zm_isRow h2) : zv_X9_paste_X_82 I J h h2 l1 l2 l3 l4 l5 s0 = if s0 = 0 then zv_X9_paste_X_85 I J h h2 l1 l2 l3 l4 l5 else zv_X9_paste_X_88 I J h h2 l1 l2 l3 l4 l5 := by
  have key : ∀ (h : Nat) (h2 : Nat), zm_isRow h → zm_isRow h2 → ∀ k : zm_S → zm_R, zm_step zT_X9_paste zW_X k (82, [some (.ref 0), some (.int l1), some (.int l2), some (.int l3), some (.int l4), some (.int l5), some (.ref h), some (.ref h2)], [.int s0], (I, J)) = if s0 = 0 then k (85, [some (.ref 0), some (.int l1), some (.int l2), some (.int l3), some (.int l4), some (.int l5), some (.ref h), some (.ref h2)], [], (I, J)) else k (88, [some (.ref 0), some (.int l1), some (.int l2), some (.int l3), some (.int l4), some (.int l5), some (.ref h), some (.ref h2)], [], (I, J)) := by
    intro h h2 hh hh2
    rcases hh with rfl | rfl | rfl | rfl <;> rcases hh2 with rfl | rfl | rfl | rfl <;> (intro k; rfl)
  exact (zm_V_eq _ _ _).trans (key h h2 hh hh2 _)
set_option maxRecDepth 20000 in
theorem zq_X9_paste_X_85 (I : Nat → Nat → Int32) (J : Nat → Nat → Int64) (h : Nat) (h2 : Nat) (l1 : Int32) (l2 : Int32) (l3 : Int32) (l4 : Int32) (l5 : Int32) (hh : zm_isRow h) (hh2 : zm_isRow h2) : zv_X9_paste_X_85 I J h h2 l1 l2 l3 l4 l5 = some (some (.int (-7)), (I, J)) := by
  have key : ∀ (h : Nat) (h2 : Nat), zm_isRow h → zm_isRow h2 → ∀ k : zm_S → zm_R, zm_step zT_X9_paste zW_X k (85, [some (.ref 0), some (.int l1), some (.int l2), some (.int l3), some (.int l4), some (.int l5), some (.ref h), some (.ref h2)], [], (I, J)) = some (some (.int (-7)), (I, J)) := by
    intro h h2 hh hh2
    rcases hh with rfl | rfl | rfl | rfl <;> rcases hh2 with rfl | rfl | rfl | rfl <;> (intro k; rfl)
  exact (zm_V_eq _ _ _).trans (key h h2 hh hh2 _)
set_option maxRecDepth 20000 in
theorem zc_X9_paste_X_88 (I : Nat → Nat → Int32) (J : Nat → Nat → Int64) (h : Nat) (h2 : Nat) (l1 : Int32) (l2 : Int32) (l3 : Int32) (l4 : Int32) (l5 : Int32) (hh : zm_isRow h) (hh2 : zm_isRow h2) {I2 : Nat → Nat → Int32} {J2 : Nat → Nat → Int64} (hF : zF_X7_copyStretch zW_X [.ref h2, .ref h, .int l2, .int l4, .int l5] (I, J) = some (none, (I2, J2))) : zv_X9_paste_X_88 I J h h2 l1 l2 l3 l4 l5 = zv_X9_paste_X_100 I2 J2 h h2 l1 l2 l3 l4 l5 := by
  have e : ∀ (h : Nat) (h2 : Nat), zm_isRow h → zm_isRow h2 → ∀ k : zm_S → zm_R, zm_step zT_X9_paste zW_X k (88, [some (.ref 0), some (.int l1), some (.int l2), some (.int l3), some (.int l4), some (.int l5), some (.ref h), some (.ref h2)], [], (I, J)) = zm_app (5, some 7, true, [], zF_X7_copyStretch) zW_X [.ref h2, .ref h, .int l2, .int l4, .int l5] (I, J) (fun v N => k (100, [some (.ref 0), some (.int l1), some (.int l2), some (.int l3), some (.int l4), some (.int l5), some (.ref h), some (.ref h2)], v.toList ++ [], N)) := by
    intro h h2 hh hh2
    rcases hh with rfl | rfl | rfl | rfl <;> rcases hh2 with rfl | rfl | rfl | rfl <;> (intro k; rfl)
  have r9 : zm_recv zW_X [.ref h2, .ref h, .int l2, .int l4, .int l5] (some 7) = true := by
    clear hF e
    revert hh hh2; intro hh hh2; rcases hh with rfl | rfl | rfl | rfl <;> rcases hh2 with rfl | rfl | rfl | rfl <;> rfl
  have g := zm_app_s (C := (5, some 7, true, [], zF_X7_copyStretch)) (wl := zW_X) (as := [.ref h2, .ref h, .int l2, .int l4, .int l5]) (M := (I, J)) (k := fun v N => zm_V zT_X9_paste zW_X (100, [some (.ref 0), some (.int l1), some (.int l2), some (.int l3), some (.int l4), some (.int l5), some (.ref h), some (.ref h2)], v.toList ++ [], N)) r9 rfl hF
  exact (zm_V_eq _ _ _).trans ((e h h2 hh hh2 _).trans g)
set_option maxRecDepth 20000 in
theorem zq_X9_paste_X_100 (I : Nat → Nat → Int32) (J : Nat → Nat → Int64) (h : Nat) (h2 : Nat) (l1 : Int32) (l2 : Int32) (l3 : Int32) (l4 : Int32) (l5 : Int32) (hh : zm_isRow h) (hh2 : zm_isRow h2) : zv_X9_paste_X_100 I J h h2 l1 l2 l3 l4 l5 = some (some (.int 0), (I, J)) := by
  have key : ∀ (h : Nat) (h2 : Nat), zm_isRow h → zm_isRow h2 → ∀ k : zm_S → zm_R, zm_step zT_X9_paste zW_X k (100, [some (.ref 0), some (.int l1), some (.int l2), some (.int l3), some (.int l4), some (.int l5), some (.ref h), some (.ref h2)], [], (I, J)) = some (some (.int 0), (I, J)) := by
    intro h h2 hh hh2
    rcases hh with rfl | rfl | rfl | rfl <;> rcases hh2 with rfl | rfl | rfl | rfl <;> (intro k; rfl)
  exact (zm_V_eq _ _ _).trans (key h h2 hh hh2 _)
theorem zf_X9_paste_X (I : Nat → Nat → Int32) (J : Nat → Nat → Int64) (l1 : Int32) (l2 : Int32) (l3 : Int32) (l4 : Int32) (l5 : Int32) : zF_X9_paste zW_X [.ref 0, .int l1, .int l2, .int l3, .int l4, .int l5] (I, J) = zv_X9_paste_X_0 I J l1 l2 l3 l4 l5 := rfl
noncomputable def zv_X9_paste_Xrn_0 (I : Nat → Nat → Int32) (J : Nat → Nat → Int64) (l1 : Int32) (l2 : Int32) (l3 : Int32) (l4 : Int32) (l5 : Int32) : zm_R := zm_V zT_X9_paste zW_X (0, [some (.ref 0), some (.int l1), some (.int l2), some (.int l3), some (.int l4), some (.int l5), none, none], [], (I, J))
noncomputable def zv_X9_paste_Xrn_5 (I : Nat → Nat → Int32) (J : Nat → Nat → Int64) (h : Nat) (l1 : Int32) (l2 : Int32) (l3 : Int32) (l4 : Int32) (l5 : Int32) : zm_R := zm_V zT_X9_paste zW_X (5, [some (.ref 0), some (.int l1), some (.int l2), some (.int l3), some (.int l4), some (.int l5), none, none], [.ref h], (I, J))
noncomputable def zv_X9_paste_Xrn_12 (I : Nat → Nat → Int32) (J : Nat → Nat → Int64) (h : Nat) (l1 : Int32) (l2 : Int32) (l3 : Int32) (l4 : Int32) (l5 : Int32) : zm_R := zm_V zT_X9_paste zW_X (12, [some (.ref 0), some (.int l1), some (.int l2), some (.int l3), some (.int l4), some (.int l5), some (.ref h), none], [.null], (I, J))
noncomputable def zv_X9_paste_Xrn_19 (I : Nat → Nat → Int32) (J : Nat → Nat → Int64) (h : Nat) (l1 : Int32) (l2 : Int32) (l3 : Int32) (l4 : Int32) (l5 : Int32) : zm_R := zm_V zT_X9_paste zW_X (19, [some (.ref 0), some (.int l1), some (.int l2), some (.int l3), some (.int l4), some (.int l5), some (.ref h), some (.null)], [], (I, J))
noncomputable def zv_X9_paste_Xrn_24 (I : Nat → Nat → Int32) (J : Nat → Nat → Int64) (h : Nat) (l1 : Int32) (l2 : Int32) (l3 : Int32) (l4 : Int32) (l5 : Int32) : zm_R := zm_V zT_X9_paste zW_X (24, [some (.ref 0), some (.int l1), some (.int l2), some (.int l3), some (.int l4), some (.int l5), some (.ref h), some (.null)], [], (I, J))
set_option maxRecDepth 20000 in
theorem zc_X9_paste_Xrn_0 {h : Nat} (I : Nat → Nat → Int32) (J : Nat → Nat → Int64) (l1 : Int32) (l2 : Int32) (l3 : Int32) (l4 : Int32) (l5 : Int32) {I2 : Nat → Nat → Int32} {J2 : Nat → Nat → Int64} (hF : zF_X9_rowAt zW_X [.ref 0, .int l1] (I, J) = some (some (.ref h), (I2, J2))) : zv_X9_paste_Xrn_0 I J l1 l2 l3 l4 l5 = zv_X9_paste_Xrn_5 I2 J2 h l1 l2 l3 l4 l5 := by
  have e : ∀ k : zm_S → zm_R, zm_step zT_X9_paste zW_X k (0, [some (.ref 0), some (.int l1), some (.int l2), some (.int l3), some (.int l4), some (.int l5), none, none], [], (I, J)) = zm_app (2, some 9, true, [], zF_X9_rowAt) zW_X [.ref 0, .int l1] (I, J) (fun v N => k (5, [some (.ref 0), some (.int l1), some (.int l2), some (.int l3), some (.int l4), some (.int l5), none, none], v.toList ++ [], N)) := fun k => rfl
  have g := zm_app_s (C := (2, some 9, true, [], zF_X9_rowAt)) (wl := zW_X) (as := [.ref 0, .int l1]) (M := (I, J)) (k := fun v N => zm_V zT_X9_paste zW_X (5, [some (.ref 0), some (.int l1), some (.int l2), some (.int l3), some (.int l4), some (.int l5), none, none], v.toList ++ [], N)) rfl rfl hF
  exact (zm_V_eq _ _ _).trans ((e _).trans g)
set_option maxRecDepth 20000 in
theorem zc_X9_paste_Xrn_5 (I : Nat → Nat → Int32) (J : Nat → Nat → Int64) (h : Nat) (l1 : Int32) (l2 : Int32) (l3 : Int32) (l4 : Int32) (l5 : Int32) (hh : zm_isRow h) {I2 : Nat → Nat → Int32} {J2 : Nat → Nat → Int64} (hF : zF_X9_rowAt zW_X [.ref 0, .int l3] (I, J) = some (some (.null), (I2, J2))) : zv_X9_paste_Xrn_5 I J h l1 l2 l3 l4 l5 = zv_X9_paste_Xrn_12 I2 J2 h l1 l2 l3 l4 l5 := by
  have e : ∀ (h : Nat), zm_isRow h → ∀ k : zm_S → zm_R, zm_step zT_X9_paste zW_X k (5, [some (.ref 0), some (.int l1), some (.int l2), some (.int l3), some (.int l4), some (.int l5), none, none], [.ref h], (I, J)) = zm_app (2, some 9, true, [], zF_X9_rowAt) zW_X [.ref 0, .int l3] (I, J) (fun v N => k (12, [some (.ref 0), some (.int l1), some (.int l2), some (.int l3), some (.int l4), some (.int l5), some (.ref h), none], v.toList ++ [], N)) := by
    intro h hh
    rcases hh with rfl | rfl | rfl | rfl <;> (intro k; rfl)
  have r9 : zm_recv zW_X [.ref 0, .int l3] (some 9) = true := by
    clear hF e
    revert hh; intro hh; rcases hh with rfl | rfl | rfl | rfl <;> rfl
  have g := zm_app_s (C := (2, some 9, true, [], zF_X9_rowAt)) (wl := zW_X) (as := [.ref 0, .int l3]) (M := (I, J)) (k := fun v N => zm_V zT_X9_paste zW_X (12, [some (.ref 0), some (.int l1), some (.int l2), some (.int l3), some (.int l4), some (.int l5), some (.ref h), none], v.toList ++ [], N)) r9 rfl hF
  exact (zm_V_eq _ _ _).trans ((e h hh _).trans g)
set_option maxRecDepth 20000 in
theorem zq_X9_paste_Xrn_12 (I : Nat → Nat → Int32) (J : Nat → Nat → Int64) (h : Nat) (l1 : Int32) (l2 : Int32) (l3 : Int32) (l4 : Int32) (l5 : Int32) (hh : zm_isRow h) : zv_X9_paste_Xrn_12 I J h l1 l2 l3 l4 l5 = zv_X9_paste_Xrn_19 I J h l1 l2 l3 l4 l5 := by
  have key : ∀ (h : Nat), zm_isRow h → ∀ k : zm_S → zm_R, zm_step zT_X9_paste zW_X k (12, [some (.ref 0), some (.int l1), some (.int l2), some (.int l3), some (.int l4), some (.int l5), some (.ref h), none], [.null], (I, J)) = k (19, [some (.ref 0), some (.int l1), some (.int l2), some (.int l3), some (.int l4), some (.int l5), some (.ref h), some (.null)], [], (I, J)) := by
    intro h hh
    rcases hh with rfl | rfl | rfl | rfl <;> (intro k; rfl)
  exact (zm_V_eq _ _ _).trans (key h hh _)
set_option maxRecDepth 20000 in
theorem zq_X9_paste_Xrn_19 (I : Nat → Nat → Int32) (J : Nat → Nat → Int64) (h : Nat) (l1 : Int32) (l2 : Int32) (l3 : Int32) (l4 : Int32) (l5 : Int32) (hh : zm_isRow h) : zv_X9_paste_Xrn_19 I J h l1 l2 l3 l4 l5 = zv_X9_paste_Xrn_24 I J h l1 l2 l3 l4 l5 := by
  have key : ∀ (h : Nat), zm_isRow h → ∀ k : zm_S → zm_R, zm_step zT_X9_paste zW_X k (19, [some (.ref 0), some (.int l1), some (.int l2), some (.int l3), some (.int l4), some (.int l5), some (.ref h), some (.null)], [], (I, J)) = k (24, [some (.ref 0), some (.int l1), some (.int l2), some (.int l3), some (.int l4), some (.int l5), some (.ref h), some (.null)], [], (I, J)) := by
    intro h hh
    rcases hh with rfl | rfl | rfl | rfl <;> (intro k; rfl)
  exact (zm_V_eq _ _ _).trans (key h hh _)
set_option maxRecDepth 20000 in
theorem zq_X9_paste_Xrn_24 (I : Nat → Nat → Int32) (J : Nat → Nat → Int64) (h : Nat) (l1 : Int32) (l2 : Int32) (l3 : Int32) (l4 : Int32) (l5 : Int32) (hh : zm_isRow h) : zv_X9_paste_Xrn_24 I J h l1 l2 l3 l4 l5 = some (some (.int (-2)), (I, J)) := by
  have key : ∀ (h : Nat), zm_isRow h → ∀ k : zm_S → zm_R, zm_step zT_X9_paste zW_X k (24, [some (.ref 0), some (.int l1), some (.int l2), some (.int l3), some (.int l4), some (.int l5), some (.ref h), some (.null)], [], (I, J)) = some (some (.int (-2)), (I, J)) := by
    intro h hh
    rcases hh with rfl | rfl | rfl | rfl <;> (intro k; rfl)
  exact (zm_V_eq _ _ _).trans (key h hh _)
theorem zf_X9_paste_Xrn (I : Nat → Nat → Int32) (J : Nat → Nat → Int64) (l1 : Int32) (l2 : Int32) (l3 : Int32) (l4 : Int32) (l5 : Int32) : zF_X9_paste zW_X [.ref 0, .int l1, .int l2, .int l3, .int l4, .int l5] (I, J) = zv_X9_paste_Xrn_0 I J l1 l2 l3 l4 l5 := rfl
noncomputable def zv_X9_paste_Xnr_0 (I : Nat → Nat → Int32) (J : Nat → Nat → Int64) (l1 : Int32) (l2 : Int32) (l3 : Int32) (l4 : Int32) (l5 : Int32) : zm_R := zm_V zT_X9_paste zW_X (0, [some (.ref 0), some (.int l1), some (.int l2), some (.int l3), some (.int l4), some (.int l5), none, none], [], (I, J))
noncomputable def zv_X9_paste_Xnr_5 (I : Nat → Nat → Int32) (J : Nat → Nat → Int64) (l1 : Int32) (l2 : Int32) (l3 : Int32) (l4 : Int32) (l5 : Int32) : zm_R := zm_V zT_X9_paste zW_X (5, [some (.ref 0), some (.int l1), some (.int l2), some (.int l3), some (.int l4), some (.int l5), none, none], [.null], (I, J))
noncomputable def zv_X9_paste_Xnr_12 (I : Nat → Nat → Int32) (J : Nat → Nat → Int64) (h2 : Nat) (l1 : Int32) (l2 : Int32) (l3 : Int32) (l4 : Int32) (l5 : Int32) : zm_R := zm_V zT_X9_paste zW_X (12, [some (.ref 0), some (.int l1), some (.int l2), some (.int l3), some (.int l4), some (.int l5), some (.null), none], [.ref h2], (I, J))
noncomputable def zv_X9_paste_Xnr_24 (I : Nat → Nat → Int32) (J : Nat → Nat → Int64) (h2 : Nat) (l1 : Int32) (l2 : Int32) (l3 : Int32) (l4 : Int32) (l5 : Int32) : zm_R := zm_V zT_X9_paste zW_X (24, [some (.ref 0), some (.int l1), some (.int l2), some (.int l3), some (.int l4), some (.int l5), some (.null), some (.ref h2)], [], (I, J))
set_option maxRecDepth 20000 in
theorem zc_X9_paste_Xnr_0 (I : Nat → Nat → Int32) (J : Nat → Nat → Int64) (l1 : Int32) (l2 : Int32) (l3 : Int32) (l4 : Int32) (l5 : Int32) {I2 : Nat → Nat → Int32} {J2 : Nat → Nat → Int64} (hF : zF_X9_rowAt zW_X [.ref 0, .int l1] (I, J) = some (some (.null), (I2, J2))) : zv_X9_paste_Xnr_0 I J l1 l2 l3 l4 l5 = zv_X9_paste_Xnr_5 I2 J2 l1 l2 l3 l4 l5 := by
  have e : ∀ k : zm_S → zm_R, zm_step zT_X9_paste zW_X k (0, [some (.ref 0), some (.int l1), some (.int l2), some (.int l3), some (.int l4), some (.int l5), none, none], [], (I, J)) = zm_app (2, some 9, true, [], zF_X9_rowAt) zW_X [.ref 0, .int l1] (I, J) (fun v N => k (5, [some (.ref 0), some (.int l1), some (.int l2), some (.int l3), some (.int l4), some (.int l5), none, none], v.toList ++ [], N)) := fun k => rfl
  have g := zm_app_s (C := (2, some 9, true, [], zF_X9_rowAt)) (wl := zW_X) (as := [.ref 0, .int l1]) (M := (I, J)) (k := fun v N => zm_V zT_X9_paste zW_X (5, [some (.ref 0), some (.int l1), some (.int l2), some (.int l3), some (.int l4), some (.int l5), none, none], v.toList ++ [], N)) rfl rfl hF
  exact (zm_V_eq _ _ _).trans ((e _).trans g)
set_option maxRecDepth 20000 in
theorem zc_X9_paste_Xnr_5 {h2 : Nat} (I : Nat → Nat → Int32) (J : Nat → Nat → Int64) (l1 : Int32) (l2 : Int32) (l3 : Int32) (l4 : Int32) (l5 : Int32) {I2 : Nat → Nat → Int32} {J2 : Nat → Nat → Int64} (hF : zF_X9_rowAt zW_X [.ref 0, .int l3] (I, J) = some (some (.ref h2), (I2, J2))) : zv_X9_paste_Xnr_5 I J l1 l2 l3 l4 l5 = zv_X9_paste_Xnr_12 I2 J2 h2 l1 l2 l3 l4 l5 := by
  have e : ∀ k : zm_S → zm_R, zm_step zT_X9_paste zW_X k (5, [some (.ref 0), some (.int l1), some (.int l2), some (.int l3), some (.int l4), some (.int l5), none, none], [.null], (I, J)) = zm_app (2, some 9, true, [], zF_X9_rowAt) zW_X [.ref 0, .int l3] (I, J) (fun v N => k (12, [some (.ref 0), some (.int l1), some (.int l2), some (.int l3), some (.int l4), some (.int l5), some (.null), none], v.toList ++ [], N)) := fun k => rfl
  have g := zm_app_s (C := (2, some 9, true, [], zF_X9_rowAt)) (wl := zW_X) (as := [.ref 0, .int l3]) (M := (I, J)) (k := fun v N => zm_V zT_X9_paste zW_X (12, [some (.ref 0), some (.int l1), some (.int l2), some (.int l3), some (.int l4), some (.int l5), some (.null), none], v.toList ++ [], N)) rfl rfl hF
  exact (zm_V_eq _ _ _).trans ((e _).trans g)
set_option maxRecDepth 20000 in
theorem zq_X9_paste_Xnr_12 (I : Nat → Nat → Int32) (J : Nat → Nat → Int64) (h2 : Nat) (l1 : Int32) (l2 : Int32) (l3 : Int32) (l4 : Int32) (l5 : Int32) (hh2 : zm_isRow h2) : zv_X9_paste_Xnr_12 I J h2 l1 l2 l3 l4 l5 = zv_X9_paste_Xnr_24 I J h2 l1 l2 l3 l4 l5 := by
  have key : ∀ (h2 : Nat), zm_isRow h2 → ∀ k : zm_S → zm_R, zm_step zT_X9_paste zW_X k (12, [some (.ref 0), some (.int l1), some (.int l2), some (.int l3), some (.int l4), some (.int l5), some (.null), none], [.ref h2], (I, J)) = k (24, [some (.ref 0), some (.int l1), some (.int l2), some (.int l3), some (.int l4), some (.int l5), some (.null), some (.ref h2)], [], (I, J)) := by
    intro h2 hh2
    rcases hh2 with rfl | rfl | rfl | rfl <;> (intro k; rfl)
  exact (zm_V_eq _ _ _).trans (key h2 hh2 _)
set_option maxRecDepth 20000 in
theorem zq_X9_paste_Xnr_24 (I : Nat → Nat → Int32) (J : Nat → Nat → Int64) (h2 : Nat) (l1 : Int32) (l2 : Int32) (l3 : Int32) (l4 : Int32) (l5 : Int32) (hh2 : zm_isRow h2) : zv_X9_paste_Xnr_24 I J h2 l1 l2 l3 l4 l5 = some (some (.int (-2)), (I, J)) := by
  have key : ∀ (h2 : Nat), zm_isRow h2 → ∀ k : zm_S → zm_R, zm_step zT_X9_paste zW_X k (24, [some (.ref 0), some (.int l1), some (.int l2), some (.int l3), some (.int l4), some (.int l5), some (.null), some (.ref h2)], [], (I, J)) = some (some (.int (-2)), (I, J)) := by
    intro h2 hh2
    rcases hh2 with rfl | rfl | rfl | rfl <;> (intro k; rfl)
  exact (zm_V_eq _ _ _).trans (key h2 hh2 _)
theorem zf_X9_paste_Xnr (I : Nat → Nat → Int32) (J : Nat → Nat → Int64) (l1 : Int32) (l2 : Int32) (l3 : Int32) (l4 : Int32) (l5 : Int32) : zF_X9_paste zW_X [.ref 0, .int l1, .int l2, .int l3, .int l4, .int l5] (I, J) = zv_X9_paste_Xnr_0 I J l1 l2 l3 l4 l5 := rfl
noncomputable def zv_X9_paste_Xnn_0 (I : Nat → Nat → Int32) (J : Nat → Nat → Int64) (l1 : Int32) (l2 : Int32) (l3 : Int32) (l4 : Int32) (l5 : Int32) : zm_R := zm_V zT_X9_paste zW_X (0, [some (.ref 0), some (.int l1), some (.int l2), some (.int l3), some (.int l4), some (.int l5), none, none], [], (I, J))
noncomputable def zv_X9_paste_Xnn_5 (I : Nat → Nat → Int32) (J : Nat → Nat → Int64) (l1 : Int32) (l2 : Int32) (l3 : Int32) (l4 : Int32) (l5 : Int32) : zm_R := zm_V zT_X9_paste zW_X (5, [some (.ref 0), some (.int l1), some (.int l2), some (.int l3), some (.int l4), some (.int l5), none, none], [.null], (I, J))
noncomputable def zv_X9_paste_Xnn_12 (I : Nat → Nat → Int32) (J : Nat → Nat → Int64) (l1 : Int32) (l2 : Int32) (l3 : Int32) (l4 : Int32) (l5 : Int32) : zm_R := zm_V zT_X9_paste zW_X (12, [some (.ref 0), some (.int l1), some (.int l2), some (.int l3), some (.int l4), some (.int l5), some (.null), none], [.null], (I, J))
noncomputable def zv_X9_paste_Xnn_24 (I : Nat → Nat → Int32) (J : Nat → Nat → Int64) (l1 : Int32) (l2 : Int32) (l3 : Int32) (l4 : Int32) (l5 : Int32) : zm_R := zm_V zT_X9_paste zW_X (24, [some (.ref 0), some (.int l1), some (.int l2), some (.int l3), some (.int l4), some (.int l5), some (.null), some (.null)], [], (I, J))
set_option maxRecDepth 20000 in
theorem zc_X9_paste_Xnn_0 (I : Nat → Nat → Int32) (J : Nat → Nat → Int64) (l1 : Int32) (l2 : Int32) (l3 : Int32) (l4 : Int32) (l5 : Int32) {I2 : Nat → Nat → Int32} {J2 : Nat → Nat → Int64} (hF : zF_X9_rowAt zW_X [.ref 0, .int l1] (I, J) = some (some (.null), (I2, J2))) : zv_X9_paste_Xnn_0 I J l1 l2 l3 l4 l5 = zv_X9_paste_Xnn_5 I2 J2 l1 l2 l3 l4 l5 := by
  have e : ∀ k : zm_S → zm_R, zm_step zT_X9_paste zW_X k (0, [some (.ref 0), some (.int l1), some (.int l2), some (.int l3), some (.int l4), some (.int l5), none, none], [], (I, J)) = zm_app (2, some 9, true, [], zF_X9_rowAt) zW_X [.ref 0, .int l1] (I, J) (fun v N => k (5, [some (.ref 0), some (.int l1), some (.int l2), some (.int l3), some (.int l4), some (.int l5), none, none], v.toList ++ [], N)) := fun k => rfl
  have g := zm_app_s (C := (2, some 9, true, [], zF_X9_rowAt)) (wl := zW_X) (as := [.ref 0, .int l1]) (M := (I, J)) (k := fun v N => zm_V zT_X9_paste zW_X (5, [some (.ref 0), some (.int l1), some (.int l2), some (.int l3), some (.int l4), some (.int l5), none, none], v.toList ++ [], N)) rfl rfl hF
  exact (zm_V_eq _ _ _).trans ((e _).trans g)
set_option maxRecDepth 20000 in
theorem zc_X9_paste_Xnn_5 (I : Nat → Nat → Int32) (J : Nat → Nat → Int64) (l1 : Int32) (l2 : Int32) (l3 : Int32) (l4 : Int32) (l5 : Int32) {I2 : Nat → Nat → Int32} {J2 : Nat → Nat → Int64} (hF : zF_X9_rowAt zW_X [.ref 0, .int l3] (I, J) = some (some (.null), (I2, J2))) : zv_X9_paste_Xnn_5 I J l1 l2 l3 l4 l5 = zv_X9_paste_Xnn_12 I2 J2 l1 l2 l3 l4 l5 := by
  have e : ∀ k : zm_S → zm_R, zm_step zT_X9_paste zW_X k (5, [some (.ref 0), some (.int l1), some (.int l2), some (.int l3), some (.int l4), some (.int l5), none, none], [.null], (I, J)) = zm_app (2, some 9, true, [], zF_X9_rowAt) zW_X [.ref 0, .int l3] (I, J) (fun v N => k (12, [some (.ref 0), some (.int l1), some (.int l2), some (.int l3), some (.int l4), some (.int l5), some (.null), none], v.toList ++ [], N)) := fun k => rfl
  have g := zm_app_s (C := (2, some 9, true, [], zF_X9_rowAt)) (wl := zW_X) (as := [.ref 0, .int l3]) (M := (I, J)) (k := fun v N => zm_V zT_X9_paste zW_X (12, [some (.ref 0), some (.int l1), some (.int l2), some (.int l3), some (.int l4), some (.int l5), some (.null), none], v.toList ++ [], N)) rfl rfl hF
  exact (zm_V_eq _ _ _).trans ((e _).trans g)
set_option maxRecDepth 20000 in
theorem zq_X9_paste_Xnn_12 (I : Nat → Nat → Int32) (J : Nat → Nat → Int64) (l1 : Int32) (l2 : Int32) (l3 : Int32) (l4 : Int32) (l5 : Int32) : zv_X9_paste_Xnn_12 I J l1 l2 l3 l4 l5 = zv_X9_paste_Xnn_24 I J l1 l2 l3 l4 l5 := (zm_V_eq _ _ _).trans ((fun (k : zm_S → zm_R) => (rfl : zm_step zT_X9_paste zW_X k (12, [some (.ref 0), some (.int l1), some (.int l2), some (.int l3), some (.int l4), some (.int l5), some (.null), none], [.null], (I, J)) = k (24, [some (.ref 0), some (.int l1), some (.int l2), some (.int l3), some (.int l4), some (.int l5), some (.null), some (.null)], [], (I, J)))) (zm_V zT_X9_paste zW_X))
set_option maxRecDepth 20000 in
theorem zq_X9_paste_Xnn_24 (I : Nat → Nat → Int32) (J : Nat → Nat → Int64) (l1 : Int32) (l2 : Int32) (l3 : Int32) (l4 : Int32) (l5 : Int32) : zv_X9_paste_Xnn_24 I J l1 l2 l3 l4 l5 = some (some (.int (-2)), (I, J)) := (zm_V_eq _ _ _).trans ((fun (k : zm_S → zm_R) => (rfl : zm_step zT_X9_paste zW_X k (24, [some (.ref 0), some (.int l1), some (.int l2), some (.int l3), some (.int l4), some (.int l5), some (.null), some (.null)], [], (I, J)) = some (some (.int (-2)), (I, J)))) (zm_V zT_X9_paste zW_X))
theorem zf_X9_paste_Xnn (I : Nat → Nat → Int32) (J : Nat → Nat → Int64) (l1 : Int32) (l2 : Int32) (l3 : Int32) (l4 : Int32) (l5 : Int32) : zF_X9_paste zW_X [.ref 0, .int l1, .int l2, .int l3, .int l4, .int l5] (I, J) = zv_X9_paste_Xnn_0 I J l1 l2 l3 l4 l5 := rfl
end
section
/-! EQUATIONS OF STRETCHES, printed by program (wip/gen/gen24a.py) -/
def zW_M : zm_L := [(.inl 10, [.null, .ref 1, .ref 2, .ref 3, .ref 4, .ref 5, .null, .null, .null, .null, .null, .null, .null, .null, .null, .null, .ref 6, .ref 7, .ref 8, .ref 9, .ref 10, .ref 11, .null, .null, .null, .null, .null, .null, .null, .ref 12, .ref 13, .ref 14, .ref 15, .ref 16, .ref 17, .ref 18, .ref 19, .ref 20, .ref 21, .ref 22, .ref 23, .ref 24, .ref 25, .null, .null, .ref 26, .null, .ref 27, .ref 28, .ref 29, .null, .ref 30]), (.inr (.int, 4), []), (.inr (.int, 4), []), (.inr (.long, 240), []), (.inr (.long, 60), []), (.inr (.byte, 800), []), (.inr (.int, 5), []), (.inr (.int, 35), []), (.inr (.int, 30), []), (.inr (.int, 125), []), (.inr (.int, 600), []), (.inr (.boolean, 3), []), (.inr (.int, 6), []), (.inr (.int, 5), []), (.inr (.int, 5), []), (.inr (.int, 5), []), (.inr (.int, 305), []), (.inr (.int, 305), []), (.inr (.int, 5), []), (.inr (.int, 5), []), (.inr (.boolean, 40), []), (.inr (.int, 5), []), (.inr (.int, 5), []), (.inr (.int, 5), []), (.inr (.boolean, 5), []), (.inr (.int, 5), []), (.inr (.int, 5), []), (.inr (.int, 6161), []), (.inr (.int, 10), []), (.inr (.int, 10), []), (.inr (.int, 36), [])]
noncomputable def zv_X10_isByte_M_0 (I : Nat → Nat → Int32) (J : Nat → Nat → Int64) (l1 : Int32) (l2 : Int32) (l3 : Int32) : zm_R := zm_V zT_X10_isByte zW_M (0, [some (.ref 0), some (.int l1), some (.int l2), some (.int l3)], [], (I, J))
noncomputable def zv_X10_isByte_M_8 (I : Nat → Nat → Int32) (J : Nat → Nat → Int64) (l1 : Int32) (l2 : Int32) (l3 : Int32) : zm_R := zm_V zT_X10_isByte zW_M (8, [some (.ref 0), some (.int l1), some (.int l2), some (.int l3)], [], (I, J))
noncomputable def zv_X10_isByte_M_18 (I : Nat → Nat → Int32) (J : Nat → Nat → Int64) (l1 : Int32) (l2 : Int32) (l3 : Int32) : zm_R := zm_V zT_X10_isByte zW_M (18, [some (.ref 0), some (.int l1), some (.int l2), some (.int l3)], [], (I, J))
noncomputable def zv_X10_isByte_M_28 (I : Nat → Nat → Int32) (J : Nat → Nat → Int64) (l1 : Int32) (l2 : Int32) (l3 : Int32) : zm_R := zm_V zT_X10_isByte zW_M (28, [some (.ref 0), some (.int l1), some (.int l2), some (.int l3)], [], (I, J))
noncomputable def zv_X10_isByte_M_32 (I : Nat → Nat → Int32) (J : Nat → Nat → Int64) (l1 : Int32) (l2 : Int32) (l3 : Int32) : zm_R := zm_V zT_X10_isByte zW_M (32, [some (.ref 0), some (.int l1), some (.int l2), some (.int l3)], [], (I, J))
noncomputable def zv_X10_isByte_M_33 (I : Nat → Nat → Int32) (J : Nat → Nat → Int64) (l1 : Int32) (l2 : Int32) (l3 : Int32) (s0 : Int32) : zm_R := zm_V zT_X10_isByte zW_M (33, [some (.ref 0), some (.int l1), some (.int l2), some (.int l3)], [.int s0], (I, J))
set_option maxRecDepth 20000 in
theorem zq_X10_isByte_M_0 (I : Nat → Nat → Int32) (J : Nat → Nat → Int64) (l1 : Int32) (l2 : Int32) (l3 : Int32) : zv_X10_isByte_M_0 I J l1 l2 l3 = if (I 0 6) ≤ l1 then zv_X10_isByte_M_32 I J l1 l2 l3 else zv_X10_isByte_M_8 I J l1 l2 l3 := (zm_V_eq _ _ _).trans ((fun (k : zm_S → zm_R) => (rfl : zm_step zT_X10_isByte zW_M k (0, [some (.ref 0), some (.int l1), some (.int l2), some (.int l3)], [], (I, J)) = if (I 0 6) ≤ l1 then k (32, [some (.ref 0), some (.int l1), some (.int l2), some (.int l3)], [], (I, J)) else k (8, [some (.ref 0), some (.int l1), some (.int l2), some (.int l3)], [], (I, J)))) (zm_V zT_X10_isByte zW_M))
set_option maxRecDepth 20000 in
theorem zq_X10_isByte_M_8 (I : Nat → Nat → Int32) (J : Nat → Nat → Int64) (l1 : Int32) (l2 : Int32) (l3 : Int32) : zv_X10_isByte_M_8 I J l1 l2 l3 = if (l1 : Int32) < 0 ∨ 800 ≤ Int32.toNatClampNeg l1 then none else if (I 5 (Int32.toNatClampNeg l1)) < l2 then zv_X10_isByte_M_32 I J l1 l2 l3 else zv_X10_isByte_M_18 I J l1 l2 l3 := (zm_V_eq _ _ _).trans ((fun (k : zm_S → zm_R) => (rfl : zm_step zT_X10_isByte zW_M k (8, [some (.ref 0), some (.int l1), some (.int l2), some (.int l3)], [], (I, J)) = if (l1 : Int32) < 0 ∨ 800 ≤ Int32.toNatClampNeg l1 then none else if (I 5 (Int32.toNatClampNeg l1)) < l2 then k (32, [some (.ref 0), some (.int l1), some (.int l2), some (.int l3)], [], (I, J)) else k (18, [some (.ref 0), some (.int l1), some (.int l2), some (.int l3)], [], (I, J)))) (zm_V zT_X10_isByte zW_M))
set_option maxRecDepth 20000 in
theorem zq_X10_isByte_M_18 (I : Nat → Nat → Int32) (J : Nat → Nat → Int64) (l1 : Int32) (l2 : Int32) (l3 : Int32) : zv_X10_isByte_M_18 I J l1 l2 l3 = if (l1 : Int32) < 0 ∨ 800 ≤ Int32.toNatClampNeg l1 then none else if l3 < (I 5 (Int32.toNatClampNeg l1)) then zv_X10_isByte_M_32 I J l1 l2 l3 else zv_X10_isByte_M_28 I J l1 l2 l3 := (zm_V_eq _ _ _).trans ((fun (k : zm_S → zm_R) => (rfl : zm_step zT_X10_isByte zW_M k (18, [some (.ref 0), some (.int l1), some (.int l2), some (.int l3)], [], (I, J)) = if (l1 : Int32) < 0 ∨ 800 ≤ Int32.toNatClampNeg l1 then none else if l3 < (I 5 (Int32.toNatClampNeg l1)) then k (32, [some (.ref 0), some (.int l1), some (.int l2), some (.int l3)], [], (I, J)) else k (28, [some (.ref 0), some (.int l1), some (.int l2), some (.int l3)], [], (I, J)))) (zm_V zT_X10_isByte zW_M))
set_option maxRecDepth 20000 in
theorem zq_X10_isByte_M_28 (I : Nat → Nat → Int32) (J : Nat → Nat → Int64) (l1 : Int32) (l2 : Int32) (l3 : Int32) : zv_X10_isByte_M_28 I J l1 l2 l3 = zv_X10_isByte_M_33 I J l1 l2 l3 1 := (zm_V_eq _ _ _).trans ((fun (k : zm_S → zm_R) => (rfl : zm_step zT_X10_isByte zW_M k (28, [some (.ref 0), some (.int l1), some (.int l2), some (.int l3)], [], (I, J)) = k (33, [some (.ref 0), some (.int l1), some (.int l2), some (.int l3)], [.int 1], (I, J)))) (zm_V zT_X10_isByte zW_M))
set_option maxRecDepth 20000 in
theorem zq_X10_isByte_M_32 (I : Nat → Nat → Int32) (J : Nat → Nat → Int64) (l1 : Int32) (l2 : Int32) (l3 : Int32) : zv_X10_isByte_M_32 I J l1 l2 l3 = zv_X10_isByte_M_33 I J l1 l2 l3 0 := (zm_V_eq _ _ _).trans ((fun (k : zm_S → zm_R) => (rfl : zm_step zT_X10_isByte zW_M k (32, [some (.ref 0), some (.int l1), some (.int l2), some (.int l3)], [], (I, J)) = k (33, [some (.ref 0), some (.int l1), some (.int l2), some (.int l3)], [.int 0], (I, J)))) (zm_V zT_X10_isByte zW_M))
set_option maxRecDepth 20000 in
theorem zq_X10_isByte_M_33 (I : Nat → Nat → Int32) (J : Nat → Nat → Int64) (l1 : Int32) (l2 : Int32) (l3 : Int32) (s0 : Int32) : zv_X10_isByte_M_33 I J l1 l2 l3 s0 = if s0 = 0 ∨ s0 = 1 then some (some (.int s0), (I, J)) else none := (zm_V_eq _ _ _).trans ((fun (k : zm_S → zm_R) => (rfl : zm_step zT_X10_isByte zW_M k (33, [some (.ref 0), some (.int l1), some (.int l2), some (.int l3)], [.int s0], (I, J)) = if s0 = 0 ∨ s0 = 1 then some (some (.int s0), (I, J)) else none)) (zm_V zT_X10_isByte zW_M))
theorem zf_X10_isByte_M (I : Nat → Nat → Int32) (J : Nat → Nat → Int64) (l1 : Int32) (l2 : Int32) (l3 : Int32) : zF_X10_isByte zW_M [.ref 0, .int l1, .int l2, .int l3] (I, J) = zv_X10_isByte_M_0 I J l1 l2 l3 := rfl
noncomputable def zv_X10_whyNotSeen_M_0 (I : Nat → Nat → Int32) (J : Nat → Nat → Int64) (l1 : Int32) : zm_R := zm_V zT_X10_whyNotSeen zW_M (0, [some (.ref 0), some (.int l1), none, none], [], (I, J))
noncomputable def zv_X10_whyNotSeen_M_4 (I : Nat → Nat → Int32) (J : Nat → Nat → Int64) (l1 : Int32) (s0 : Int32) : zm_R := zm_V zT_X10_whyNotSeen zW_M (4, [some (.ref 0), some (.int l1), none, none], [.int s0], (I, J))
noncomputable def zv_X10_whyNotSeen_M_7 (I : Nat → Nat → Int32) (J : Nat → Nat → Int64) (l1 : Int32) : zm_R := zm_V zT_X10_whyNotSeen zW_M (7, [some (.ref 0), some (.int l1), none, none], [], (I, J))
noncomputable def zv_X10_whyNotSeen_M_11 (I : Nat → Nat → Int32) (J : Nat → Nat → Int64) (l1 : Int32) (s0 : Int32) : zm_R := zm_V zT_X10_whyNotSeen zW_M (11, [some (.ref 0), some (.int l1), none, none], [.int s0], (I, J))
noncomputable def zv_X10_whyNotSeen_M_14 (I : Nat → Nat → Int32) (J : Nat → Nat → Int64) (l1 : Int32) : zm_R := zm_V zT_X10_whyNotSeen zW_M (14, [some (.ref 0), some (.int l1), none, none], [], (I, J))
noncomputable def zv_X10_whyNotSeen_M_17 (I : Nat → Nat → Int32) (J : Nat → Nat → Int64) (l1 : Int32) : zm_R := zm_V zT_X10_whyNotSeen zW_M (17, [some (.ref 0), some (.int l1), none, none], [], (I, J))
noncomputable def zv_X10_whyNotSeen_M_27 (I : Nat → Nat → Int32) (J : Nat → Nat → Int64) (l1 : Int32) : zm_R := zm_V zT_X10_whyNotSeen zW_M (27, [some (.ref 0), some (.int l1), none, none], [], (I, J))
noncomputable def zv_X10_whyNotSeen_M_30 (I : Nat → Nat → Int32) (J : Nat → Nat → Int64) (l1 : Int32) : zm_R := zm_V zT_X10_whyNotSeen zW_M (30, [some (.ref 0), some (.int l1), none, none], [], (I, J))
noncomputable def zv_X10_whyNotSeen_M_41 (I : Nat → Nat → Int32) (J : Nat → Nat → Int64) (l1 : Int32) : zm_R := zm_V zT_X10_whyNotSeen zW_M (41, [some (.ref 0), some (.int l1), none, none], [], (I, J))
noncomputable def zv_X10_whyNotSeen_M_44 (I : Nat → Nat → Int32) (J : Nat → Nat → Int64) (l1 : Int32) : zm_R := zm_V zT_X10_whyNotSeen zW_M (44, [some (.ref 0), some (.int l1), none, none], [], (I, J))
noncomputable def zv_X10_whyNotSeen_M_46 (I : Nat → Nat → Int32) (J : Nat → Nat → Int64) (l1 : Int32) (l2 : Int32) (l3 : Option Value) : zm_R := zm_V zT_X10_whyNotSeen zW_M (46, [some (.ref 0), some (.int l1), some (.int l2), l3], [], (I, J))
noncomputable def zv_X10_whyNotSeen_M_56 (I : Nat → Nat → Int32) (J : Nat → Nat → Int64) (l1 : Int32) (l2 : Int32) (l3 : Option Value) : zm_R := zm_V zT_X10_whyNotSeen zW_M (56, [some (.ref 0), some (.int l1), some (.int l2), l3], [], (I, J))
noncomputable def zv_X10_whyNotSeen_M_70 (I : Nat → Nat → Int32) (J : Nat → Nat → Int64) (l1 : Int32) (l2 : Int32) (l3 : Int32) (s0 : Int64) : zm_R := zm_V zT_X10_whyNotSeen zW_M (70, [some (.ref 0), some (.int l1), some (.int l2), some (.int l3)], [.long s0, .ref 0], (I, J))
noncomputable def zv_X10_whyNotSeen_M_73 (I : Nat → Nat → Int32) (J : Nat → Nat → Int64) (l1 : Int32) (l2 : Int32) (l3 : Int32) (s0 : Int32) : zm_R := zm_V zT_X10_whyNotSeen zW_M (73, [some (.ref 0), some (.int l1), some (.int l2), some (.int l3)], [.int s0], (I, J))
noncomputable def zv_X10_whyNotSeen_M_76 (I : Nat → Nat → Int32) (J : Nat → Nat → Int64) (l1 : Int32) (l2 : Int32) (l3 : Int32) : zm_R := zm_V zT_X10_whyNotSeen zW_M (76, [some (.ref 0), some (.int l1), some (.int l2), some (.int l3)], [], (I, J))
noncomputable def zv_X10_whyNotSeen_M_84 (I : Nat → Nat → Int32) (J : Nat → Nat → Int64) (l1 : Int32) (l2 : Int32) (l3 : Int32) (s0 : Int64) : zm_R := zm_V zT_X10_whyNotSeen zW_M (84, [some (.ref 0), some (.int l1), some (.int l2), some (.int l3)], [.long s0], (I, J))
noncomputable def zv_X10_whyNotSeen_M_91 (I : Nat → Nat → Int32) (J : Nat → Nat → Int64) (l1 : Int32) (l2 : Int32) (l3 : Int32) (s0 : Int32) : zm_R := zm_V zT_X10_whyNotSeen zW_M (91, [some (.ref 0), some (.int l1), some (.int l2), some (.int l3)], [.int s0], (I, J))
noncomputable def zv_X10_whyNotSeen_M_94 (I : Nat → Nat → Int32) (J : Nat → Nat → Int64) (l1 : Int32) (l2 : Int32) (l3 : Int32) : zm_R := zm_V zT_X10_whyNotSeen zW_M (94, [some (.ref 0), some (.int l1), some (.int l2), some (.int l3)], [], (I, J))
noncomputable def zv_X10_whyNotSeen_M_102 (I : Nat → Nat → Int32) (J : Nat → Nat → Int64) (l1 : Int32) (l2 : Int32) (l3 : Int32) (s0 : Int64) : zm_R := zm_V zT_X10_whyNotSeen zW_M (102, [some (.ref 0), some (.int l1), some (.int l2), some (.int l3)], [.long s0], (I, J))
noncomputable def zv_X10_whyNotSeen_M_111 (I : Nat → Nat → Int32) (J : Nat → Nat → Int64) (l1 : Int32) (l2 : Int32) (l3 : Int32) (s0 : Int32) : zm_R := zm_V zT_X10_whyNotSeen zW_M (111, [some (.ref 0), some (.int l1), some (.int l2), some (.int l3)], [.int s0], (I, J))
noncomputable def zv_X10_whyNotSeen_M_114 (I : Nat → Nat → Int32) (J : Nat → Nat → Int64) (l1 : Int32) (l2 : Int32) (l3 : Int32) : zm_R := zm_V zT_X10_whyNotSeen zW_M (114, [some (.ref 0), some (.int l1), some (.int l2), some (.int l3)], [], (I, J))
noncomputable def zv_X10_whyNotSeen_M_117 (I : Nat → Nat → Int32) (J : Nat → Nat → Int64) (l1 : Int32) (l2 : Int32) (l3 : Int32) : zm_R := zm_V zT_X10_whyNotSeen zW_M (117, [some (.ref 0), some (.int l1), some (.int l2), some (.int l3)], [], (I, J))
noncomputable def zv_X10_whyNotSeen_M_123 (I : Nat → Nat → Int32) (J : Nat → Nat → Int64) (l1 : Int32) (l2 : Int32) (l3 : Option Value) : zm_R := zm_V zT_X10_whyNotSeen zW_M (123, [some (.ref 0), some (.int l1), some (.int l2), l3], [], (I, J))
set_option maxRecDepth 20000 in
theorem zc_X10_whyNotSeen_M_0 (I : Nat → Nat → Int32) (J : Nat → Nat → Int64) (l1 : Int32) {I2 : Nat → Nat → Int32} {J2 : Nat → Nat → Int64} {r : Int32} (hF : zF_X10_isSlot zW_M [.int l1] (I, J) = some (some (.int r), (I2, J2))) : zv_X10_whyNotSeen_M_0 I J l1 = zv_X10_whyNotSeen_M_4 I2 J2 l1 r := by
  have e : ∀ k : zm_S → zm_R, zm_step zT_X10_whyNotSeen zW_M k (0, [some (.ref 0), some (.int l1), none, none], [], (I, J)) = zm_app (1, none, true, [], zF_X10_isSlot) zW_M [.int l1] (I, J) (fun v N => k (4, [some (.ref 0), some (.int l1), none, none], v.toList ++ [], N)) := fun k => rfl
  have g := zm_app_s (C := (1, none, true, [], zF_X10_isSlot)) (wl := zW_M) (as := [.int l1]) (M := (I, J)) (k := fun v N => zm_V zT_X10_whyNotSeen zW_M (4, [some (.ref 0), some (.int l1), none, none], v.toList ++ [], N)) rfl rfl hF
  exact (zm_V_eq _ _ _).trans ((e _).trans g)
set_option maxRecDepth 20000 in
theorem zq_X10_whyNotSeen_M_4 (I : Nat → Nat → Int32) (J : Nat → Nat → Int64) (l1 : Int32) (s0 : Int32) : zv_X10_whyNotSeen_M_4 I J l1 s0 = if s0 = 0 then zv_X10_whyNotSeen_M_14 I J l1 else zv_X10_whyNotSeen_M_7 I J l1 := (zm_V_eq _ _ _).trans ((fun (k : zm_S → zm_R) => (rfl : zm_step zT_X10_whyNotSeen zW_M k (4, [some (.ref 0), some (.int l1), none, none], [.int s0], (I, J)) = if s0 = 0 then k (14, [some (.ref 0), some (.int l1), none, none], [], (I, J)) else k (7, [some (.ref 0), some (.int l1), none, none], [], (I, J)))) (zm_V zT_X10_whyNotSeen zW_M))
set_option maxRecDepth 20000 in
theorem zc_X10_whyNotSeen_M_7 (I : Nat → Nat → Int32) (J : Nat → Nat → Int64) (l1 : Int32) {I2 : Nat → Nat → Int32} {J2 : Nat → Nat → Int64} {r : Int32} (hF : zF_X10_isBench zW_M [.ref 0] (I, J) = some (some (.int r), (I2, J2))) : zv_X10_whyNotSeen_M_7 I J l1 = zv_X10_whyNotSeen_M_11 I2 J2 l1 r := by
  have e : ∀ k : zm_S → zm_R, zm_step zT_X10_whyNotSeen zW_M k (7, [some (.ref 0), some (.int l1), none, none], [], (I, J)) = zm_app (1, some 10, true, [], zF_X10_isBench) zW_M [.ref 0] (I, J) (fun v N => k (11, [some (.ref 0), some (.int l1), none, none], v.toList ++ [], N)) := fun k => rfl
  have g := zm_app_s (C := (1, some 10, true, [], zF_X10_isBench)) (wl := zW_M) (as := [.ref 0]) (M := (I, J)) (k := fun v N => zm_V zT_X10_whyNotSeen zW_M (11, [some (.ref 0), some (.int l1), none, none], v.toList ++ [], N)) rfl rfl hF
  exact (zm_V_eq _ _ _).trans ((e _).trans g)
set_option maxRecDepth 20000 in
theorem zq_X10_whyNotSeen_M_11 (I : Nat → Nat → Int32) (J : Nat → Nat → Int64) (l1 : Int32) (s0 : Int32) : zv_X10_whyNotSeen_M_11 I J l1 s0 = if s0 = 0 then zv_X10_whyNotSeen_M_14 I J l1 else zv_X10_whyNotSeen_M_17 I J l1 := (zm_V_eq _ _ _).trans ((fun (k : zm_S → zm_R) => (rfl : zm_step zT_X10_whyNotSeen zW_M k (11, [some (.ref 0), some (.int l1), none, none], [.int s0], (I, J)) = if s0 = 0 then k (14, [some (.ref 0), some (.int l1), none, none], [], (I, J)) else k (17, [some (.ref 0), some (.int l1), none, none], [], (I, J)))) (zm_V zT_X10_whyNotSeen zW_M))
set_option maxRecDepth 20000 in
theorem zq_X10_whyNotSeen_M_14 (I : Nat → Nat → Int32) (J : Nat → Nat → Int64) (l1 : Int32) : zv_X10_whyNotSeen_M_14 I J l1 = some (some (.int (-2)), (I, J)) := (zm_V_eq _ _ _).trans ((fun (k : zm_S → zm_R) => (rfl : zm_step zT_X10_whyNotSeen zW_M k (14, [some (.ref 0), some (.int l1), none, none], [], (I, J)) = some (some (.int (-2)), (I, J)))) (zm_V zT_X10_whyNotSeen zW_M))
set_option maxRecDepth 20000 in
theorem zq_X10_whyNotSeen_M_17 (I : Nat → Nat → Int32) (J : Nat → Nat → Int64) (l1 : Int32) : zv_X10_whyNotSeen_M_17 I J l1 = if (l1 : Int32) < 0 ∨ 4 ≤ Int32.toNatClampNeg l1 then none else if (I 1 (Int32.toNatClampNeg l1)) = (-1) then zv_X10_whyNotSeen_M_27 I J l1 else zv_X10_whyNotSeen_M_30 I J l1 := (zm_V_eq _ _ _).trans ((fun (k : zm_S → zm_R) => (rfl : zm_step zT_X10_whyNotSeen zW_M k (17, [some (.ref 0), some (.int l1), none, none], [], (I, J)) = if (l1 : Int32) < 0 ∨ 4 ≤ Int32.toNatClampNeg l1 then none else if (I 1 (Int32.toNatClampNeg l1)) = (-1) then k (27, [some (.ref 0), some (.int l1), none, none], [], (I, J)) else k (30, [some (.ref 0), some (.int l1), none, none], [], (I, J)))) (zm_V zT_X10_whyNotSeen zW_M))
set_option maxRecDepth 20000 in
theorem zq_X10_whyNotSeen_M_27 (I : Nat → Nat → Int32) (J : Nat → Nat → Int64) (l1 : Int32) : zv_X10_whyNotSeen_M_27 I J l1 = some (some (.int (-6)), (I, J)) := (zm_V_eq _ _ _).trans ((fun (k : zm_S → zm_R) => (rfl : zm_step zT_X10_whyNotSeen zW_M k (27, [some (.ref 0), some (.int l1), none, none], [], (I, J)) = some (some (.int (-6)), (I, J)))) (zm_V zT_X10_whyNotSeen zW_M))
set_option maxRecDepth 20000 in
theorem zq_X10_whyNotSeen_M_30 (I : Nat → Nat → Int32) (J : Nat → Nat → Int64) (l1 : Int32) : zv_X10_whyNotSeen_M_30 I J l1 = if (l1 : Int32) < 0 ∨ 4 ≤ Int32.toNatClampNeg l1 then none else if ((I 2 (Int32.toNatClampNeg l1)) - (I 2 (Int32.toNatClampNeg l1)) / 3 * 3) = 0 then zv_X10_whyNotSeen_M_44 I J l1 else zv_X10_whyNotSeen_M_41 I J l1 := (zm_V_eq _ _ _).trans ((fun (k : zm_S → zm_R) => (rfl : zm_step zT_X10_whyNotSeen zW_M k (30, [some (.ref 0), some (.int l1), none, none], [], (I, J)) = if (l1 : Int32) < 0 ∨ 4 ≤ Int32.toNatClampNeg l1 then none else if ((I 2 (Int32.toNatClampNeg l1)) - (I 2 (Int32.toNatClampNeg l1)) / 3 * 3) = 0 then k (44, [some (.ref 0), some (.int l1), none, none], [], (I, J)) else k (41, [some (.ref 0), some (.int l1), none, none], [], (I, J)))) (zm_V zT_X10_whyNotSeen zW_M))
set_option maxRecDepth 20000 in
theorem zq_X10_whyNotSeen_M_41 (I : Nat → Nat → Int32) (J : Nat → Nat → Int64) (l1 : Int32) : zv_X10_whyNotSeen_M_41 I J l1 = some (some (.int (-2)), (I, J)) := (zm_V_eq _ _ _).trans ((fun (k : zm_S → zm_R) => (rfl : zm_step zT_X10_whyNotSeen zW_M k (41, [some (.ref 0), some (.int l1), none, none], [], (I, J)) = some (some (.int (-2)), (I, J)))) (zm_V zT_X10_whyNotSeen zW_M))
set_option maxRecDepth 20000 in
theorem zq_X10_whyNotSeen_M_44 (I : Nat → Nat → Int32) (J : Nat → Nat → Int64) (l1 : Int32) : zv_X10_whyNotSeen_M_44 I J l1 = zv_X10_whyNotSeen_M_46 I J l1 0 none := (zm_V_eq _ _ _).trans ((fun (k : zm_S → zm_R) => (rfl : zm_step zT_X10_whyNotSeen zW_M k (44, [some (.ref 0), some (.int l1), none, none], [], (I, J)) = k (46, [some (.ref 0), some (.int l1), some (.int 0), none], [], (I, J)))) (zm_V zT_X10_whyNotSeen zW_M))
set_option maxRecDepth 20000 in
theorem zq_X10_whyNotSeen_M_46 (I : Nat → Nat → Int32) (J : Nat → Nat → Int64) (l1 : Int32) (l2 : Int32) (l3 : Option Value) : zv_X10_whyNotSeen_M_46 I J l1 l2 l3 = if (l1 : Int32) < 0 ∨ 4 ≤ Int32.toNatClampNeg l1 then none else if (I 2 (Int32.toNatClampNeg l1)) ≤ l2 then zv_X10_whyNotSeen_M_123 I J l1 l2 l3 else zv_X10_whyNotSeen_M_56 I J l1 l2 l3 := (zm_V_eq _ _ _).trans ((fun (k : zm_S → zm_R) => (rfl : zm_step zT_X10_whyNotSeen zW_M k (46, [some (.ref 0), some (.int l1), some (.int l2), l3], [], (I, J)) = if (l1 : Int32) < 0 ∨ 4 ≤ Int32.toNatClampNeg l1 then none else if (I 2 (Int32.toNatClampNeg l1)) ≤ l2 then k (123, [some (.ref 0), some (.int l1), some (.int l2), l3], [], (I, J)) else k (56, [some (.ref 0), some (.int l1), some (.int l2), l3], [], (I, J)))) (zm_V zT_X10_whyNotSeen zW_M))
set_option maxRecDepth 20000 in
theorem zq_X10_whyNotSeen_M_56 (I : Nat → Nat → Int32) (J : Nat → Nat → Int64) (l1 : Int32) (l2 : Int32) (l3 : Option Value) : zv_X10_whyNotSeen_M_56 I J l1 l2 l3 = if (((60 * l1) + l2) : Int32) < 0 ∨ 240 ≤ Int32.toNatClampNeg ((60 * l1) + l2) then none else zv_X10_whyNotSeen_M_70 I J l1 l2 ((60 * l1) + l2) (J 3 (Int32.toNatClampNeg ((60 * l1) + l2))) := (zm_V_eq _ _ _).trans ((fun (k : zm_S → zm_R) => (rfl : zm_step zT_X10_whyNotSeen zW_M k (56, [some (.ref 0), some (.int l1), some (.int l2), l3], [], (I, J)) = if (((60 * l1) + l2) : Int32) < 0 ∨ 240 ≤ Int32.toNatClampNeg ((60 * l1) + l2) then none else k (70, [some (.ref 0), some (.int l1), some (.int l2), some (.int ((60 * l1) + l2))], [.long (J 3 (Int32.toNatClampNeg ((60 * l1) + l2))), .ref 0], (I, J)))) (zm_V zT_X10_whyNotSeen zW_M))
set_option maxRecDepth 20000 in
theorem zc_X10_whyNotSeen_M_70 (I : Nat → Nat → Int32) (J : Nat → Nat → Int64) (l1 : Int32) (l2 : Int32) (l3 : Int32) (s0 : Int64) {I2 : Nat → Nat → Int32} {J2 : Nat → Nat → Int64} {r : Int32} (hF : zF_X10_isCaller zW_M [.ref 0, .long s0] (I, J) = some (some (.int r), (I2, J2))) : zv_X10_whyNotSeen_M_70 I J l1 l2 l3 s0 = zv_X10_whyNotSeen_M_73 I2 J2 l1 l2 l3 r := by
  have e : ∀ k : zm_S → zm_R, zm_step zT_X10_whyNotSeen zW_M k (70, [some (.ref 0), some (.int l1), some (.int l2), some (.int l3)], [.long s0, .ref 0], (I, J)) = zm_app (2, some 10, true, [], zF_X10_isCaller) zW_M [.ref 0, .long s0] (I, J) (fun v N => k (73, [some (.ref 0), some (.int l1), some (.int l2), some (.int l3)], v.toList ++ [], N)) := fun k => rfl
  have g := zm_app_s (C := (2, some 10, true, [], zF_X10_isCaller)) (wl := zW_M) (as := [.ref 0, .long s0]) (M := (I, J)) (k := fun v N => zm_V zT_X10_whyNotSeen zW_M (73, [some (.ref 0), some (.int l1), some (.int l2), some (.int l3)], v.toList ++ [], N)) rfl rfl hF
  exact (zm_V_eq _ _ _).trans ((e _).trans g)
set_option maxRecDepth 20000 in
theorem zq_X10_whyNotSeen_M_73 (I : Nat → Nat → Int32) (J : Nat → Nat → Int64) (l1 : Int32) (l2 : Int32) (l3 : Int32) (s0 : Int32) : zv_X10_whyNotSeen_M_73 I J l1 l2 l3 s0 = if s0 = 0 then zv_X10_whyNotSeen_M_114 I J l1 l2 l3 else zv_X10_whyNotSeen_M_76 I J l1 l2 l3 := (zm_V_eq _ _ _).trans ((fun (k : zm_S → zm_R) => (rfl : zm_step zT_X10_whyNotSeen zW_M k (73, [some (.ref 0), some (.int l1), some (.int l2), some (.int l3)], [.int s0], (I, J)) = if s0 = 0 then k (114, [some (.ref 0), some (.int l1), some (.int l2), some (.int l3)], [], (I, J)) else k (76, [some (.ref 0), some (.int l1), some (.int l2), some (.int l3)], [], (I, J)))) (zm_V zT_X10_whyNotSeen zW_M))
set_option maxRecDepth 20000 in
theorem zq_X10_whyNotSeen_M_76 (I : Nat → Nat → Int32) (J : Nat → Nat → Int64) (l1 : Int32) (l2 : Int32) (l3 : Int32) : zv_X10_whyNotSeen_M_76 I J l1 l2 l3 = if ((l3 + 1) : Int32) < 0 ∨ 240 ≤ Int32.toNatClampNeg (l3 + 1) then none else zv_X10_whyNotSeen_M_84 I J l1 l2 l3 (J 3 (Int32.toNatClampNeg (l3 + 1))) := (zm_V_eq _ _ _).trans ((fun (k : zm_S → zm_R) => (rfl : zm_step zT_X10_whyNotSeen zW_M k (76, [some (.ref 0), some (.int l1), some (.int l2), some (.int l3)], [], (I, J)) = if ((l3 + 1) : Int32) < 0 ∨ 240 ≤ Int32.toNatClampNeg (l3 + 1) then none else k (84, [some (.ref 0), some (.int l1), some (.int l2), some (.int l3)], [.long (J 3 (Int32.toNatClampNeg (l3 + 1)))], (I, J)))) (zm_V zT_X10_whyNotSeen zW_M))
set_option maxRecDepth 20000 in
theorem zc_X10_whyNotSeen_M_84 (I : Nat → Nat → Int32) (J : Nat → Nat → Int64) (l1 : Int32) (l2 : Int32) (l3 : Int32) (s0 : Int64) {I2 : Nat → Nat → Int32} {J2 : Nat → Nat → Int64} {r : Int32} (hF : zF_X10_in zW_M [.long s0, .long 0, .long (60)] (I, J) = some (some (.int r), (I2, J2))) : zv_X10_whyNotSeen_M_84 I J l1 l2 l3 s0 = zv_X10_whyNotSeen_M_91 I2 J2 l1 l2 l3 r := by
  have e : ∀ k : zm_S → zm_R, zm_step zT_X10_whyNotSeen zW_M k (84, [some (.ref 0), some (.int l1), some (.int l2), some (.int l3)], [.long s0], (I, J)) = zm_app (3, none, true, [], zF_X10_in) zW_M [.long s0, .long 0, .long (60)] (I, J) (fun v N => k (91, [some (.ref 0), some (.int l1), some (.int l2), some (.int l3)], v.toList ++ [], N)) := fun k => rfl
  have g := zm_app_s (C := (3, none, true, [], zF_X10_in)) (wl := zW_M) (as := [.long s0, .long 0, .long (60)]) (M := (I, J)) (k := fun v N => zm_V zT_X10_whyNotSeen zW_M (91, [some (.ref 0), some (.int l1), some (.int l2), some (.int l3)], v.toList ++ [], N)) rfl rfl hF
  exact (zm_V_eq _ _ _).trans ((e _).trans g)
set_option maxRecDepth 20000 in
theorem zq_X10_whyNotSeen_M_91 (I : Nat → Nat → Int32) (J : Nat → Nat → Int64) (l1 : Int32) (l2 : Int32) (l3 : Int32) (s0 : Int32) : zv_X10_whyNotSeen_M_91 I J l1 l2 l3 s0 = if s0 = 0 then zv_X10_whyNotSeen_M_114 I J l1 l2 l3 else zv_X10_whyNotSeen_M_94 I J l1 l2 l3 := (zm_V_eq _ _ _).trans ((fun (k : zm_S → zm_R) => (rfl : zm_step zT_X10_whyNotSeen zW_M k (91, [some (.ref 0), some (.int l1), some (.int l2), some (.int l3)], [.int s0], (I, J)) = if s0 = 0 then k (114, [some (.ref 0), some (.int l1), some (.int l2), some (.int l3)], [], (I, J)) else k (94, [some (.ref 0), some (.int l1), some (.int l2), some (.int l3)], [], (I, J)))) (zm_V zT_X10_whyNotSeen zW_M))
set_option maxRecDepth 20000 in
theorem zq_X10_whyNotSeen_M_94 (I : Nat → Nat → Int32) (J : Nat → Nat → Int64) (l1 : Int32) (l2 : Int32) (l3 : Int32) : zv_X10_whyNotSeen_M_94 I J l1 l2 l3 = if ((l3 + 2) : Int32) < 0 ∨ 240 ≤ Int32.toNatClampNeg (l3 + 2) then none else zv_X10_whyNotSeen_M_102 I J l1 l2 l3 (J 3 (Int32.toNatClampNeg (l3 + 2))) := (zm_V_eq _ _ _).trans ((fun (k : zm_S → zm_R) => (rfl : zm_step zT_X10_whyNotSeen zW_M k (94, [some (.ref 0), some (.int l1), some (.int l2), some (.int l3)], [], (I, J)) = if ((l3 + 2) : Int32) < 0 ∨ 240 ≤ Int32.toNatClampNeg (l3 + 2) then none else k (102, [some (.ref 0), some (.int l1), some (.int l2), some (.int l3)], [.long (J 3 (Int32.toNatClampNeg (l3 + 2)))], (I, J)))) (zm_V zT_X10_whyNotSeen zW_M))
set_option maxRecDepth 20000 in
theorem zc_X10_whyNotSeen_M_102 (I : Nat → Nat → Int32) (J : Nat → Nat → Int64) (l1 : Int32) (l2 : Int32) (l3 : Int32) (s0 : Int64) {I2 : Nat → Nat → Int32} {J2 : Nat → Nat → Int64} {r : Int32} (hF : zF_X10_in zW_M [.long s0, .long (-1), .long (99)] (I, J) = some (some (.int r), (I2, J2))) : zv_X10_whyNotSeen_M_102 I J l1 l2 l3 s0 = zv_X10_whyNotSeen_M_111 I2 J2 l1 l2 l3 r := by
  have e : ∀ k : zm_S → zm_R, zm_step zT_X10_whyNotSeen zW_M k (102, [some (.ref 0), some (.int l1), some (.int l2), some (.int l3)], [.long s0], (I, J)) = zm_app (3, none, true, [], zF_X10_in) zW_M [.long s0, .long (-1), .long (99)] (I, J) (fun v N => k (111, [some (.ref 0), some (.int l1), some (.int l2), some (.int l3)], v.toList ++ [], N)) := fun k => rfl
  have g := zm_app_s (C := (3, none, true, [], zF_X10_in)) (wl := zW_M) (as := [.long s0, .long (-1), .long (99)]) (M := (I, J)) (k := fun v N => zm_V zT_X10_whyNotSeen zW_M (111, [some (.ref 0), some (.int l1), some (.int l2), some (.int l3)], v.toList ++ [], N)) rfl rfl hF
  exact (zm_V_eq _ _ _).trans ((e _).trans g)
set_option maxRecDepth 20000 in
theorem zq_X10_whyNotSeen_M_111 (I : Nat → Nat → Int32) (J : Nat → Nat → Int64) (l1 : Int32) (l2 : Int32) (l3 : Int32) (s0 : Int32) : zv_X10_whyNotSeen_M_111 I J l1 l2 l3 s0 = if s0 = 0 then zv_X10_whyNotSeen_M_114 I J l1 l2 l3 else zv_X10_whyNotSeen_M_117 I J l1 l2 l3 := (zm_V_eq _ _ _).trans ((fun (k : zm_S → zm_R) => (rfl : zm_step zT_X10_whyNotSeen zW_M k (111, [some (.ref 0), some (.int l1), some (.int l2), some (.int l3)], [.int s0], (I, J)) = if s0 = 0 then k (114, [some (.ref 0), some (.int l1), some (.int l2), some (.int l3)], [], (I, J)) else k (117, [some (.ref 0), some (.int l1), some (.int l2), some (.int l3)], [], (I, J)))) (zm_V zT_X10_whyNotSeen zW_M))
set_option maxRecDepth 20000 in
theorem zq_X10_whyNotSeen_M_114 (I : Nat → Nat → Int32) (J : Nat → Nat → Int64) (l1 : Int32) (l2 : Int32) (l3 : Int32) : zv_X10_whyNotSeen_M_114 I J l1 l2 l3 = some (some (.int (-2)), (I, J)) := (zm_V_eq _ _ _).trans ((fun (k : zm_S → zm_R) => (rfl : zm_step zT_X10_whyNotSeen zW_M k (114, [some (.ref 0), some (.int l1), some (.int l2), some (.int l3)], [], (I, J)) = some (some (.int (-2)), (I, J)))) (zm_V zT_X10_whyNotSeen zW_M))
set_option maxRecDepth 20000 in
theorem zq_X10_whyNotSeen_M_117 (I : Nat → Nat → Int32) (J : Nat → Nat → Int64) (l1 : Int32) (l2 : Int32) (l3 : Int32) : zv_X10_whyNotSeen_M_117 I J l1 l2 l3 = zv_X10_whyNotSeen_M_46 I J l1 (l2 + 3) (some (.int l3)) := (zm_V_eq _ _ _).trans ((fun (k : zm_S → zm_R) => (rfl : zm_step zT_X10_whyNotSeen zW_M k (117, [some (.ref 0), some (.int l1), some (.int l2), some (.int l3)], [], (I, J)) = k (46, [some (.ref 0), some (.int l1), some (.int (l2 + 3)), some (.int l3)], [], (I, J)))) (zm_V zT_X10_whyNotSeen zW_M))
set_option maxRecDepth 20000 in
theorem zq_X10_whyNotSeen_M_123 (I : Nat → Nat → Int32) (J : Nat → Nat → Int64) (l1 : Int32) (l2 : Int32) (l3 : Option Value) : zv_X10_whyNotSeen_M_123 I J l1 l2 l3 = some (some (.int 0), (I, J)) := (zm_V_eq _ _ _).trans ((fun (k : zm_S → zm_R) => (rfl : zm_step zT_X10_whyNotSeen zW_M k (123, [some (.ref 0), some (.int l1), some (.int l2), l3], [], (I, J)) = some (some (.int 0), (I, J)))) (zm_V zT_X10_whyNotSeen zW_M))
theorem zf_X10_whyNotSeen_M (I : Nat → Nat → Int32) (J : Nat → Nat → Int64) (l1 : Int32) : zF_X10_whyNotSeen zW_M [.ref 0, .int l1] (I, J) = zv_X10_whyNotSeen_M_0 I J l1 := rfl
noncomputable def zv_X10_isSeen_M_0 (I : Nat → Nat → Int32) (J : Nat → Nat → Int64) (l1 : Int32) : zm_R := zm_V zT_X10_isSeen zW_M (0, [some (.ref 0), some (.int l1), none, none], [], (I, J))
noncomputable def zv_X10_isSeen_M_2 (I : Nat → Nat → Int32) (J : Nat → Nat → Int64) (l1 : Int32) (l2 : Int32) (l3 : Option Value) : zm_R := zm_V zT_X10_isSeen zW_M (2, [some (.ref 0), some (.int l1), some (.int l2), l3], [], (I, J))
noncomputable def zv_X10_isSeen_M_12 (I : Nat → Nat → Int32) (J : Nat → Nat → Int64) (l1 : Int32) (l2 : Int32) (l3 : Option Value) : zm_R := zm_V zT_X10_isSeen zW_M (12, [some (.ref 0), some (.int l1), some (.int l2), l3], [], (I, J))
noncomputable def zv_X10_isSeen_M_57 (I : Nat → Nat → Int32) (J : Nat → Nat → Int64) (l1 : Int32) (l2 : Int32) (l3 : Int32) : zm_R := zm_V zT_X10_isSeen zW_M (57, [some (.ref 0), some (.int l1), some (.int l2), some (.int l3)], [], (I, J))
noncomputable def zv_X10_isSeen_M_59 (I : Nat → Nat → Int32) (J : Nat → Nat → Int64) (l1 : Int32) (l2 : Int32) (l3 : Int32) : zm_R := zm_V zT_X10_isSeen zW_M (59, [some (.ref 0), some (.int l1), some (.int l2), some (.int l3)], [], (I, J))
noncomputable def zv_X10_isSeen_M_65 (I : Nat → Nat → Int32) (J : Nat → Nat → Int64) (l1 : Int32) (l2 : Int32) (l3 : Option Value) : zm_R := zm_V zT_X10_isSeen zW_M (65, [some (.ref 0), some (.int l1), some (.int l2), l3], [], (I, J))
set_option maxRecDepth 20000 in
theorem zq_X10_isSeen_M_0 (I : Nat → Nat → Int32) (J : Nat → Nat → Int64) (l1 : Int32) : zv_X10_isSeen_M_0 I J l1 = zv_X10_isSeen_M_2 I J l1 0 none := (zm_V_eq _ _ _).trans ((fun (k : zm_S → zm_R) => (rfl : zm_step zT_X10_isSeen zW_M k (0, [some (.ref 0), some (.int l1), none, none], [], (I, J)) = k (2, [some (.ref 0), some (.int l1), some (.int 0), none], [], (I, J)))) (zm_V zT_X10_isSeen zW_M))
set_option maxRecDepth 20000 in
theorem zq_X10_isSeen_M_2 (I : Nat → Nat → Int32) (J : Nat → Nat → Int64) (l1 : Int32) (l2 : Int32) (l3 : Option Value) : zv_X10_isSeen_M_2 I J l1 l2 l3 = if (l1 : Int32) < 0 ∨ 4 ≤ Int32.toNatClampNeg l1 then none else if (I 2 (Int32.toNatClampNeg l1)) ≤ l2 then zv_X10_isSeen_M_65 I J l1 l2 l3 else zv_X10_isSeen_M_12 I J l1 l2 l3 := (zm_V_eq _ _ _).trans ((fun (k : zm_S → zm_R) => (rfl : zm_step zT_X10_isSeen zW_M k (2, [some (.ref 0), some (.int l1), some (.int l2), l3], [], (I, J)) = if (l1 : Int32) < 0 ∨ 4 ≤ Int32.toNatClampNeg l1 then none else if (I 2 (Int32.toNatClampNeg l1)) ≤ l2 then k (65, [some (.ref 0), some (.int l1), some (.int l2), l3], [], (I, J)) else k (12, [some (.ref 0), some (.int l1), some (.int l2), l3], [], (I, J)))) (zm_V zT_X10_isSeen zW_M))
set_option maxRecDepth 20000 in
theorem zq_X10_isSeen_M_12 (I : Nat → Nat → Int32) (J : Nat → Nat → Int64) (l1 : Int32) (l2 : Int32) (l3 : Option Value) : zv_X10_isSeen_M_12 I J l1 l2 l3 = if (((60 * l1) + l2) : Int32) < 0 ∨ 240 ≤ Int32.toNatClampNeg ((60 * l1) + l2) then none else if ((((60 * l1) + l2) + 1) : Int32) < 0 ∨ 240 ≤ Int32.toNatClampNeg (((60 * l1) + l2) + 1) then none else if (((61 * (Int64.toInt32 (J 3 (Int32.toNatClampNeg ((60 * l1) + l2))))) + (Int64.toInt32 (J 3 (Int32.toNatClampNeg (((60 * l1) + l2) + 1))))) : Int32) < 0 ∨ 305 ≤ Int32.toNatClampNeg ((61 * (Int64.toInt32 (J 3 (Int32.toNatClampNeg ((60 * l1) + l2))))) + (Int64.toInt32 (J 3 (Int32.toNatClampNeg (((60 * l1) + l2) + 1))))) then none else if ((((60 * l1) + l2) + 2) : Int32) < 0 ∨ 240 ≤ Int32.toNatClampNeg (((60 * l1) + l2) + 2) then none else if (lg_cmp (Int32.toInt64 (I 16 (Int32.toNatClampNeg ((61 * (Int64.toInt32 (J 3 (Int32.toNatClampNeg ((60 * l1) + l2))))) + (Int64.toInt32 (J 3 (Int32.toNatClampNeg (((60 * l1) + l2) + 1)))))))) (J 3 (Int32.toNatClampNeg (((60 * l1) + l2) + 2)))) = 0 then zv_X10_isSeen_M_59 I J l1 l2 ((60 * l1) + l2) else zv_X10_isSeen_M_57 I J l1 l2 ((60 * l1) + l2) := (zm_V_eq _ _ _).trans ((fun (k : zm_S → zm_R) => (rfl : zm_step zT_X10_isSeen zW_M k (12, [some (.ref 0), some (.int l1), some (.int l2), l3], [], (I, J)) = if (((60 * l1) + l2) : Int32) < 0 ∨ 240 ≤ Int32.toNatClampNeg ((60 * l1) + l2) then none else if ((((60 * l1) + l2) + 1) : Int32) < 0 ∨ 240 ≤ Int32.toNatClampNeg (((60 * l1) + l2) + 1) then none else if (((61 * (Int64.toInt32 (J 3 (Int32.toNatClampNeg ((60 * l1) + l2))))) + (Int64.toInt32 (J 3 (Int32.toNatClampNeg (((60 * l1) + l2) + 1))))) : Int32) < 0 ∨ 305 ≤ Int32.toNatClampNeg ((61 * (Int64.toInt32 (J 3 (Int32.toNatClampNeg ((60 * l1) + l2))))) + (Int64.toInt32 (J 3 (Int32.toNatClampNeg (((60 * l1) + l2) + 1))))) then none else if ((((60 * l1) + l2) + 2) : Int32) < 0 ∨ 240 ≤ Int32.toNatClampNeg (((60 * l1) + l2) + 2) then none else if (lg_cmp (Int32.toInt64 (I 16 (Int32.toNatClampNeg ((61 * (Int64.toInt32 (J 3 (Int32.toNatClampNeg ((60 * l1) + l2))))) + (Int64.toInt32 (J 3 (Int32.toNatClampNeg (((60 * l1) + l2) + 1)))))))) (J 3 (Int32.toNatClampNeg (((60 * l1) + l2) + 2)))) = 0 then k (59, [some (.ref 0), some (.int l1), some (.int l2), some (.int ((60 * l1) + l2))], [], (I, J)) else k (57, [some (.ref 0), some (.int l1), some (.int l2), some (.int ((60 * l1) + l2))], [], (I, J)))) (zm_V zT_X10_isSeen zW_M))
set_option maxRecDepth 20000 in
theorem zq_X10_isSeen_M_57 (I : Nat → Nat → Int32) (J : Nat → Nat → Int64) (l1 : Int32) (l2 : Int32) (l3 : Int32) : zv_X10_isSeen_M_57 I J l1 l2 l3 = some (some (.int 0), (I, J)) := (zm_V_eq _ _ _).trans ((fun (k : zm_S → zm_R) => (rfl : zm_step zT_X10_isSeen zW_M k (57, [some (.ref 0), some (.int l1), some (.int l2), some (.int l3)], [], (I, J)) = some (some (.int 0), (I, J)))) (zm_V zT_X10_isSeen zW_M))
set_option maxRecDepth 20000 in
theorem zq_X10_isSeen_M_59 (I : Nat → Nat → Int32) (J : Nat → Nat → Int64) (l1 : Int32) (l2 : Int32) (l3 : Int32) : zv_X10_isSeen_M_59 I J l1 l2 l3 = zv_X10_isSeen_M_2 I J l1 (l2 + 3) (some (.int l3)) := (zm_V_eq _ _ _).trans ((fun (k : zm_S → zm_R) => (rfl : zm_step zT_X10_isSeen zW_M k (59, [some (.ref 0), some (.int l1), some (.int l2), some (.int l3)], [], (I, J)) = k (2, [some (.ref 0), some (.int l1), some (.int (l2 + 3)), some (.int l3)], [], (I, J)))) (zm_V zT_X10_isSeen zW_M))
set_option maxRecDepth 20000 in
theorem zq_X10_isSeen_M_65 (I : Nat → Nat → Int32) (J : Nat → Nat → Int64) (l1 : Int32) (l2 : Int32) (l3 : Option Value) : zv_X10_isSeen_M_65 I J l1 l2 l3 = some (some (.int 1), (I, J)) := (zm_V_eq _ _ _).trans ((fun (k : zm_S → zm_R) => (rfl : zm_step zT_X10_isSeen zW_M k (65, [some (.ref 0), some (.int l1), some (.int l2), l3], [], (I, J)) = some (some (.int 1), (I, J)))) (zm_V zT_X10_isSeen zW_M))
theorem zf_X10_isSeen_M (I : Nat → Nat → Int32) (J : Nat → Nat → Int64) (l1 : Int32) : zF_X10_isSeen zW_M [.ref 0, .int l1] (I, J) = zv_X10_isSeen_M_0 I J l1 := rfl
noncomputable def zv_X10_whyNotMarks_M_0 (I : Nat → Nat → Int32) (J : Nat → Nat → Int64) (l1 : Int32) : zm_R := zm_V zT_X10_whyNotMarks zW_M (0, [some (.ref 0), some (.int l1), none], [], (I, J))
noncomputable def zv_X10_whyNotMarks_M_4 (I : Nat → Nat → Int32) (J : Nat → Nat → Int64) (l1 : Int32) (s0 : Int32) : zm_R := zm_V zT_X10_whyNotMarks zW_M (4, [some (.ref 0), some (.int l1), none], [.int s0], (I, J))
noncomputable def zv_X10_whyNotMarks_M_7 (I : Nat → Nat → Int32) (J : Nat → Nat → Int64) (l1 : Int32) : zm_R := zm_V zT_X10_whyNotMarks zW_M (7, [some (.ref 0), some (.int l1), none], [], (I, J))
noncomputable def zv_X10_whyNotMarks_M_11 (I : Nat → Nat → Int32) (J : Nat → Nat → Int64) (l1 : Int32) (s0 : Int32) : zm_R := zm_V zT_X10_whyNotMarks zW_M (11, [some (.ref 0), some (.int l1), none], [.int s0], (I, J))
noncomputable def zv_X10_whyNotMarks_M_14 (I : Nat → Nat → Int32) (J : Nat → Nat → Int64) (l1 : Int32) : zm_R := zm_V zT_X10_whyNotMarks zW_M (14, [some (.ref 0), some (.int l1), none], [], (I, J))
noncomputable def zv_X10_whyNotMarks_M_17 (I : Nat → Nat → Int32) (J : Nat → Nat → Int64) (l1 : Int32) : zm_R := zm_V zT_X10_whyNotMarks zW_M (17, [some (.ref 0), some (.int l1), none], [], (I, J))
noncomputable def zv_X10_whyNotMarks_M_27 (I : Nat → Nat → Int32) (J : Nat → Nat → Int64) (l1 : Int32) : zm_R := zm_V zT_X10_whyNotMarks zW_M (27, [some (.ref 0), some (.int l1), none], [], (I, J))
noncomputable def zv_X10_whyNotMarks_M_30 (I : Nat → Nat → Int32) (J : Nat → Nat → Int64) (l1 : Int32) : zm_R := zm_V zT_X10_whyNotMarks zW_M (30, [some (.ref 0), some (.int l1), none], [], (I, J))
noncomputable def zv_X10_whyNotMarks_M_41 (I : Nat → Nat → Int32) (J : Nat → Nat → Int64) (l1 : Int32) : zm_R := zm_V zT_X10_whyNotMarks zW_M (41, [some (.ref 0), some (.int l1), none], [], (I, J))
noncomputable def zv_X10_whyNotMarks_M_44 (I : Nat → Nat → Int32) (J : Nat → Nat → Int64) (l1 : Int32) : zm_R := zm_V zT_X10_whyNotMarks zW_M (44, [some (.ref 0), some (.int l1), none], [], (I, J))
noncomputable def zv_X10_whyNotMarks_M_46 (I : Nat → Nat → Int32) (J : Nat → Nat → Int64) (l1 : Int32) (l2 : Int32) : zm_R := zm_V zT_X10_whyNotMarks zW_M (46, [some (.ref 0), some (.int l1), some (.int l2)], [], (I, J))
noncomputable def zv_X10_whyNotMarks_M_56 (I : Nat → Nat → Int32) (J : Nat → Nat → Int64) (l1 : Int32) (l2 : Int32) : zm_R := zm_V zT_X10_whyNotMarks zW_M (56, [some (.ref 0), some (.int l1), some (.int l2)], [], (I, J))
noncomputable def zv_X10_whyNotMarks_M_67 (I : Nat → Nat → Int32) (J : Nat → Nat → Int64) (l1 : Int32) (l2 : Int32) (s0 : Int64) : zm_R := zm_V zT_X10_whyNotMarks zW_M (67, [some (.ref 0), some (.int l1), some (.int l2)], [.long s0], (I, J))
noncomputable def zv_X10_whyNotMarks_M_74 (I : Nat → Nat → Int32) (J : Nat → Nat → Int64) (l1 : Int32) (l2 : Int32) (s0 : Int32) : zm_R := zm_V zT_X10_whyNotMarks zW_M (74, [some (.ref 0), some (.int l1), some (.int l2)], [.int s0], (I, J))
noncomputable def zv_X10_whyNotMarks_M_77 (I : Nat → Nat → Int32) (J : Nat → Nat → Int64) (l1 : Int32) (l2 : Int32) : zm_R := zm_V zT_X10_whyNotMarks zW_M (77, [some (.ref 0), some (.int l1), some (.int l2)], [], (I, J))
noncomputable def zv_X10_whyNotMarks_M_80 (I : Nat → Nat → Int32) (J : Nat → Nat → Int64) (l1 : Int32) (l2 : Int32) : zm_R := zm_V zT_X10_whyNotMarks zW_M (80, [some (.ref 0), some (.int l1), some (.int l2)], [], (I, J))
noncomputable def zv_X10_whyNotMarks_M_86 (I : Nat → Nat → Int32) (J : Nat → Nat → Int64) (l1 : Int32) (l2 : Int32) : zm_R := zm_V zT_X10_whyNotMarks zW_M (86, [some (.ref 0), some (.int l1), some (.int l2)], [], (I, J))
noncomputable def zv_X10_whyNotMarks_M_91 (I : Nat → Nat → Int32) (J : Nat → Nat → Int64) (l1 : Int32) (l2 : Int32) : zm_R := zm_V zT_X10_whyNotMarks zW_M (91, [some (.ref 0), some (.int l1), some (.int l2)], [], (I, J))
set_option maxRecDepth 20000 in
theorem zc_X10_whyNotMarks_M_0 (I : Nat → Nat → Int32) (J : Nat → Nat → Int64) (l1 : Int32) {I2 : Nat → Nat → Int32} {J2 : Nat → Nat → Int64} {r : Int32} (hF : zF_X10_isSlot zW_M [.int l1] (I, J) = some (some (.int r), (I2, J2))) : zv_X10_whyNotMarks_M_0 I J l1 = zv_X10_whyNotMarks_M_4 I2 J2 l1 r := by
  have e : ∀ k : zm_S → zm_R, zm_step zT_X10_whyNotMarks zW_M k (0, [some (.ref 0), some (.int l1), none], [], (I, J)) = zm_app (1, none, true, [], zF_X10_isSlot) zW_M [.int l1] (I, J) (fun v N => k (4, [some (.ref 0), some (.int l1), none], v.toList ++ [], N)) := fun k => rfl
  have g := zm_app_s (C := (1, none, true, [], zF_X10_isSlot)) (wl := zW_M) (as := [.int l1]) (M := (I, J)) (k := fun v N => zm_V zT_X10_whyNotMarks zW_M (4, [some (.ref 0), some (.int l1), none], v.toList ++ [], N)) rfl rfl hF
  exact (zm_V_eq _ _ _).trans ((e _).trans g)
set_option maxRecDepth 20000 in
theorem zq_X10_whyNotMarks_M_4 (I : Nat → Nat → Int32) (J : Nat → Nat → Int64) (l1 : Int32) (s0 : Int32) : zv_X10_whyNotMarks_M_4 I J l1 s0 = if s0 = 0 then zv_X10_whyNotMarks_M_14 I J l1 else zv_X10_whyNotMarks_M_7 I J l1 := (zm_V_eq _ _ _).trans ((fun (k : zm_S → zm_R) => (rfl : zm_step zT_X10_whyNotMarks zW_M k (4, [some (.ref 0), some (.int l1), none], [.int s0], (I, J)) = if s0 = 0 then k (14, [some (.ref 0), some (.int l1), none], [], (I, J)) else k (7, [some (.ref 0), some (.int l1), none], [], (I, J)))) (zm_V zT_X10_whyNotMarks zW_M))
set_option maxRecDepth 20000 in
theorem zc_X10_whyNotMarks_M_7 (I : Nat → Nat → Int32) (J : Nat → Nat → Int64) (l1 : Int32) {I2 : Nat → Nat → Int32} {J2 : Nat → Nat → Int64} {r : Int32} (hF : zF_X10_isBench zW_M [.ref 0] (I, J) = some (some (.int r), (I2, J2))) : zv_X10_whyNotMarks_M_7 I J l1 = zv_X10_whyNotMarks_M_11 I2 J2 l1 r := by
  have e : ∀ k : zm_S → zm_R, zm_step zT_X10_whyNotMarks zW_M k (7, [some (.ref 0), some (.int l1), none], [], (I, J)) = zm_app (1, some 10, true, [], zF_X10_isBench) zW_M [.ref 0] (I, J) (fun v N => k (11, [some (.ref 0), some (.int l1), none], v.toList ++ [], N)) := fun k => rfl
  have g := zm_app_s (C := (1, some 10, true, [], zF_X10_isBench)) (wl := zW_M) (as := [.ref 0]) (M := (I, J)) (k := fun v N => zm_V zT_X10_whyNotMarks zW_M (11, [some (.ref 0), some (.int l1), none], v.toList ++ [], N)) rfl rfl hF
  exact (zm_V_eq _ _ _).trans ((e _).trans g)
set_option maxRecDepth 20000 in
theorem zq_X10_whyNotMarks_M_11 (I : Nat → Nat → Int32) (J : Nat → Nat → Int64) (l1 : Int32) (s0 : Int32) : zv_X10_whyNotMarks_M_11 I J l1 s0 = if s0 = 0 then zv_X10_whyNotMarks_M_14 I J l1 else zv_X10_whyNotMarks_M_17 I J l1 := (zm_V_eq _ _ _).trans ((fun (k : zm_S → zm_R) => (rfl : zm_step zT_X10_whyNotMarks zW_M k (11, [some (.ref 0), some (.int l1), none], [.int s0], (I, J)) = if s0 = 0 then k (14, [some (.ref 0), some (.int l1), none], [], (I, J)) else k (17, [some (.ref 0), some (.int l1), none], [], (I, J)))) (zm_V zT_X10_whyNotMarks zW_M))
set_option maxRecDepth 20000 in
theorem zq_X10_whyNotMarks_M_14 (I : Nat → Nat → Int32) (J : Nat → Nat → Int64) (l1 : Int32) : zv_X10_whyNotMarks_M_14 I J l1 = some (some (.int (-2)), (I, J)) := (zm_V_eq _ _ _).trans ((fun (k : zm_S → zm_R) => (rfl : zm_step zT_X10_whyNotMarks zW_M k (14, [some (.ref 0), some (.int l1), none], [], (I, J)) = some (some (.int (-2)), (I, J)))) (zm_V zT_X10_whyNotMarks zW_M))
set_option maxRecDepth 20000 in
theorem zq_X10_whyNotMarks_M_17 (I : Nat → Nat → Int32) (J : Nat → Nat → Int64) (l1 : Int32) : zv_X10_whyNotMarks_M_17 I J l1 = if (l1 : Int32) < 0 ∨ 4 ≤ Int32.toNatClampNeg l1 then none else if (I 1 (Int32.toNatClampNeg l1)) = (-1) then zv_X10_whyNotMarks_M_27 I J l1 else zv_X10_whyNotMarks_M_30 I J l1 := (zm_V_eq _ _ _).trans ((fun (k : zm_S → zm_R) => (rfl : zm_step zT_X10_whyNotMarks zW_M k (17, [some (.ref 0), some (.int l1), none], [], (I, J)) = if (l1 : Int32) < 0 ∨ 4 ≤ Int32.toNatClampNeg l1 then none else if (I 1 (Int32.toNatClampNeg l1)) = (-1) then k (27, [some (.ref 0), some (.int l1), none], [], (I, J)) else k (30, [some (.ref 0), some (.int l1), none], [], (I, J)))) (zm_V zT_X10_whyNotMarks zW_M))
set_option maxRecDepth 20000 in
theorem zq_X10_whyNotMarks_M_27 (I : Nat → Nat → Int32) (J : Nat → Nat → Int64) (l1 : Int32) : zv_X10_whyNotMarks_M_27 I J l1 = some (some (.int (-6)), (I, J)) := (zm_V_eq _ _ _).trans ((fun (k : zm_S → zm_R) => (rfl : zm_step zT_X10_whyNotMarks zW_M k (27, [some (.ref 0), some (.int l1), none], [], (I, J)) = some (some (.int (-6)), (I, J)))) (zm_V zT_X10_whyNotMarks zW_M))
set_option maxRecDepth 20000 in
theorem zq_X10_whyNotMarks_M_30 (I : Nat → Nat → Int32) (J : Nat → Nat → Int64) (l1 : Int32) : zv_X10_whyNotMarks_M_30 I J l1 = if (l1 : Int32) < 0 ∨ 4 ≤ Int32.toNatClampNeg l1 then none else if ((I 2 (Int32.toNatClampNeg l1)) - (I 2 (Int32.toNatClampNeg l1)) / 2 * 2) = 0 then zv_X10_whyNotMarks_M_44 I J l1 else zv_X10_whyNotMarks_M_41 I J l1 := (zm_V_eq _ _ _).trans ((fun (k : zm_S → zm_R) => (rfl : zm_step zT_X10_whyNotMarks zW_M k (30, [some (.ref 0), some (.int l1), none], [], (I, J)) = if (l1 : Int32) < 0 ∨ 4 ≤ Int32.toNatClampNeg l1 then none else if ((I 2 (Int32.toNatClampNeg l1)) - (I 2 (Int32.toNatClampNeg l1)) / 2 * 2) = 0 then k (44, [some (.ref 0), some (.int l1), none], [], (I, J)) else k (41, [some (.ref 0), some (.int l1), none], [], (I, J)))) (zm_V zT_X10_whyNotMarks zW_M))
set_option maxRecDepth 20000 in
theorem zq_X10_whyNotMarks_M_41 (I : Nat → Nat → Int32) (J : Nat → Nat → Int64) (l1 : Int32) : zv_X10_whyNotMarks_M_41 I J l1 = some (some (.int (-2)), (I, J)) := (zm_V_eq _ _ _).trans ((fun (k : zm_S → zm_R) => (rfl : zm_step zT_X10_whyNotMarks zW_M k (41, [some (.ref 0), some (.int l1), none], [], (I, J)) = some (some (.int (-2)), (I, J)))) (zm_V zT_X10_whyNotMarks zW_M))
set_option maxRecDepth 20000 in
theorem zq_X10_whyNotMarks_M_44 (I : Nat → Nat → Int32) (J : Nat → Nat → Int64) (l1 : Int32) : zv_X10_whyNotMarks_M_44 I J l1 = zv_X10_whyNotMarks_M_46 I J l1 0 := (zm_V_eq _ _ _).trans ((fun (k : zm_S → zm_R) => (rfl : zm_step zT_X10_whyNotMarks zW_M k (44, [some (.ref 0), some (.int l1), none], [], (I, J)) = k (46, [some (.ref 0), some (.int l1), some (.int 0)], [], (I, J)))) (zm_V zT_X10_whyNotMarks zW_M))
set_option maxRecDepth 20000 in
theorem zq_X10_whyNotMarks_M_46 (I : Nat → Nat → Int32) (J : Nat → Nat → Int64) (l1 : Int32) (l2 : Int32) : zv_X10_whyNotMarks_M_46 I J l1 l2 = if (l1 : Int32) < 0 ∨ 4 ≤ Int32.toNatClampNeg l1 then none else if (I 2 (Int32.toNatClampNeg l1)) ≤ l2 then zv_X10_whyNotMarks_M_86 I J l1 l2 else zv_X10_whyNotMarks_M_56 I J l1 l2 := (zm_V_eq _ _ _).trans ((fun (k : zm_S → zm_R) => (rfl : zm_step zT_X10_whyNotMarks zW_M k (46, [some (.ref 0), some (.int l1), some (.int l2)], [], (I, J)) = if (l1 : Int32) < 0 ∨ 4 ≤ Int32.toNatClampNeg l1 then none else if (I 2 (Int32.toNatClampNeg l1)) ≤ l2 then k (86, [some (.ref 0), some (.int l1), some (.int l2)], [], (I, J)) else k (56, [some (.ref 0), some (.int l1), some (.int l2)], [], (I, J)))) (zm_V zT_X10_whyNotMarks zW_M))
set_option maxRecDepth 20000 in
theorem zq_X10_whyNotMarks_M_56 (I : Nat → Nat → Int32) (J : Nat → Nat → Int64) (l1 : Int32) (l2 : Int32) : zv_X10_whyNotMarks_M_56 I J l1 l2 = if (((60 * l1) + l2) : Int32) < 0 ∨ 240 ≤ Int32.toNatClampNeg ((60 * l1) + l2) then none else zv_X10_whyNotMarks_M_67 I J l1 l2 (J 3 (Int32.toNatClampNeg ((60 * l1) + l2))) := (zm_V_eq _ _ _).trans ((fun (k : zm_S → zm_R) => (rfl : zm_step zT_X10_whyNotMarks zW_M k (56, [some (.ref 0), some (.int l1), some (.int l2)], [], (I, J)) = if (((60 * l1) + l2) : Int32) < 0 ∨ 240 ≤ Int32.toNatClampNeg ((60 * l1) + l2) then none else k (67, [some (.ref 0), some (.int l1), some (.int l2)], [.long (J 3 (Int32.toNatClampNeg ((60 * l1) + l2)))], (I, J)))) (zm_V zT_X10_whyNotMarks zW_M))
set_option maxRecDepth 20000 in
theorem zc_X10_whyNotMarks_M_67 (I : Nat → Nat → Int32) (J : Nat → Nat → Int64) (l1 : Int32) (l2 : Int32) (s0 : Int64) {I2 : Nat → Nat → Int32} {J2 : Nat → Nat → Int64} {r : Int32} (hF : zF_X10_in zW_M [.long s0, .long 0, .long (9)] (I, J) = some (some (.int r), (I2, J2))) : zv_X10_whyNotMarks_M_67 I J l1 l2 s0 = zv_X10_whyNotMarks_M_74 I2 J2 l1 l2 r := by
  have e : ∀ k : zm_S → zm_R, zm_step zT_X10_whyNotMarks zW_M k (67, [some (.ref 0), some (.int l1), some (.int l2)], [.long s0], (I, J)) = zm_app (3, none, true, [], zF_X10_in) zW_M [.long s0, .long 0, .long (9)] (I, J) (fun v N => k (74, [some (.ref 0), some (.int l1), some (.int l2)], v.toList ++ [], N)) := fun k => rfl
  have g := zm_app_s (C := (3, none, true, [], zF_X10_in)) (wl := zW_M) (as := [.long s0, .long 0, .long (9)]) (M := (I, J)) (k := fun v N => zm_V zT_X10_whyNotMarks zW_M (74, [some (.ref 0), some (.int l1), some (.int l2)], v.toList ++ [], N)) rfl rfl hF
  exact (zm_V_eq _ _ _).trans ((e _).trans g)
set_option maxRecDepth 20000 in
theorem zq_X10_whyNotMarks_M_74 (I : Nat → Nat → Int32) (J : Nat → Nat → Int64) (l1 : Int32) (l2 : Int32) (s0 : Int32) : zv_X10_whyNotMarks_M_74 I J l1 l2 s0 = if s0 = 0 then zv_X10_whyNotMarks_M_77 I J l1 l2 else zv_X10_whyNotMarks_M_80 I J l1 l2 := (zm_V_eq _ _ _).trans ((fun (k : zm_S → zm_R) => (rfl : zm_step zT_X10_whyNotMarks zW_M k (74, [some (.ref 0), some (.int l1), some (.int l2)], [.int s0], (I, J)) = if s0 = 0 then k (77, [some (.ref 0), some (.int l1), some (.int l2)], [], (I, J)) else k (80, [some (.ref 0), some (.int l1), some (.int l2)], [], (I, J)))) (zm_V zT_X10_whyNotMarks zW_M))
set_option maxRecDepth 20000 in
theorem zq_X10_whyNotMarks_M_77 (I : Nat → Nat → Int32) (J : Nat → Nat → Int64) (l1 : Int32) (l2 : Int32) : zv_X10_whyNotMarks_M_77 I J l1 l2 = some (some (.int (-2)), (I, J)) := (zm_V_eq _ _ _).trans ((fun (k : zm_S → zm_R) => (rfl : zm_step zT_X10_whyNotMarks zW_M k (77, [some (.ref 0), some (.int l1), some (.int l2)], [], (I, J)) = some (some (.int (-2)), (I, J)))) (zm_V zT_X10_whyNotMarks zW_M))
set_option maxRecDepth 20000 in
theorem zq_X10_whyNotMarks_M_80 (I : Nat → Nat → Int32) (J : Nat → Nat → Int64) (l1 : Int32) (l2 : Int32) : zv_X10_whyNotMarks_M_80 I J l1 l2 = zv_X10_whyNotMarks_M_46 I J l1 (l2 + 1) := (zm_V_eq _ _ _).trans ((fun (k : zm_S → zm_R) => (rfl : zm_step zT_X10_whyNotMarks zW_M k (80, [some (.ref 0), some (.int l1), some (.int l2)], [], (I, J)) = k (46, [some (.ref 0), some (.int l1), some (.int (l2 + 1))], [], (I, J)))) (zm_V zT_X10_whyNotMarks zW_M))
set_option maxRecDepth 20000 in
theorem zc_X10_whyNotMarks_M_86 (I : Nat → Nat → Int32) (J : Nat → Nat → Int64) (l1 : Int32) (l2 : Int32) {I2 : Nat → Nat → Int32} {J2 : Nat → Nat → Int64} (hF : zF_X10_laysMarks zW_M [.ref 0, .int l1] (I, J) = some (none, (I2, J2))) : zv_X10_whyNotMarks_M_86 I J l1 l2 = zv_X10_whyNotMarks_M_91 I2 J2 l1 l2 := by
  have e : ∀ k : zm_S → zm_R, zm_step zT_X10_whyNotMarks zW_M k (86, [some (.ref 0), some (.int l1), some (.int l2)], [], (I, J)) = zm_app (2, some 10, true, [], zF_X10_laysMarks) zW_M [.ref 0, .int l1] (I, J) (fun v N => k (91, [some (.ref 0), some (.int l1), some (.int l2)], v.toList ++ [], N)) := fun k => rfl
  have g := zm_app_s (C := (2, some 10, true, [], zF_X10_laysMarks)) (wl := zW_M) (as := [.ref 0, .int l1]) (M := (I, J)) (k := fun v N => zm_V zT_X10_whyNotMarks zW_M (91, [some (.ref 0), some (.int l1), some (.int l2)], v.toList ++ [], N)) rfl rfl hF
  exact (zm_V_eq _ _ _).trans ((e _).trans g)
set_option maxRecDepth 20000 in
theorem zq_X10_whyNotMarks_M_91 (I : Nat → Nat → Int32) (J : Nat → Nat → Int64) (l1 : Int32) (l2 : Int32) : zv_X10_whyNotMarks_M_91 I J l1 l2 = some (some (.int 0), (I, J)) := (zm_V_eq _ _ _).trans ((fun (k : zm_S → zm_R) => (rfl : zm_step zT_X10_whyNotMarks zW_M k (91, [some (.ref 0), some (.int l1), some (.int l2)], [], (I, J)) = some (some (.int 0), (I, J)))) (zm_V zT_X10_whyNotMarks zW_M))
theorem zf_X10_whyNotMarks_M (I : Nat → Nat → Int32) (J : Nat → Nat → Int64) (l1 : Int32) : zF_X10_whyNotMarks zW_M [.ref 0, .int l1] (I, J) = zv_X10_whyNotMarks_M_0 I J l1 := rfl
noncomputable def zv_X10_laysMarks_M_0 (I : Nat → Nat → Int32) (J : Nat → Nat → Int64) (l1 : Int32) : zm_R := zm_V zT_X10_laysMarks zW_M (0, [some (.ref 0), some (.int l1), none, none], [], (I, J))
noncomputable def zv_X10_laysMarks_M_2 (I : Nat → Nat → Int32) (J : Nat → Nat → Int64) (l1 : Int32) (l2 : Int32) : zm_R := zm_V zT_X10_laysMarks zW_M (2, [some (.ref 0), some (.int l1), some (.int l2), none], [], (I, J))
noncomputable def zv_X10_laysMarks_M_8 (I : Nat → Nat → Int32) (J : Nat → Nat → Int64) (l1 : Int32) (l2 : Int32) : zm_R := zm_V zT_X10_laysMarks zW_M (8, [some (.ref 0), some (.int l1), some (.int l2), none], [], (I, J))
noncomputable def zv_X10_laysMarks_M_21 (I : Nat → Nat → Int32) (J : Nat → Nat → Int64) (l1 : Int32) (l2 : Int32) : zm_R := zm_V zT_X10_laysMarks zW_M (21, [some (.ref 0), some (.int l1), some (.int l2), none], [], (I, J))
noncomputable def zv_X10_laysMarks_M_23 (I : Nat → Nat → Int32) (J : Nat → Nat → Int64) (l1 : Int32) (l2 : Int32) : zm_R := zm_V zT_X10_laysMarks zW_M (23, [some (.ref 0), some (.int l1), some (.int l2), none], [], (I, J))
noncomputable def zv_X10_laysMarks_M_33 (I : Nat → Nat → Int32) (J : Nat → Nat → Int64) (l1 : Int32) (l2 : Int32) : zm_R := zm_V zT_X10_laysMarks zW_M (33, [some (.ref 0), some (.int l1), some (.int l2), none], [], (I, J))
noncomputable def zv_X10_laysMarks_M_75 (I : Nat → Nat → Int32) (J : Nat → Nat → Int64) (l1 : Int32) (l2 : Int32) : zm_R := zm_V zT_X10_laysMarks zW_M (75, [some (.ref 0), some (.int l1), some (.int l2), none], [], (I, J))
noncomputable def zv_X10_laysMarks_M_84 (I : Nat → Nat → Int32) (J : Nat → Nat → Int64) (l1 : Int32) (l2 : Int32) (l3 : Int32) : zm_R := zm_V zT_X10_laysMarks zW_M (84, [some (.ref 0), some (.int l1), some (.int l2), some (.int l3)], [], (I, J))
noncomputable def zv_X10_laysMarks_M_90 (I : Nat → Nat → Int32) (J : Nat → Nat → Int64) (l1 : Int32) (l2 : Int32) (l3 : Int32) : zm_R := zm_V zT_X10_laysMarks zW_M (90, [some (.ref 0), some (.int l1), some (.int l2), some (.int l3)], [], (I, J))
noncomputable def zv_X10_laysMarks_M_95 (I : Nat → Nat → Int32) (J : Nat → Nat → Int64) (l1 : Int32) (l2 : Int32) (l3 : Int32) (s0 : Int32) : zm_R := zm_V zT_X10_laysMarks zW_M (95, [some (.ref 0), some (.int l1), some (.int l2), some (.int l3)], [.int s0], (I, J))
noncomputable def zv_X10_laysMarks_M_98 (I : Nat → Nat → Int32) (J : Nat → Nat → Int64) (l1 : Int32) (l2 : Int32) (l3 : Int32) : zm_R := zm_V zT_X10_laysMarks zW_M (98, [some (.ref 0), some (.int l1), some (.int l2), some (.int l3)], [], (I, J))
noncomputable def zv_X10_laysMarks_M_111 (I : Nat → Nat → Int32) (J : Nat → Nat → Int64) (l1 : Int32) (l2 : Int32) (l3 : Int32) : zm_R := zm_V zT_X10_laysMarks zW_M (111, [some (.ref 0), some (.int l1), some (.int l2), some (.int l3)], [], (I, J))
noncomputable def zv_X10_laysMarks_M_117 (I : Nat → Nat → Int32) (J : Nat → Nat → Int64) (l1 : Int32) (l2 : Int32) (l3 : Int32) : zm_R := zm_V zT_X10_laysMarks zW_M (117, [some (.ref 0), some (.int l1), some (.int l2), some (.int l3)], [], (I, J))
noncomputable def zv_X10_laysMarks_M_148 (I : Nat → Nat → Int32) (J : Nat → Nat → Int64) (l1 : Int32) (l2 : Int32) (l3 : Int32) : zm_R := zm_V zT_X10_laysMarks zW_M (148, [some (.ref 0), some (.int l1), some (.int l2), some (.int l3)], [], (I, J))
set_option maxRecDepth 20000 in
theorem zq_X10_laysMarks_M_0 (I : Nat → Nat → Int32) (J : Nat → Nat → Int64) (l1 : Int32) : zv_X10_laysMarks_M_0 I J l1 = zv_X10_laysMarks_M_2 I J l1 0 := (zm_V_eq _ _ _).trans ((fun (k : zm_S → zm_R) => (rfl : zm_step zT_X10_laysMarks zW_M k (0, [some (.ref 0), some (.int l1), none, none], [], (I, J)) = k (2, [some (.ref 0), some (.int l1), some (.int 0), none], [], (I, J)))) (zm_V zT_X10_laysMarks zW_M))
set_option maxRecDepth 20000 in
theorem zq_X10_laysMarks_M_2 (I : Nat → Nat → Int32) (J : Nat → Nat → Int64) (l1 : Int32) (l2 : Int32) : zv_X10_laysMarks_M_2 I J l1 l2 = if 10 ≤ l2 then zv_X10_laysMarks_M_21 I J l1 l2 else zv_X10_laysMarks_M_8 I J l1 l2 := (zm_V_eq _ _ _).trans ((fun (k : zm_S → zm_R) => (rfl : zm_step zT_X10_laysMarks zW_M k (2, [some (.ref 0), some (.int l1), some (.int l2), none], [], (I, J)) = if 10 ≤ l2 then k (21, [some (.ref 0), some (.int l1), some (.int l2), none], [], (I, J)) else k (8, [some (.ref 0), some (.int l1), some (.int l2), none], [], (I, J)))) (zm_V zT_X10_laysMarks zW_M))
set_option maxRecDepth 20000 in
theorem zq_X10_laysMarks_M_8 (I : Nat → Nat → Int32) (J : Nat → Nat → Int64) (l1 : Int32) (l2 : Int32) : zv_X10_laysMarks_M_8 I J l1 l2 = if (l2 : Int32) < 0 ∨ 10 ≤ Int32.toNatClampNeg l2 then none else zv_X10_laysMarks_M_2 (zm_w I 28 (Int32.toNatClampNeg l2) 0) J l1 (l2 + 1) := (zm_V_eq _ _ _).trans ((fun (k : zm_S → zm_R) => (rfl : zm_step zT_X10_laysMarks zW_M k (8, [some (.ref 0), some (.int l1), some (.int l2), none], [], (I, J)) = if (l2 : Int32) < 0 ∨ 10 ≤ Int32.toNatClampNeg l2 then none else k (2, [some (.ref 0), some (.int l1), some (.int (l2 + 1)), none], [], ((zm_w I 28 (Int32.toNatClampNeg l2) 0), J)))) (zm_V zT_X10_laysMarks zW_M))
set_option maxRecDepth 20000 in
theorem zq_X10_laysMarks_M_21 (I : Nat → Nat → Int32) (J : Nat → Nat → Int64) (l1 : Int32) (l2 : Int32) : zv_X10_laysMarks_M_21 I J l1 l2 = zv_X10_laysMarks_M_23 I J l1 0 := (zm_V_eq _ _ _).trans ((fun (k : zm_S → zm_R) => (rfl : zm_step zT_X10_laysMarks zW_M k (21, [some (.ref 0), some (.int l1), some (.int l2), none], [], (I, J)) = k (23, [some (.ref 0), some (.int l1), some (.int 0), none], [], (I, J)))) (zm_V zT_X10_laysMarks zW_M))
set_option maxRecDepth 20000 in
theorem zq_X10_laysMarks_M_23 (I : Nat → Nat → Int32) (J : Nat → Nat → Int64) (l1 : Int32) (l2 : Int32) : zv_X10_laysMarks_M_23 I J l1 l2 = if (l1 : Int32) < 0 ∨ 4 ≤ Int32.toNatClampNeg l1 then none else if (I 2 (Int32.toNatClampNeg l1)) ≤ l2 then zv_X10_laysMarks_M_75 I J l1 l2 else zv_X10_laysMarks_M_33 I J l1 l2 := (zm_V_eq _ _ _).trans ((fun (k : zm_S → zm_R) => (rfl : zm_step zT_X10_laysMarks zW_M k (23, [some (.ref 0), some (.int l1), some (.int l2), none], [], (I, J)) = if (l1 : Int32) < 0 ∨ 4 ≤ Int32.toNatClampNeg l1 then none else if (I 2 (Int32.toNatClampNeg l1)) ≤ l2 then k (75, [some (.ref 0), some (.int l1), some (.int l2), none], [], (I, J)) else k (33, [some (.ref 0), some (.int l1), some (.int l2), none], [], (I, J)))) (zm_V zT_X10_laysMarks zW_M))
set_option maxRecDepth 20000 in
theorem zq_X10_laysMarks_M_33 (I : Nat → Nat → Int32) (J : Nat → Nat → Int64) (l1 : Int32) (l2 : Int32) : zv_X10_laysMarks_M_33 I J l1 l2 = if (((60 * l1) + l2) : Int32) < 0 ∨ 240 ≤ Int32.toNatClampNeg ((60 * l1) + l2) then none else if ((Int64.toInt32 (J 3 (Int32.toNatClampNeg ((60 * l1) + l2)))) : Int32) < 0 ∨ 10 ≤ Int32.toNatClampNeg (Int64.toInt32 (J 3 (Int32.toNatClampNeg ((60 * l1) + l2)))) then none else if ((((60 * l1) + l2) + 1) : Int32) < 0 ∨ 240 ≤ Int32.toNatClampNeg (((60 * l1) + l2) + 1) then none else if ((Int64.toInt32 (J 3 (Int32.toNatClampNeg ((60 * l1) + l2)))) : Int32) < 0 ∨ 10 ≤ Int32.toNatClampNeg (Int64.toInt32 (J 3 (Int32.toNatClampNeg ((60 * l1) + l2)))) then none else zv_X10_laysMarks_M_23 (zm_w I 28 (Int32.toNatClampNeg (Int64.toInt32 (J 3 (Int32.toNatClampNeg ((60 * l1) + l2))))) ((I 28 (Int32.toNatClampNeg (Int64.toInt32 (J 3 (Int32.toNatClampNeg ((60 * l1) + l2)))))) ||| (1 <<< ((Int64.toInt32 (J 3 (Int32.toNatClampNeg (((60 * l1) + l2) + 1)))) &&& 31)))) J l1 (l2 + 2) := (zm_V_eq _ _ _).trans ((fun (k : zm_S → zm_R) => (rfl : zm_step zT_X10_laysMarks zW_M k (33, [some (.ref 0), some (.int l1), some (.int l2), none], [], (I, J)) = if (((60 * l1) + l2) : Int32) < 0 ∨ 240 ≤ Int32.toNatClampNeg ((60 * l1) + l2) then none else if ((Int64.toInt32 (J 3 (Int32.toNatClampNeg ((60 * l1) + l2)))) : Int32) < 0 ∨ 10 ≤ Int32.toNatClampNeg (Int64.toInt32 (J 3 (Int32.toNatClampNeg ((60 * l1) + l2)))) then none else if ((((60 * l1) + l2) + 1) : Int32) < 0 ∨ 240 ≤ Int32.toNatClampNeg (((60 * l1) + l2) + 1) then none else if ((Int64.toInt32 (J 3 (Int32.toNatClampNeg ((60 * l1) + l2)))) : Int32) < 0 ∨ 10 ≤ Int32.toNatClampNeg (Int64.toInt32 (J 3 (Int32.toNatClampNeg ((60 * l1) + l2)))) then none else k (23, [some (.ref 0), some (.int l1), some (.int (l2 + 2)), none], [], ((zm_w I 28 (Int32.toNatClampNeg (Int64.toInt32 (J 3 (Int32.toNatClampNeg ((60 * l1) + l2))))) ((I 28 (Int32.toNatClampNeg (Int64.toInt32 (J 3 (Int32.toNatClampNeg ((60 * l1) + l2)))))) ||| (1 <<< ((Int64.toInt32 (J 3 (Int32.toNatClampNeg (((60 * l1) + l2) + 1)))) &&& 31)))), J)))) (zm_V zT_X10_laysMarks zW_M))
set_option maxRecDepth 20000 in
theorem zq_X10_laysMarks_M_75 (I : Nat → Nat → Int32) (J : Nat → Nat → Int64) (l1 : Int32) (l2 : Int32) : zv_X10_laysMarks_M_75 I J l1 l2 = zv_X10_laysMarks_M_84 (zm_w I 0 50 0) J l1 0 0 := (zm_V_eq _ _ _).trans ((fun (k : zm_S → zm_R) => (rfl : zm_step zT_X10_laysMarks zW_M k (75, [some (.ref 0), some (.int l1), some (.int l2), none], [], (I, J)) = k (84, [some (.ref 0), some (.int l1), some (.int 0), some (.int 0)], [], ((zm_w I 0 50 0), J)))) (zm_V zT_X10_laysMarks zW_M))
set_option maxRecDepth 20000 in
theorem zq_X10_laysMarks_M_84 (I : Nat → Nat → Int32) (J : Nat → Nat → Int64) (l1 : Int32) (l2 : Int32) (l3 : Int32) : zv_X10_laysMarks_M_84 I J l1 l2 l3 = if 10 ≤ l3 then zv_X10_laysMarks_M_148 I J l1 l2 l3 else zv_X10_laysMarks_M_90 I J l1 l2 l3 := (zm_V_eq _ _ _).trans ((fun (k : zm_S → zm_R) => (rfl : zm_step zT_X10_laysMarks zW_M k (84, [some (.ref 0), some (.int l1), some (.int l2), some (.int l3)], [], (I, J)) = if 10 ≤ l3 then k (148, [some (.ref 0), some (.int l1), some (.int l2), some (.int l3)], [], (I, J)) else k (90, [some (.ref 0), some (.int l1), some (.int l2), some (.int l3)], [], (I, J)))) (zm_V zT_X10_laysMarks zW_M))
set_option maxRecDepth 20000 in
theorem zc_X10_laysMarks_M_90 (I : Nat → Nat → Int32) (J : Nat → Nat → Int64) (l1 : Int32) (l2 : Int32) (l3 : Int32) {I2 : Nat → Nat → Int32} {J2 : Nat → Nat → Int64} {r : Int32} (hF : zF_X10_isBit zW_M [.int l2, .int l3] (I, J) = some (some (.int r), (I2, J2))) : zv_X10_laysMarks_M_90 I J l1 l2 l3 = zv_X10_laysMarks_M_95 I2 J2 l1 l2 l3 r := by
  have e : ∀ k : zm_S → zm_R, zm_step zT_X10_laysMarks zW_M k (90, [some (.ref 0), some (.int l1), some (.int l2), some (.int l3)], [], (I, J)) = zm_app (2, none, true, [], zF_X10_isBit) zW_M [.int l2, .int l3] (I, J) (fun v N => k (95, [some (.ref 0), some (.int l1), some (.int l2), some (.int l3)], v.toList ++ [], N)) := fun k => rfl
  have g := zm_app_s (C := (2, none, true, [], zF_X10_isBit)) (wl := zW_M) (as := [.int l2, .int l3]) (M := (I, J)) (k := fun v N => zm_V zT_X10_laysMarks zW_M (95, [some (.ref 0), some (.int l1), some (.int l2), some (.int l3)], v.toList ++ [], N)) rfl rfl hF
  exact (zm_V_eq _ _ _).trans ((e _).trans g)
set_option maxRecDepth 20000 in
theorem zq_X10_laysMarks_M_95 (I : Nat → Nat → Int32) (J : Nat → Nat → Int64) (l1 : Int32) (l2 : Int32) (l3 : Int32) (s0 : Int32) : zv_X10_laysMarks_M_95 I J l1 l2 l3 s0 = if s0 = 0 then zv_X10_laysMarks_M_98 I J l1 l2 l3 else zv_X10_laysMarks_M_111 I J l1 l2 l3 := (zm_V_eq _ _ _).trans ((fun (k : zm_S → zm_R) => (rfl : zm_step zT_X10_laysMarks zW_M k (95, [some (.ref 0), some (.int l1), some (.int l2), some (.int l3)], [.int s0], (I, J)) = if s0 = 0 then k (98, [some (.ref 0), some (.int l1), some (.int l2), some (.int l3)], [], (I, J)) else k (111, [some (.ref 0), some (.int l1), some (.int l2), some (.int l3)], [], (I, J)))) (zm_V zT_X10_laysMarks zW_M))
set_option maxRecDepth 20000 in
theorem zq_X10_laysMarks_M_98 (I : Nat → Nat → Int32) (J : Nat → Nat → Int64) (l1 : Int32) (l2 : Int32) (l3 : Int32) : zv_X10_laysMarks_M_98 I J l1 l2 l3 = if (l3 : Int32) < 0 ∨ 10 ≤ Int32.toNatClampNeg l3 then none else if ((I 28 (Int32.toNatClampNeg l3)) &&& (l2 ^^^ (-1))) = 0 then zv_X10_laysMarks_M_117 I J l1 l2 l3 else zv_X10_laysMarks_M_111 I J l1 l2 l3 := (zm_V_eq _ _ _).trans ((fun (k : zm_S → zm_R) => (rfl : zm_step zT_X10_laysMarks zW_M k (98, [some (.ref 0), some (.int l1), some (.int l2), some (.int l3)], [], (I, J)) = if (l3 : Int32) < 0 ∨ 10 ≤ Int32.toNatClampNeg l3 then none else if ((I 28 (Int32.toNatClampNeg l3)) &&& (l2 ^^^ (-1))) = 0 then k (117, [some (.ref 0), some (.int l1), some (.int l2), some (.int l3)], [], (I, J)) else k (111, [some (.ref 0), some (.int l1), some (.int l2), some (.int l3)], [], (I, J)))) (zm_V zT_X10_laysMarks zW_M))
set_option maxRecDepth 20000 in
theorem zq_X10_laysMarks_M_111 (I : Nat → Nat → Int32) (J : Nat → Nat → Int64) (l1 : Int32) (l2 : Int32) (l3 : Int32) : zv_X10_laysMarks_M_111 I J l1 l2 l3 = zv_X10_laysMarks_M_84 I J l1 l2 (l3 + 1) := (zm_V_eq _ _ _).trans ((fun (k : zm_S → zm_R) => (rfl : zm_step zT_X10_laysMarks zW_M k (111, [some (.ref 0), some (.int l1), some (.int l2), some (.int l3)], [], (I, J)) = k (84, [some (.ref 0), some (.int l1), some (.int l2), some (.int (l3 + 1))], [], (I, J)))) (zm_V zT_X10_laysMarks zW_M))
set_option maxRecDepth 20000 in
theorem zq_X10_laysMarks_M_117 (I : Nat → Nat → Int32) (J : Nat → Nat → Int64) (l1 : Int32) (l2 : Int32) (l3 : Int32) : zv_X10_laysMarks_M_117 I J l1 l2 l3 = if ((I 0 50) : Int32) < 0 ∨ 10 ≤ Int32.toNatClampNeg (I 0 50) then none else zv_X10_laysMarks_M_84 (zm_w (zm_w I 29 (Int32.toNatClampNeg (I 0 50)) l3) 0 50 (((zm_w I 29 (Int32.toNatClampNeg (I 0 50)) l3) 0 50) + 1)) J l1 (l2 ||| (1 <<< (l3 &&& 31))) 0 := (zm_V_eq _ _ _).trans ((fun (k : zm_S → zm_R) => (rfl : zm_step zT_X10_laysMarks zW_M k (117, [some (.ref 0), some (.int l1), some (.int l2), some (.int l3)], [], (I, J)) = if ((I 0 50) : Int32) < 0 ∨ 10 ≤ Int32.toNatClampNeg (I 0 50) then none else k (84, [some (.ref 0), some (.int l1), some (.int (l2 ||| (1 <<< (l3 &&& 31)))), some (.int 0)], [], ((zm_w (zm_w I 29 (Int32.toNatClampNeg (I 0 50)) l3) 0 50 (((zm_w I 29 (Int32.toNatClampNeg (I 0 50)) l3) 0 50) + 1)), J)))) (zm_V zT_X10_laysMarks zW_M))
set_option maxRecDepth 20000 in
theorem zq_X10_laysMarks_M_148 (I : Nat → Nat → Int32) (J : Nat → Nat → Int64) (l1 : Int32) (l2 : Int32) (l3 : Int32) : zv_X10_laysMarks_M_148 I J l1 l2 l3 = some (none, (I, J)) := (zm_V_eq _ _ _).trans ((fun (k : zm_S → zm_R) => (rfl : zm_step zT_X10_laysMarks zW_M k (148, [some (.ref 0), some (.int l1), some (.int l2), some (.int l3)], [], (I, J)) = some (none, (I, J)))) (zm_V zT_X10_laysMarks zW_M))
theorem zf_X10_laysMarks_M (I : Nat → Nat → Int32) (J : Nat → Nat → Int64) (l1 : Int32) : zF_X10_laysMarks zW_M [.ref 0, .int l1] (I, J) = zv_X10_laysMarks_M_0 I J l1 := rfl
noncomputable def zv_X10_isBench_M_0 (I : Nat → Nat → Int32) (J : Nat → Nat → Int64) : zm_R := zm_V zT_X10_isBench zW_M (0, [some (.ref 0)], [], (I, J))
noncomputable def zv_X10_isBench_M_9 (I : Nat → Nat → Int32) (J : Nat → Nat → Int64) : zm_R := zm_V zT_X10_isBench zW_M (9, [some (.ref 0)], [], (I, J))
noncomputable def zv_X10_isBench_M_13 (I : Nat → Nat → Int32) (J : Nat → Nat → Int64) : zm_R := zm_V zT_X10_isBench zW_M (13, [some (.ref 0)], [], (I, J))
noncomputable def zv_X10_isBench_M_14 (I : Nat → Nat → Int32) (J : Nat → Nat → Int64) (s0 : Int32) : zm_R := zm_V zT_X10_isBench zW_M (14, [some (.ref 0)], [.int s0], (I, J))
set_option maxRecDepth 20000 in
theorem zq_X10_isBench_M_0 (I : Nat → Nat → Int32) (J : Nat → Nat → Int64) : zv_X10_isBench_M_0 I J = if (0 : Int32) < 0 ∨ 5 ≤ Int32.toNatClampNeg 0 then none else if (I 6 (Int32.toNatClampNeg 0)) ≤ 0 then zv_X10_isBench_M_13 I J else zv_X10_isBench_M_9 I J := (zm_V_eq _ _ _).trans ((fun (k : zm_S → zm_R) => (rfl : zm_step zT_X10_isBench zW_M k (0, [some (.ref 0)], [], (I, J)) = if (0 : Int32) < 0 ∨ 5 ≤ Int32.toNatClampNeg 0 then none else if (I 6 (Int32.toNatClampNeg 0)) ≤ 0 then k (13, [some (.ref 0)], [], (I, J)) else k (9, [some (.ref 0)], [], (I, J)))) (zm_V zT_X10_isBench zW_M))
set_option maxRecDepth 20000 in
theorem zq_X10_isBench_M_9 (I : Nat → Nat → Int32) (J : Nat → Nat → Int64) : zv_X10_isBench_M_9 I J = zv_X10_isBench_M_14 I J 1 := (zm_V_eq _ _ _).trans ((fun (k : zm_S → zm_R) => (rfl : zm_step zT_X10_isBench zW_M k (9, [some (.ref 0)], [], (I, J)) = k (14, [some (.ref 0)], [.int 1], (I, J)))) (zm_V zT_X10_isBench zW_M))
set_option maxRecDepth 20000 in
theorem zq_X10_isBench_M_13 (I : Nat → Nat → Int32) (J : Nat → Nat → Int64) : zv_X10_isBench_M_13 I J = zv_X10_isBench_M_14 I J 0 := (zm_V_eq _ _ _).trans ((fun (k : zm_S → zm_R) => (rfl : zm_step zT_X10_isBench zW_M k (13, [some (.ref 0)], [], (I, J)) = k (14, [some (.ref 0)], [.int 0], (I, J)))) (zm_V zT_X10_isBench zW_M))
set_option maxRecDepth 20000 in
theorem zq_X10_isBench_M_14 (I : Nat → Nat → Int32) (J : Nat → Nat → Int64) (s0 : Int32) : zv_X10_isBench_M_14 I J s0 = if s0 = 0 ∨ s0 = 1 then some (some (.int s0), (I, J)) else none := (zm_V_eq _ _ _).trans ((fun (k : zm_S → zm_R) => (rfl : zm_step zT_X10_isBench zW_M k (14, [some (.ref 0)], [.int s0], (I, J)) = if s0 = 0 ∨ s0 = 1 then some (some (.int s0), (I, J)) else none)) (zm_V zT_X10_isBench zW_M))
theorem zf_X10_isBench_M (I : Nat → Nat → Int32) (J : Nat → Nat → Int64) : zF_X10_isBench zW_M [.ref 0] (I, J) = zv_X10_isBench_M_0 I J := rfl
noncomputable def zv_X10_isCaller_M_0 (I : Nat → Nat → Int32) (J : Nat → Nat → Int64) (l1 : Int64) : zm_R := zm_V zT_X10_isCaller zW_M (0, [some (.ref 0), some (.long l1), none], [], (I, J))
noncomputable def zv_X10_isCaller_M_6 (I : Nat → Nat → Int32) (J : Nat → Nat → Int64) (l1 : Int64) (s0 : Int32) (s1 : Int64) (s2 : Int64) : zm_R := zm_V zT_X10_isCaller zW_M (6, [some (.ref 0), some (.long l1), none], [.int s0, .long s1, .long s2], (I, J))
noncomputable def zv_X10_isCaller_M_12 (I : Nat → Nat → Int32) (J : Nat → Nat → Int64) (l1 : Int64) (s0 : Int32) : zm_R := zm_V zT_X10_isCaller zW_M (12, [some (.ref 0), some (.long l1), none], [.int s0], (I, J))
set_option maxRecDepth 20000 in
theorem zc_X10_isCaller_M_0 (I : Nat → Nat → Int32) (J : Nat → Nat → Int64) (l1 : Int64) {I2 : Nat → Nat → Int32} {J2 : Nat → Nat → Int64} {r : Int32} (hF : zF_X10_callers zW_M [.ref 0] (I, J) = some (some (.int r), (I2, J2))) : zv_X10_isCaller_M_0 I J l1 = zv_X10_isCaller_M_6 I2 J2 l1 r 0 l1 := by
  have e : ∀ k : zm_S → zm_R, zm_step zT_X10_isCaller zW_M k (0, [some (.ref 0), some (.long l1), none], [], (I, J)) = zm_app (1, some 10, true, [], zF_X10_callers) zW_M [.ref 0] (I, J) (fun v N => k (6, [some (.ref 0), some (.long l1), none], v.toList ++ [.long 0, .long l1], N)) := fun k => rfl
  have g := zm_app_s (C := (1, some 10, true, [], zF_X10_callers)) (wl := zW_M) (as := [.ref 0]) (M := (I, J)) (k := fun v N => zm_V zT_X10_isCaller zW_M (6, [some (.ref 0), some (.long l1), none], v.toList ++ [.long 0, .long l1], N)) rfl rfl hF
  exact (zm_V_eq _ _ _).trans ((e _).trans g)
set_option maxRecDepth 20000 in
theorem zc_X10_isCaller_M_6 (I : Nat → Nat → Int32) (J : Nat → Nat → Int64) (l1 : Int64) (s0 : Int32) (s1 : Int64) (s2 : Int64) {I2 : Nat → Nat → Int32} {J2 : Nat → Nat → Int64} {r : Int32} (hF : zF_X10_in zW_M [.long s2, .long s1, .long ((Int32.toInt64 s0) - 1)] (I, J) = some (some (.int r), (I2, J2))) : zv_X10_isCaller_M_6 I J l1 s0 s1 s2 = zv_X10_isCaller_M_12 I2 J2 l1 r := by
  have e : ∀ k : zm_S → zm_R, zm_step zT_X10_isCaller zW_M k (6, [some (.ref 0), some (.long l1), none], [.int s0, .long s1, .long s2], (I, J)) = zm_app (3, none, true, [], zF_X10_in) zW_M [.long s2, .long s1, .long ((Int32.toInt64 s0) - 1)] (I, J) (fun v N => k (12, [some (.ref 0), some (.long l1), none], v.toList ++ [], N)) := fun k => rfl
  have g := zm_app_s (C := (3, none, true, [], zF_X10_in)) (wl := zW_M) (as := [.long s2, .long s1, .long ((Int32.toInt64 s0) - 1)]) (M := (I, J)) (k := fun v N => zm_V zT_X10_isCaller zW_M (12, [some (.ref 0), some (.long l1), none], v.toList ++ [], N)) rfl rfl hF
  exact (zm_V_eq _ _ _).trans ((e _).trans g)
set_option maxRecDepth 20000 in
theorem zq_X10_isCaller_M_12 (I : Nat → Nat → Int32) (J : Nat → Nat → Int64) (l1 : Int64) (s0 : Int32) : zv_X10_isCaller_M_12 I J l1 s0 = if s0 = 0 ∨ s0 = 1 then some (some (.int s0), (I, J)) else none := (zm_V_eq _ _ _).trans ((fun (k : zm_S → zm_R) => (rfl : zm_step zT_X10_isCaller zW_M k (12, [some (.ref 0), some (.long l1), none], [.int s0], (I, J)) = if s0 = 0 ∨ s0 = 1 then some (some (.int s0), (I, J)) else none)) (zm_V zT_X10_isCaller zW_M))
theorem zf_X10_isCaller_M (I : Nat → Nat → Int32) (J : Nat → Nat → Int64) (l1 : Int64) : zF_X10_isCaller zW_M [.ref 0, .long l1] (I, J) = zv_X10_isCaller_M_0 I J l1 := rfl
noncomputable def zv_X10_callers_M_0 (I : Nat → Nat → Int32) (J : Nat → Nat → Int64) : zm_R := zm_V zT_X10_callers zW_M (0, [some (.ref 0)], [], (I, J))
set_option maxRecDepth 20000 in
theorem zq_X10_callers_M_0 (I : Nat → Nat → Int32) (J : Nat → Nat → Int64) : zv_X10_callers_M_0 I J = if (5 : Int32) < 0 ∨ 35 ≤ Int32.toNatClampNeg 5 then none else some (some (.int (I 7 (Int32.toNatClampNeg 5))), (I, J)) := (zm_V_eq _ _ _).trans ((fun (k : zm_S → zm_R) => (rfl : zm_step zT_X10_callers zW_M k (0, [some (.ref 0)], [], (I, J)) = if (5 : Int32) < 0 ∨ 35 ≤ Int32.toNatClampNeg 5 then none else some (some (.int (I 7 (Int32.toNatClampNeg 5))), (I, J)))) (zm_V zT_X10_callers zW_M))
theorem zf_X10_callers_M (I : Nat → Nat → Int32) (J : Nat → Nat → Int64) : zF_X10_callers zW_M [.ref 0] (I, J) = zv_X10_callers_M_0 I J := rfl
noncomputable def zv_X10_paste_M_0 (I : Nat → Nat → Int32) (J : Nat → Nat → Int64) (l1 : Int32) (l2 : Int32) (l3 : Int32) (l4 : Int32) (l5 : Int32) : zm_R := zm_V zT_X10_paste zW_M (0, [some (.ref 0), some (.int l1), some (.int l2), some (.int l3), some (.int l4), some (.int l5), none], [], (I, J))
noncomputable def zv_X10_paste_M_9 (I : Nat → Nat → Int32) (J : Nat → Nat → Int64) (l1 : Int32) (l2 : Int32) (l3 : Int32) (l4 : Int32) (l5 : Int32) (s0 : Int32) : zm_R := zm_V zT_X10_paste zW_M (9, [some (.ref 0), some (.int l1), some (.int l2), some (.int l3), some (.int l4), some (.int l5), none], [.int s0], (I, J))
noncomputable def zv_X10_paste_M_12 (I : Nat → Nat → Int32) (J : Nat → Nat → Int64) (l1 : Int32) (l2 : Int32) (l3 : Int32) (l4 : Int32) (l5 : Int32) : zm_R := zm_V zT_X10_paste zW_M (12, [some (.ref 0), some (.int l1), some (.int l2), some (.int l3), some (.int l4), some (.int l5), none], [], (I, J))
noncomputable def zv_X10_paste_M_16 (I : Nat → Nat → Int32) (J : Nat → Nat → Int64) (l1 : Int32) (l2 : Int32) (l3 : Int32) (l4 : Int32) (l5 : Int32) (s0 : Int32) : zm_R := zm_V zT_X10_paste zW_M (16, [some (.ref 0), some (.int l1), some (.int l2), some (.int l3), some (.int l4), some (.int l5), none], [.int s0], (I, J))
noncomputable def zv_X10_paste_M_19 (I : Nat → Nat → Int32) (J : Nat → Nat → Int64) (l1 : Int32) (l2 : Int32) (l3 : Int32) (l4 : Int32) (l5 : Int32) : zm_R := zm_V zT_X10_paste zW_M (19, [some (.ref 0), some (.int l1), some (.int l2), some (.int l3), some (.int l4), some (.int l5), none], [], (I, J))
noncomputable def zv_X10_paste_M_22 (I : Nat → Nat → Int32) (J : Nat → Nat → Int64) (l1 : Int32) (l2 : Int32) (l3 : Int32) (l4 : Int32) (l5 : Int32) : zm_R := zm_V zT_X10_paste zW_M (22, [some (.ref 0), some (.int l1), some (.int l2), some (.int l3), some (.int l4), some (.int l5), none], [], (I, J))
noncomputable def zv_X10_paste_M_32 (I : Nat → Nat → Int32) (J : Nat → Nat → Int64) (l1 : Int32) (l2 : Int32) (l3 : Int32) (l4 : Int32) (l5 : Int32) : zm_R := zm_V zT_X10_paste zW_M (32, [some (.ref 0), some (.int l1), some (.int l2), some (.int l3), some (.int l4), some (.int l5), none], [], (I, J))
noncomputable def zv_X10_paste_M_42 (I : Nat → Nat → Int32) (J : Nat → Nat → Int64) (l1 : Int32) (l2 : Int32) (l3 : Int32) (l4 : Int32) (l5 : Int32) : zm_R := zm_V zT_X10_paste zW_M (42, [some (.ref 0), some (.int l1), some (.int l2), some (.int l3), some (.int l4), some (.int l5), none], [], (I, J))
noncomputable def zv_X10_paste_M_45 (I : Nat → Nat → Int32) (J : Nat → Nat → Int64) (l1 : Int32) (l2 : Int32) (l3 : Int32) (l4 : Int32) (l5 : Int32) : zm_R := zm_V zT_X10_paste zW_M (45, [some (.ref 0), some (.int l1), some (.int l2), some (.int l3), some (.int l4), some (.int l5), none], [], (I, J))
noncomputable def zv_X10_paste_M_60 (I : Nat → Nat → Int32) (J : Nat → Nat → Int64) (l1 : Int32) (l2 : Int32) (l3 : Int32) (l4 : Int32) (l5 : Int32) : zm_R := zm_V zT_X10_paste zW_M (60, [some (.ref 0), some (.int l1), some (.int l2), some (.int l3), some (.int l4), some (.int l5), none], [], (I, J))
noncomputable def zv_X10_paste_M_63 (I : Nat → Nat → Int32) (J : Nat → Nat → Int64) (l1 : Int32) (l2 : Int32) (l3 : Int32) (l4 : Int32) (l5 : Int32) : zm_R := zm_V zT_X10_paste zW_M (63, [some (.ref 0), some (.int l1), some (.int l2), some (.int l3), some (.int l4), some (.int l5), none], [], (I, J))
noncomputable def zv_X10_paste_M_67 (I : Nat → Nat → Int32) (J : Nat → Nat → Int64) (l1 : Int32) (l2 : Int32) (l3 : Int32) (l4 : Int32) (l5 : Int32) : zm_R := zm_V zT_X10_paste zW_M (67, [some (.ref 0), some (.int l1), some (.int l2), some (.int l3), some (.int l4), some (.int l5), none], [], (I, J))
noncomputable def zv_X10_paste_M_72 (I : Nat → Nat → Int32) (J : Nat → Nat → Int64) (l1 : Int32) (l2 : Int32) (l3 : Int32) (l4 : Int32) (l5 : Int32) : zm_R := zm_V zT_X10_paste zW_M (72, [some (.ref 0), some (.int l1), some (.int l2), some (.int l3), some (.int l4), some (.int l5), none], [], (I, J))
noncomputable def zv_X10_paste_M_77 (I : Nat → Nat → Int32) (J : Nat → Nat → Int64) (l1 : Int32) (l2 : Int32) (l3 : Int32) (l4 : Int32) (l5 : Int32) : zm_R := zm_V zT_X10_paste zW_M (77, [some (.ref 0), some (.int l1), some (.int l2), some (.int l3), some (.int l4), some (.int l5), none], [], (I, J))
noncomputable def zv_X10_paste_M_94 (I : Nat → Nat → Int32) (J : Nat → Nat → Int64) (l1 : Int32) (l2 : Int32) (l3 : Int32) (l4 : Int32) (l5 : Int32) : zm_R := zm_V zT_X10_paste zW_M (94, [some (.ref 0), some (.int l1), some (.int l2), some (.int l3), some (.int l4), some (.int l5), none], [], (I, J))
noncomputable def zv_X10_paste_M_112 (I : Nat → Nat → Int32) (J : Nat → Nat → Int64) (l1 : Int32) (l2 : Int32) (l3 : Int32) (l4 : Int32) (l5 : Int32) : zm_R := zm_V zT_X10_paste zW_M (112, [some (.ref 0), some (.int l1), some (.int l2), some (.int l3), some (.int l4), some (.int l5), none], [], (I, J))
noncomputable def zv_X10_paste_M_115 (I : Nat → Nat → Int32) (J : Nat → Nat → Int64) (l1 : Int32) (l2 : Int32) (l3 : Int32) (l4 : Int32) (l5 : Int32) : zm_R := zm_V zT_X10_paste zW_M (115, [some (.ref 0), some (.int l1), some (.int l2), some (.int l3), some (.int l4), some (.int l5), none], [], (I, J))
noncomputable def zv_X10_paste_M_118 (I : Nat → Nat → Int32) (J : Nat → Nat → Int64) (l1 : Int32) (l2 : Int32) (l3 : Int32) (l4 : Int32) (l5 : Int32) (l6 : Int32) : zm_R := zm_V zT_X10_paste zW_M (118, [some (.ref 0), some (.int l1), some (.int l2), some (.int l3), some (.int l4), some (.int l5), some (.int l6)], [], (I, J))
noncomputable def zv_X10_paste_M_125 (I : Nat → Nat → Int32) (J : Nat → Nat → Int64) (l1 : Int32) (l2 : Int32) (l3 : Int32) (l4 : Int32) (l5 : Int32) (l6 : Int32) : zm_R := zm_V zT_X10_paste zW_M (125, [some (.ref 0), some (.int l1), some (.int l2), some (.int l3), some (.int l4), some (.int l5), some (.int l6)], [], (I, J))
noncomputable def zv_X10_paste_M_152 (I : Nat → Nat → Int32) (J : Nat → Nat → Int64) (l1 : Int32) (l2 : Int32) (l3 : Int32) (l4 : Int32) (l5 : Int32) (l6 : Int32) : zm_R := zm_V zT_X10_paste zW_M (152, [some (.ref 0), some (.int l1), some (.int l2), some (.int l3), some (.int l4), some (.int l5), some (.int l6)], [], (I, J))
noncomputable def zv_X10_paste_M_155 (I : Nat → Nat → Int32) (J : Nat → Nat → Int64) (l1 : Int32) (l2 : Int32) (l3 : Int32) (l4 : Int32) (l5 : Int32) (l6 : Int32) : zm_R := zm_V zT_X10_paste zW_M (155, [some (.ref 0), some (.int l1), some (.int l2), some (.int l3), some (.int l4), some (.int l5), some (.int l6)], [], (I, J))
noncomputable def zv_X10_paste_M_162 (I : Nat → Nat → Int32) (J : Nat → Nat → Int64) (l1 : Int32) (l2 : Int32) (l3 : Int32) (l4 : Int32) (l5 : Int32) (l6 : Int32) : zm_R := zm_V zT_X10_paste zW_M (162, [some (.ref 0), some (.int l1), some (.int l2), some (.int l3), some (.int l4), some (.int l5), some (.int l6)], [], (I, J))
noncomputable def zv_X10_paste_M_190 (I : Nat → Nat → Int32) (J : Nat → Nat → Int64) (l1 : Int32) (l2 : Int32) (l3 : Int32) (l4 : Int32) (l5 : Int32) (l6 : Int32) : zm_R := zm_V zT_X10_paste zW_M (190, [some (.ref 0), some (.int l1), some (.int l2), some (.int l3), some (.int l4), some (.int l5), some (.int l6)], [], (I, J))
set_option maxRecDepth 20000 in
theorem zc_X10_paste_M_0 (I : Nat → Nat → Int32) (J : Nat → Nat → Int64) (l1 : Int32) (l2 : Int32) (l3 : Int32) (l4 : Int32) (l5 : Int32) {I2 : Nat → Nat → Int32} {J2 : Nat → Nat → Int64} {r : Int32} (hF : zF_X10_isSlot zW_M [.int l1] ((zm_w I 0 0 0), J) = some (some (.int r), (I2, J2))) : zv_X10_paste_M_0 I J l1 l2 l3 l4 l5 = zv_X10_paste_M_9 I2 J2 l1 l2 l3 l4 l5 r := by
  have e : ∀ k : zm_S → zm_R, zm_step zT_X10_paste zW_M k (0, [some (.ref 0), some (.int l1), some (.int l2), some (.int l3), some (.int l4), some (.int l5), none], [], (I, J)) = zm_app (1, none, true, [], zF_X10_isSlot) zW_M [.int l1] ((zm_w I 0 0 0), J) (fun v N => k (9, [some (.ref 0), some (.int l1), some (.int l2), some (.int l3), some (.int l4), some (.int l5), none], v.toList ++ [], N)) := fun k => rfl
  have g := zm_app_s (C := (1, none, true, [], zF_X10_isSlot)) (wl := zW_M) (as := [.int l1]) (M := ((zm_w I 0 0 0), J)) (k := fun v N => zm_V zT_X10_paste zW_M (9, [some (.ref 0), some (.int l1), some (.int l2), some (.int l3), some (.int l4), some (.int l5), none], v.toList ++ [], N)) rfl rfl hF
  exact (zm_V_eq _ _ _).trans ((e _).trans g)
set_option maxRecDepth 20000 in
theorem zq_X10_paste_M_9 (I : Nat → Nat → Int32) (J : Nat → Nat → Int64) (l1 : Int32) (l2 : Int32) (l3 : Int32) (l4 : Int32) (l5 : Int32) (s0 : Int32) : zv_X10_paste_M_9 I J l1 l2 l3 l4 l5 s0 = if s0 = 0 then zv_X10_paste_M_19 I J l1 l2 l3 l4 l5 else zv_X10_paste_M_12 I J l1 l2 l3 l4 l5 := (zm_V_eq _ _ _).trans ((fun (k : zm_S → zm_R) => (rfl : zm_step zT_X10_paste zW_M k (9, [some (.ref 0), some (.int l1), some (.int l2), some (.int l3), some (.int l4), some (.int l5), none], [.int s0], (I, J)) = if s0 = 0 then k (19, [some (.ref 0), some (.int l1), some (.int l2), some (.int l3), some (.int l4), some (.int l5), none], [], (I, J)) else k (12, [some (.ref 0), some (.int l1), some (.int l2), some (.int l3), some (.int l4), some (.int l5), none], [], (I, J)))) (zm_V zT_X10_paste zW_M))
set_option maxRecDepth 20000 in
theorem zc_X10_paste_M_12 (I : Nat → Nat → Int32) (J : Nat → Nat → Int64) (l1 : Int32) (l2 : Int32) (l3 : Int32) (l4 : Int32) (l5 : Int32) {I2 : Nat → Nat → Int32} {J2 : Nat → Nat → Int64} {r : Int32} (hF : zF_X10_isSlot zW_M [.int l3] (I, J) = some (some (.int r), (I2, J2))) : zv_X10_paste_M_12 I J l1 l2 l3 l4 l5 = zv_X10_paste_M_16 I2 J2 l1 l2 l3 l4 l5 r := by
  have e : ∀ k : zm_S → zm_R, zm_step zT_X10_paste zW_M k (12, [some (.ref 0), some (.int l1), some (.int l2), some (.int l3), some (.int l4), some (.int l5), none], [], (I, J)) = zm_app (1, none, true, [], zF_X10_isSlot) zW_M [.int l3] (I, J) (fun v N => k (16, [some (.ref 0), some (.int l1), some (.int l2), some (.int l3), some (.int l4), some (.int l5), none], v.toList ++ [], N)) := fun k => rfl
  have g := zm_app_s (C := (1, none, true, [], zF_X10_isSlot)) (wl := zW_M) (as := [.int l3]) (M := (I, J)) (k := fun v N => zm_V zT_X10_paste zW_M (16, [some (.ref 0), some (.int l1), some (.int l2), some (.int l3), some (.int l4), some (.int l5), none], v.toList ++ [], N)) rfl rfl hF
  exact (zm_V_eq _ _ _).trans ((e _).trans g)
set_option maxRecDepth 20000 in
theorem zq_X10_paste_M_16 (I : Nat → Nat → Int32) (J : Nat → Nat → Int64) (l1 : Int32) (l2 : Int32) (l3 : Int32) (l4 : Int32) (l5 : Int32) (s0 : Int32) : zv_X10_paste_M_16 I J l1 l2 l3 l4 l5 s0 = if s0 = 0 then zv_X10_paste_M_19 I J l1 l2 l3 l4 l5 else zv_X10_paste_M_22 I J l1 l2 l3 l4 l5 := (zm_V_eq _ _ _).trans ((fun (k : zm_S → zm_R) => (rfl : zm_step zT_X10_paste zW_M k (16, [some (.ref 0), some (.int l1), some (.int l2), some (.int l3), some (.int l4), some (.int l5), none], [.int s0], (I, J)) = if s0 = 0 then k (19, [some (.ref 0), some (.int l1), some (.int l2), some (.int l3), some (.int l4), some (.int l5), none], [], (I, J)) else k (22, [some (.ref 0), some (.int l1), some (.int l2), some (.int l3), some (.int l4), some (.int l5), none], [], (I, J)))) (zm_V zT_X10_paste zW_M))
set_option maxRecDepth 20000 in
theorem zq_X10_paste_M_19 (I : Nat → Nat → Int32) (J : Nat → Nat → Int64) (l1 : Int32) (l2 : Int32) (l3 : Int32) (l4 : Int32) (l5 : Int32) : zv_X10_paste_M_19 I J l1 l2 l3 l4 l5 = some (some (.int (-2)), (I, J)) := (zm_V_eq _ _ _).trans ((fun (k : zm_S → zm_R) => (rfl : zm_step zT_X10_paste zW_M k (19, [some (.ref 0), some (.int l1), some (.int l2), some (.int l3), some (.int l4), some (.int l5), none], [], (I, J)) = some (some (.int (-2)), (I, J)))) (zm_V zT_X10_paste zW_M))
set_option maxRecDepth 20000 in
theorem zq_X10_paste_M_22 (I : Nat → Nat → Int32) (J : Nat → Nat → Int64) (l1 : Int32) (l2 : Int32) (l3 : Int32) (l4 : Int32) (l5 : Int32) : zv_X10_paste_M_22 I J l1 l2 l3 l4 l5 = if (l1 : Int32) < 0 ∨ 4 ≤ Int32.toNatClampNeg l1 then none else if (I 1 (Int32.toNatClampNeg l1)) = (-1) then zv_X10_paste_M_42 I J l1 l2 l3 l4 l5 else zv_X10_paste_M_32 I J l1 l2 l3 l4 l5 := (zm_V_eq _ _ _).trans ((fun (k : zm_S → zm_R) => (rfl : zm_step zT_X10_paste zW_M k (22, [some (.ref 0), some (.int l1), some (.int l2), some (.int l3), some (.int l4), some (.int l5), none], [], (I, J)) = if (l1 : Int32) < 0 ∨ 4 ≤ Int32.toNatClampNeg l1 then none else if (I 1 (Int32.toNatClampNeg l1)) = (-1) then k (42, [some (.ref 0), some (.int l1), some (.int l2), some (.int l3), some (.int l4), some (.int l5), none], [], (I, J)) else k (32, [some (.ref 0), some (.int l1), some (.int l2), some (.int l3), some (.int l4), some (.int l5), none], [], (I, J)))) (zm_V zT_X10_paste zW_M))
set_option maxRecDepth 20000 in
theorem zq_X10_paste_M_32 (I : Nat → Nat → Int32) (J : Nat → Nat → Int64) (l1 : Int32) (l2 : Int32) (l3 : Int32) (l4 : Int32) (l5 : Int32) : zv_X10_paste_M_32 I J l1 l2 l3 l4 l5 = if (l3 : Int32) < 0 ∨ 4 ≤ Int32.toNatClampNeg l3 then none else if (I 1 (Int32.toNatClampNeg l3)) = (-1) then zv_X10_paste_M_42 I J l1 l2 l3 l4 l5 else zv_X10_paste_M_45 I J l1 l2 l3 l4 l5 := (zm_V_eq _ _ _).trans ((fun (k : zm_S → zm_R) => (rfl : zm_step zT_X10_paste zW_M k (32, [some (.ref 0), some (.int l1), some (.int l2), some (.int l3), some (.int l4), some (.int l5), none], [], (I, J)) = if (l3 : Int32) < 0 ∨ 4 ≤ Int32.toNatClampNeg l3 then none else if (I 1 (Int32.toNatClampNeg l3)) = (-1) then k (42, [some (.ref 0), some (.int l1), some (.int l2), some (.int l3), some (.int l4), some (.int l5), none], [], (I, J)) else k (45, [some (.ref 0), some (.int l1), some (.int l2), some (.int l3), some (.int l4), some (.int l5), none], [], (I, J)))) (zm_V zT_X10_paste zW_M))
set_option maxRecDepth 20000 in
theorem zq_X10_paste_M_42 (I : Nat → Nat → Int32) (J : Nat → Nat → Int64) (l1 : Int32) (l2 : Int32) (l3 : Int32) (l4 : Int32) (l5 : Int32) : zv_X10_paste_M_42 I J l1 l2 l3 l4 l5 = some (some (.int (-6)), (I, J)) := (zm_V_eq _ _ _).trans ((fun (k : zm_S → zm_R) => (rfl : zm_step zT_X10_paste zW_M k (42, [some (.ref 0), some (.int l1), some (.int l2), some (.int l3), some (.int l4), some (.int l5), none], [], (I, J)) = some (some (.int (-6)), (I, J)))) (zm_V zT_X10_paste zW_M))
set_option maxRecDepth 20000 in
theorem zq_X10_paste_M_45 (I : Nat → Nat → Int32) (J : Nat → Nat → Int64) (l1 : Int32) (l2 : Int32) (l3 : Int32) (l4 : Int32) (l5 : Int32) : zv_X10_paste_M_45 I J l1 l2 l3 l4 l5 = if (l1 : Int32) < 0 ∨ 4 ≤ Int32.toNatClampNeg l1 then none else if (l3 : Int32) < 0 ∨ 4 ≤ Int32.toNatClampNeg l3 then none else if (I 1 (Int32.toNatClampNeg l1)) = (I 1 (Int32.toNatClampNeg l3)) then zv_X10_paste_M_63 I J l1 l2 l3 l4 l5 else zv_X10_paste_M_60 I J l1 l2 l3 l4 l5 := (zm_V_eq _ _ _).trans ((fun (k : zm_S → zm_R) => (rfl : zm_step zT_X10_paste zW_M k (45, [some (.ref 0), some (.int l1), some (.int l2), some (.int l3), some (.int l4), some (.int l5), none], [], (I, J)) = if (l1 : Int32) < 0 ∨ 4 ≤ Int32.toNatClampNeg l1 then none else if (l3 : Int32) < 0 ∨ 4 ≤ Int32.toNatClampNeg l3 then none else if (I 1 (Int32.toNatClampNeg l1)) = (I 1 (Int32.toNatClampNeg l3)) then k (63, [some (.ref 0), some (.int l1), some (.int l2), some (.int l3), some (.int l4), some (.int l5), none], [], (I, J)) else k (60, [some (.ref 0), some (.int l1), some (.int l2), some (.int l3), some (.int l4), some (.int l5), none], [], (I, J)))) (zm_V zT_X10_paste zW_M))
set_option maxRecDepth 20000 in
theorem zq_X10_paste_M_60 (I : Nat → Nat → Int32) (J : Nat → Nat → Int64) (l1 : Int32) (l2 : Int32) (l3 : Int32) (l4 : Int32) (l5 : Int32) : zv_X10_paste_M_60 I J l1 l2 l3 l4 l5 = some (some (.int (-8)), (I, J)) := (zm_V_eq _ _ _).trans ((fun (k : zm_S → zm_R) => (rfl : zm_step zT_X10_paste zW_M k (60, [some (.ref 0), some (.int l1), some (.int l2), some (.int l3), some (.int l4), some (.int l5), none], [], (I, J)) = some (some (.int (-8)), (I, J)))) (zm_V zT_X10_paste zW_M))
set_option maxRecDepth 20000 in
theorem zq_X10_paste_M_63 (I : Nat → Nat → Int32) (J : Nat → Nat → Int64) (l1 : Int32) (l2 : Int32) (l3 : Int32) (l4 : Int32) (l5 : Int32) : zv_X10_paste_M_63 I J l1 l2 l3 l4 l5 = if l2 < 0 then zv_X10_paste_M_112 I J l1 l2 l3 l4 l5 else zv_X10_paste_M_67 I J l1 l2 l3 l4 l5 := (zm_V_eq _ _ _).trans ((fun (k : zm_S → zm_R) => (rfl : zm_step zT_X10_paste zW_M k (63, [some (.ref 0), some (.int l1), some (.int l2), some (.int l3), some (.int l4), some (.int l5), none], [], (I, J)) = if l2 < 0 then k (112, [some (.ref 0), some (.int l1), some (.int l2), some (.int l3), some (.int l4), some (.int l5), none], [], (I, J)) else k (67, [some (.ref 0), some (.int l1), some (.int l2), some (.int l3), some (.int l4), some (.int l5), none], [], (I, J)))) (zm_V zT_X10_paste zW_M))
set_option maxRecDepth 20000 in
theorem zq_X10_paste_M_67 (I : Nat → Nat → Int32) (J : Nat → Nat → Int64) (l1 : Int32) (l2 : Int32) (l3 : Int32) (l4 : Int32) (l5 : Int32) : zv_X10_paste_M_67 I J l1 l2 l3 l4 l5 = if l4 < 0 then zv_X10_paste_M_112 I J l1 l2 l3 l4 l5 else zv_X10_paste_M_72 I J l1 l2 l3 l4 l5 := (zm_V_eq _ _ _).trans ((fun (k : zm_S → zm_R) => (rfl : zm_step zT_X10_paste zW_M k (67, [some (.ref 0), some (.int l1), some (.int l2), some (.int l3), some (.int l4), some (.int l5), none], [], (I, J)) = if l4 < 0 then k (112, [some (.ref 0), some (.int l1), some (.int l2), some (.int l3), some (.int l4), some (.int l5), none], [], (I, J)) else k (72, [some (.ref 0), some (.int l1), some (.int l2), some (.int l3), some (.int l4), some (.int l5), none], [], (I, J)))) (zm_V zT_X10_paste zW_M))
set_option maxRecDepth 20000 in
theorem zq_X10_paste_M_72 (I : Nat → Nat → Int32) (J : Nat → Nat → Int64) (l1 : Int32) (l2 : Int32) (l3 : Int32) (l4 : Int32) (l5 : Int32) : zv_X10_paste_M_72 I J l1 l2 l3 l4 l5 = if l5 < 0 then zv_X10_paste_M_112 I J l1 l2 l3 l4 l5 else zv_X10_paste_M_77 I J l1 l2 l3 l4 l5 := (zm_V_eq _ _ _).trans ((fun (k : zm_S → zm_R) => (rfl : zm_step zT_X10_paste zW_M k (72, [some (.ref 0), some (.int l1), some (.int l2), some (.int l3), some (.int l4), some (.int l5), none], [], (I, J)) = if l5 < 0 then k (112, [some (.ref 0), some (.int l1), some (.int l2), some (.int l3), some (.int l4), some (.int l5), none], [], (I, J)) else k (77, [some (.ref 0), some (.int l1), some (.int l2), some (.int l3), some (.int l4), some (.int l5), none], [], (I, J)))) (zm_V zT_X10_paste zW_M))
set_option maxRecDepth 20000 in
theorem zq_X10_paste_M_77 (I : Nat → Nat → Int32) (J : Nat → Nat → Int64) (l1 : Int32) (l2 : Int32) (l3 : Int32) (l4 : Int32) (l5 : Int32) : zv_X10_paste_M_77 I J l1 l2 l3 l4 l5 = if (l1 : Int32) < 0 ∨ 4 ≤ Int32.toNatClampNeg l1 then none else if 0 < (lg_cmp ((Int32.toInt64 l2) + (Int32.toInt64 l5)) (Int32.toInt64 (I 2 (Int32.toNatClampNeg l1)))) then zv_X10_paste_M_112 I J l1 l2 l3 l4 l5 else zv_X10_paste_M_94 I J l1 l2 l3 l4 l5 := (zm_V_eq _ _ _).trans ((fun (k : zm_S → zm_R) => (rfl : zm_step zT_X10_paste zW_M k (77, [some (.ref 0), some (.int l1), some (.int l2), some (.int l3), some (.int l4), some (.int l5), none], [], (I, J)) = if (l1 : Int32) < 0 ∨ 4 ≤ Int32.toNatClampNeg l1 then none else if 0 < (lg_cmp ((Int32.toInt64 l2) + (Int32.toInt64 l5)) (Int32.toInt64 (I 2 (Int32.toNatClampNeg l1)))) then k (112, [some (.ref 0), some (.int l1), some (.int l2), some (.int l3), some (.int l4), some (.int l5), none], [], (I, J)) else k (94, [some (.ref 0), some (.int l1), some (.int l2), some (.int l3), some (.int l4), some (.int l5), none], [], (I, J)))) (zm_V zT_X10_paste zW_M))
set_option maxRecDepth 20000 in
theorem zq_X10_paste_M_94 (I : Nat → Nat → Int32) (J : Nat → Nat → Int64) (l1 : Int32) (l2 : Int32) (l3 : Int32) (l4 : Int32) (l5 : Int32) : zv_X10_paste_M_94 I J l1 l2 l3 l4 l5 = if (l3 : Int32) < 0 ∨ 4 ≤ Int32.toNatClampNeg l3 then none else if (lg_cmp ((Int32.toInt64 l4) + (Int32.toInt64 l5)) (Int32.toInt64 (I 2 (Int32.toNatClampNeg l3)))) ≤ 0 then zv_X10_paste_M_115 I J l1 l2 l3 l4 l5 else zv_X10_paste_M_112 I J l1 l2 l3 l4 l5 := (zm_V_eq _ _ _).trans ((fun (k : zm_S → zm_R) => (rfl : zm_step zT_X10_paste zW_M k (94, [some (.ref 0), some (.int l1), some (.int l2), some (.int l3), some (.int l4), some (.int l5), none], [], (I, J)) = if (l3 : Int32) < 0 ∨ 4 ≤ Int32.toNatClampNeg l3 then none else if (lg_cmp ((Int32.toInt64 l4) + (Int32.toInt64 l5)) (Int32.toInt64 (I 2 (Int32.toNatClampNeg l3)))) ≤ 0 then k (115, [some (.ref 0), some (.int l1), some (.int l2), some (.int l3), some (.int l4), some (.int l5), none], [], (I, J)) else k (112, [some (.ref 0), some (.int l1), some (.int l2), some (.int l3), some (.int l4), some (.int l5), none], [], (I, J)))) (zm_V zT_X10_paste zW_M))
set_option maxRecDepth 20000 in
theorem zq_X10_paste_M_112 (I : Nat → Nat → Int32) (J : Nat → Nat → Int64) (l1 : Int32) (l2 : Int32) (l3 : Int32) (l4 : Int32) (l5 : Int32) : zv_X10_paste_M_112 I J l1 l2 l3 l4 l5 = some (some (.int (-7)), (I, J)) := (zm_V_eq _ _ _).trans ((fun (k : zm_S → zm_R) => (rfl : zm_step zT_X10_paste zW_M k (112, [some (.ref 0), some (.int l1), some (.int l2), some (.int l3), some (.int l4), some (.int l5), none], [], (I, J)) = some (some (.int (-7)), (I, J)))) (zm_V zT_X10_paste zW_M))
set_option maxRecDepth 20000 in
theorem zq_X10_paste_M_115 (I : Nat → Nat → Int32) (J : Nat → Nat → Int64) (l1 : Int32) (l2 : Int32) (l3 : Int32) (l4 : Int32) (l5 : Int32) : zv_X10_paste_M_115 I J l1 l2 l3 l4 l5 = zv_X10_paste_M_118 I J l1 l2 l3 l4 l5 0 := (zm_V_eq _ _ _).trans ((fun (k : zm_S → zm_R) => (rfl : zm_step zT_X10_paste zW_M k (115, [some (.ref 0), some (.int l1), some (.int l2), some (.int l3), some (.int l4), some (.int l5), none], [], (I, J)) = k (118, [some (.ref 0), some (.int l1), some (.int l2), some (.int l3), some (.int l4), some (.int l5), some (.int 0)], [], (I, J)))) (zm_V zT_X10_paste zW_M))
set_option maxRecDepth 20000 in
theorem zq_X10_paste_M_118 (I : Nat → Nat → Int32) (J : Nat → Nat → Int64) (l1 : Int32) (l2 : Int32) (l3 : Int32) (l4 : Int32) (l5 : Int32) (l6 : Int32) : zv_X10_paste_M_118 I J l1 l2 l3 l4 l5 l6 = if l5 ≤ l6 then zv_X10_paste_M_152 I J l1 l2 l3 l4 l5 l6 else zv_X10_paste_M_125 I J l1 l2 l3 l4 l5 l6 := (zm_V_eq _ _ _).trans ((fun (k : zm_S → zm_R) => (rfl : zm_step zT_X10_paste zW_M k (118, [some (.ref 0), some (.int l1), some (.int l2), some (.int l3), some (.int l4), some (.int l5), some (.int l6)], [], (I, J)) = if l5 ≤ l6 then k (152, [some (.ref 0), some (.int l1), some (.int l2), some (.int l3), some (.int l4), some (.int l5), some (.int l6)], [], (I, J)) else k (125, [some (.ref 0), some (.int l1), some (.int l2), some (.int l3), some (.int l4), some (.int l5), some (.int l6)], [], (I, J)))) (zm_V zT_X10_paste zW_M))
set_option maxRecDepth 20000 in
theorem zq_X10_paste_M_125 (I : Nat → Nat → Int32) (J : Nat → Nat → Int64) (l1 : Int32) (l2 : Int32) (l3 : Int32) (l4 : Int32) (l5 : Int32) (l6 : Int32) : zv_X10_paste_M_125 I J l1 l2 l3 l4 l5 l6 = if ((((60 * l1) + l2) + l6) : Int32) < 0 ∨ 240 ≤ Int32.toNatClampNeg (((60 * l1) + l2) + l6) then none else if (l6 : Int32) < 0 ∨ 60 ≤ Int32.toNatClampNeg l6 then none else zv_X10_paste_M_118 I (zm_wl J 4 (Int32.toNatClampNeg l6) (J 3 (Int32.toNatClampNeg (((60 * l1) + l2) + l6)))) l1 l2 l3 l4 l5 (l6 + 1) := (zm_V_eq _ _ _).trans ((fun (k : zm_S → zm_R) => (rfl : zm_step zT_X10_paste zW_M k (125, [some (.ref 0), some (.int l1), some (.int l2), some (.int l3), some (.int l4), some (.int l5), some (.int l6)], [], (I, J)) = if ((((60 * l1) + l2) + l6) : Int32) < 0 ∨ 240 ≤ Int32.toNatClampNeg (((60 * l1) + l2) + l6) then none else if (l6 : Int32) < 0 ∨ 60 ≤ Int32.toNatClampNeg l6 then none else k (118, [some (.ref 0), some (.int l1), some (.int l2), some (.int l3), some (.int l4), some (.int l5), some (.int (l6 + 1))], [], (I, (zm_wl J 4 (Int32.toNatClampNeg l6) (J 3 (Int32.toNatClampNeg (((60 * l1) + l2) + l6)))))))) (zm_V zT_X10_paste zW_M))
set_option maxRecDepth 20000 in
theorem zq_X10_paste_M_152 (I : Nat → Nat → Int32) (J : Nat → Nat → Int64) (l1 : Int32) (l2 : Int32) (l3 : Int32) (l4 : Int32) (l5 : Int32) (l6 : Int32) : zv_X10_paste_M_152 I J l1 l2 l3 l4 l5 l6 = zv_X10_paste_M_155 I J l1 l2 l3 l4 l5 0 := (zm_V_eq _ _ _).trans ((fun (k : zm_S → zm_R) => (rfl : zm_step zT_X10_paste zW_M k (152, [some (.ref 0), some (.int l1), some (.int l2), some (.int l3), some (.int l4), some (.int l5), some (.int l6)], [], (I, J)) = k (155, [some (.ref 0), some (.int l1), some (.int l2), some (.int l3), some (.int l4), some (.int l5), some (.int 0)], [], (I, J)))) (zm_V zT_X10_paste zW_M))
set_option maxRecDepth 20000 in
theorem zq_X10_paste_M_155 (I : Nat → Nat → Int32) (J : Nat → Nat → Int64) (l1 : Int32) (l2 : Int32) (l3 : Int32) (l4 : Int32) (l5 : Int32) (l6 : Int32) : zv_X10_paste_M_155 I J l1 l2 l3 l4 l5 l6 = if l5 ≤ l6 then zv_X10_paste_M_190 I J l1 l2 l3 l4 l5 l6 else zv_X10_paste_M_162 I J l1 l2 l3 l4 l5 l6 := (zm_V_eq _ _ _).trans ((fun (k : zm_S → zm_R) => (rfl : zm_step zT_X10_paste zW_M k (155, [some (.ref 0), some (.int l1), some (.int l2), some (.int l3), some (.int l4), some (.int l5), some (.int l6)], [], (I, J)) = if l5 ≤ l6 then k (190, [some (.ref 0), some (.int l1), some (.int l2), some (.int l3), some (.int l4), some (.int l5), some (.int l6)], [], (I, J)) else k (162, [some (.ref 0), some (.int l1), some (.int l2), some (.int l3), some (.int l4), some (.int l5), some (.int l6)], [], (I, J)))) (zm_V zT_X10_paste zW_M))
set_option maxRecDepth 20000 in
theorem zq_X10_paste_M_162 (I : Nat → Nat → Int32) (J : Nat → Nat → Int64) (l1 : Int32) (l2 : Int32) (l3 : Int32) (l4 : Int32) (l5 : Int32) (l6 : Int32) : zv_X10_paste_M_162 I J l1 l2 l3 l4 l5 l6 = if (l6 : Int32) < 0 ∨ 60 ≤ Int32.toNatClampNeg l6 then none else if ((((60 * l3) + l4) + l6) : Int32) < 0 ∨ 240 ≤ Int32.toNatClampNeg (((60 * l3) + l4) + l6) then none else zv_X10_paste_M_155 I (zm_wl J 3 (Int32.toNatClampNeg (((60 * l3) + l4) + l6)) (J 4 (Int32.toNatClampNeg l6))) l1 l2 l3 l4 l5 (l6 + 1) := (zm_V_eq _ _ _).trans ((fun (k : zm_S → zm_R) => (rfl : zm_step zT_X10_paste zW_M k (162, [some (.ref 0), some (.int l1), some (.int l2), some (.int l3), some (.int l4), some (.int l5), some (.int l6)], [], (I, J)) = if (l6 : Int32) < 0 ∨ 60 ≤ Int32.toNatClampNeg l6 then none else if ((((60 * l3) + l4) + l6) : Int32) < 0 ∨ 240 ≤ Int32.toNatClampNeg (((60 * l3) + l4) + l6) then none else k (155, [some (.ref 0), some (.int l1), some (.int l2), some (.int l3), some (.int l4), some (.int l5), some (.int (l6 + 1))], [], (I, (zm_wl J 3 (Int32.toNatClampNeg (((60 * l3) + l4) + l6)) (J 4 (Int32.toNatClampNeg l6))))))) (zm_V zT_X10_paste zW_M))
set_option maxRecDepth 20000 in
theorem zq_X10_paste_M_190 (I : Nat → Nat → Int32) (J : Nat → Nat → Int64) (l1 : Int32) (l2 : Int32) (l3 : Int32) (l4 : Int32) (l5 : Int32) (l6 : Int32) : zv_X10_paste_M_190 I J l1 l2 l3 l4 l5 l6 = some (some (.int 0), (I, J)) := (zm_V_eq _ _ _).trans ((fun (k : zm_S → zm_R) => (rfl : zm_step zT_X10_paste zW_M k (190, [some (.ref 0), some (.int l1), some (.int l2), some (.int l3), some (.int l4), some (.int l5), some (.int l6)], [], (I, J)) = some (some (.int 0), (I, J)))) (zm_V zT_X10_paste zW_M))
theorem zf_X10_paste_M (I : Nat → Nat → Int32) (J : Nat → Nat → Int64) (l1 : Int32) (l2 : Int32) (l3 : Int32) (l4 : Int32) (l5 : Int32) : zF_X10_paste zW_M [.ref 0, .int l1, .int l2, .int l3, .int l4, .int l5] (I, J) = zv_X10_paste_M_0 I J l1 l2 l3 l4 l5 := rfl
noncomputable def zv_X10_next_M_0 (I : Nat → Nat → Int32) (J : Nat → Nat → Int64) : zm_R := zm_V zT_X10_next zW_M (0, [some (.ref 0), none], [], (I, J))
noncomputable def zv_X10_next_M_12 (I : Nat → Nat → Int32) (J : Nat → Nat → Int64) (s0 : Int32) : zm_R := zm_V zT_X10_next zW_M (12, [some (.ref 0), none], [.int s0], (I, J))
noncomputable def zv_X10_next_M_15 (I : Nat → Nat → Int32) (J : Nat → Nat → Int64) : zm_R := zm_V zT_X10_next zW_M (15, [some (.ref 0), none], [], (I, J))
noncomputable def zv_X10_next_M_27 (I : Nat → Nat → Int32) (J : Nat → Nat → Int64) (s0 : Int32) : zm_R := zm_V zT_X10_next zW_M (27, [some (.ref 0), none], [.int s0], (I, J))
noncomputable def zv_X10_next_M_30 (I : Nat → Nat → Int32) (J : Nat → Nat → Int64) : zm_R := zm_V zT_X10_next zW_M (30, [some (.ref 0), none], [], (I, J))
noncomputable def zv_X10_next_M_43 (I : Nat → Nat → Int32) (J : Nat → Nat → Int64) : zm_R := zm_V zT_X10_next zW_M (43, [some (.ref 0), none], [], (I, J))
noncomputable def zv_X10_next_M_72 (I : Nat → Nat → Int32) (J : Nat → Nat → Int64) : zm_R := zm_V zT_X10_next zW_M (72, [some (.ref 0), none], [], (I, J))
noncomputable def zv_X10_next_M_80 (I : Nat → Nat → Int32) (J : Nat → Nat → Int64) : zm_R := zm_V zT_X10_next zW_M (80, [some (.ref 0), none], [], (I, J))
noncomputable def zv_X10_next_M_92 (I : Nat → Nat → Int32) (J : Nat → Nat → Int64) (s0 : Int32) : zm_R := zm_V zT_X10_next zW_M (92, [some (.ref 0), none], [.int s0], (I, J))
noncomputable def zv_X10_next_M_95 (I : Nat → Nat → Int32) (J : Nat → Nat → Int64) : zm_R := zm_V zT_X10_next zW_M (95, [some (.ref 0), none], [], (I, J))
noncomputable def zv_X10_next_M_102 (I : Nat → Nat → Int32) (J : Nat → Nat → Int64) (l1 : Int32) : zm_R := zm_V zT_X10_next zW_M (102, [some (.ref 0), some (.int l1)], [], (I, J))
noncomputable def zv_X10_next_M_114 (I : Nat → Nat → Int32) (J : Nat → Nat → Int64) (l1 : Int32) (s0 : Int32) : zm_R := zm_V zT_X10_next zW_M (114, [some (.ref 0), some (.int l1)], [.int s0], (I, J))
noncomputable def zv_X10_next_M_117 (I : Nat → Nat → Int32) (J : Nat → Nat → Int64) (l1 : Int32) : zm_R := zm_V zT_X10_next zW_M (117, [some (.ref 0), some (.int l1)], [], (I, J))
noncomputable def zv_X10_next_M_124 (I : Nat → Nat → Int32) (J : Nat → Nat → Int64) (l1 : Int32) : zm_R := zm_V zT_X10_next zW_M (124, [some (.ref 0), some (.int l1)], [.ref 0], (I, J))
noncomputable def zv_X10_next_M_130 (I : Nat → Nat → Int32) (J : Nat → Nat → Int64) (l1 : Int32) : zm_R := zm_V zT_X10_next zW_M (130, [some (.ref 0), some (.int l1)], [.ref 0], (I, J))
noncomputable def zv_X10_next_M_153 (I : Nat → Nat → Int32) (J : Nat → Nat → Int64) (l1 : Int32) (s0 : Int64) : zm_R := zm_V zT_X10_next zW_M (153, [some (.ref 0), some (.int l1)], [.long s0, .ref 0], (I, J))
noncomputable def zv_X10_next_M_162 (I : Nat → Nat → Int32) (J : Nat → Nat → Int64) (l1 : Int32) : zm_R := zm_V zT_X10_next zW_M (162, [some (.ref 0), some (.int l1)], [], (I, J))
noncomputable def zv_X10_next_M_169 (I : Nat → Nat → Int32) (J : Nat → Nat → Int64) (l1 : Int32) : zm_R := zm_V zT_X10_next zW_M (169, [some (.ref 0), some (.int l1)], [], (I, J))
noncomputable def zv_X10_next_M_185 (I : Nat → Nat → Int32) (J : Nat → Nat → Int64) (l1 : Int32) : zm_R := zm_V zT_X10_next zW_M (185, [some (.ref 0), some (.int l1)], [], (I, J))
noncomputable def zv_X10_next_M_188 (I : Nat → Nat → Int32) (J : Nat → Nat → Int64) : zm_R := zm_V zT_X10_next zW_M (188, [some (.ref 0), none], [], (I, J))
noncomputable def zv_X10_next_M_200 (I : Nat → Nat → Int32) (J : Nat → Nat → Int64) (s0 : Int32) : zm_R := zm_V zT_X10_next zW_M (200, [some (.ref 0), none], [.int s0], (I, J))
noncomputable def zv_X10_next_M_203 (I : Nat → Nat → Int32) (J : Nat → Nat → Int64) : zm_R := zm_V zT_X10_next zW_M (203, [some (.ref 0), none], [], (I, J))
noncomputable def zv_X10_next_M_208 (I : Nat → Nat → Int32) (J : Nat → Nat → Int64) : zm_R := zm_V zT_X10_next zW_M (208, [some (.ref 0), none], [], (I, J))
noncomputable def zv_X10_next_M_220 (I : Nat → Nat → Int32) (J : Nat → Nat → Int64) (s0 : Int32) : zm_R := zm_V zT_X10_next zW_M (220, [some (.ref 0), none], [.int s0], (I, J))
noncomputable def zv_X10_next_M_223 (I : Nat → Nat → Int32) (J : Nat → Nat → Int64) : zm_R := zm_V zT_X10_next zW_M (223, [some (.ref 0), none], [], (I, J))
noncomputable def zv_X10_next_M_233 (I : Nat → Nat → Int32) (J : Nat → Nat → Int64) : zm_R := zm_V zT_X10_next zW_M (233, [some (.ref 0), none], [.ref 0], (I, J))
noncomputable def zv_X10_next_M_238 (I : Nat → Nat → Int32) (J : Nat → Nat → Int64) : zm_R := zm_V zT_X10_next zW_M (238, [some (.ref 0), none], [.ref 0], (I, J))
noncomputable def zv_X10_next_M_258 (I : Nat → Nat → Int32) (J : Nat → Nat → Int64) (s0 : Int32) : zm_R := zm_V zT_X10_next zW_M (258, [some (.ref 0), none], [.int s0, .ref 0], (I, J))
noncomputable def zv_X10_next_M_274 (I : Nat → Nat → Int32) (J : Nat → Nat → Int64) : zm_R := zm_V zT_X10_next zW_M (274, [some (.ref 0), none], [], (I, J))
noncomputable def zv_X10_next_M_289 (I : Nat → Nat → Int32) (J : Nat → Nat → Int64) : zm_R := zm_V zT_X10_next zW_M (289, [some (.ref 0), none], [.ref 0], (I, J))
noncomputable def zv_X10_next_M_293 (I : Nat → Nat → Int32) (J : Nat → Nat → Int64) : zm_R := zm_V zT_X10_next zW_M (293, [some (.ref 0), none], [.ref 0], (I, J))
noncomputable def zv_X10_next_M_294 (I : Nat → Nat → Int32) (J : Nat → Nat → Int64) (s0 : Int32) : zm_R := zm_V zT_X10_next zW_M (294, [some (.ref 0), none], [.int s0, .ref 0], (I, J))
noncomputable def zv_X10_next_M_307 (I : Nat → Nat → Int32) (J : Nat → Nat → Int64) (l1 : Option Value) : zm_R := zm_V zT_X10_next zW_M (307, [some (.ref 0), l1], [], (I, J))
set_option maxRecDepth 20000 in
theorem zc_X10_next_M_0 (I : Nat → Nat → Int32) (J : Nat → Nat → Int64) {I2 : Nat → Nat → Int32} {J2 : Nat → Nat → Int64} {r : Int32} (hF : zF_X10_isByte zW_M [.ref 0, .int (I 0 7), .int 32, .int 32] (I, J) = some (some (.int r), (I2, J2))) : zv_X10_next_M_0 I J = zv_X10_next_M_12 I2 J2 r := by
  have e : ∀ k : zm_S → zm_R, zm_step zT_X10_next zW_M k (0, [some (.ref 0), none], [], (I, J)) = zm_app (4, some 10, true, [], zF_X10_isByte) zW_M [.ref 0, .int (I 0 7), .int 32, .int 32] (I, J) (fun v N => k (12, [some (.ref 0), none], v.toList ++ [], N)) := fun k => rfl
  have g := zm_app_s (C := (4, some 10, true, [], zF_X10_isByte)) (wl := zW_M) (as := [.ref 0, .int (I 0 7), .int 32, .int 32]) (M := (I, J)) (k := fun v N => zm_V zT_X10_next zW_M (12, [some (.ref 0), none], v.toList ++ [], N)) rfl rfl hF
  exact (zm_V_eq _ _ _).trans ((e _).trans g)
set_option maxRecDepth 20000 in
theorem zq_X10_next_M_12 (I : Nat → Nat → Int32) (J : Nat → Nat → Int64) (s0 : Int32) : zv_X10_next_M_12 I J s0 = if s0 = 0 then zv_X10_next_M_15 I J else zv_X10_next_M_30 I J := (zm_V_eq _ _ _).trans ((fun (k : zm_S → zm_R) => (rfl : zm_step zT_X10_next zW_M k (12, [some (.ref 0), none], [.int s0], (I, J)) = if s0 = 0 then k (15, [some (.ref 0), none], [], (I, J)) else k (30, [some (.ref 0), none], [], (I, J)))) (zm_V zT_X10_next zW_M))
set_option maxRecDepth 20000 in
theorem zc_X10_next_M_15 (I : Nat → Nat → Int32) (J : Nat → Nat → Int64) {I2 : Nat → Nat → Int32} {J2 : Nat → Nat → Int64} {r : Int32} (hF : zF_X10_isByte zW_M [.ref 0, .int (I 0 7), .int 10, .int 10] (I, J) = some (some (.int r), (I2, J2))) : zv_X10_next_M_15 I J = zv_X10_next_M_27 I2 J2 r := by
  have e : ∀ k : zm_S → zm_R, zm_step zT_X10_next zW_M k (15, [some (.ref 0), none], [], (I, J)) = zm_app (4, some 10, true, [], zF_X10_isByte) zW_M [.ref 0, .int (I 0 7), .int 10, .int 10] (I, J) (fun v N => k (27, [some (.ref 0), none], v.toList ++ [], N)) := fun k => rfl
  have g := zm_app_s (C := (4, some 10, true, [], zF_X10_isByte)) (wl := zW_M) (as := [.ref 0, .int (I 0 7), .int 10, .int 10]) (M := (I, J)) (k := fun v N => zm_V zT_X10_next zW_M (27, [some (.ref 0), none], v.toList ++ [], N)) rfl rfl hF
  exact (zm_V_eq _ _ _).trans ((e _).trans g)
set_option maxRecDepth 20000 in
theorem zq_X10_next_M_27 (I : Nat → Nat → Int32) (J : Nat → Nat → Int64) (s0 : Int32) : zv_X10_next_M_27 I J s0 = if s0 = 0 then zv_X10_next_M_43 I J else zv_X10_next_M_30 I J := (zm_V_eq _ _ _).trans ((fun (k : zm_S → zm_R) => (rfl : zm_step zT_X10_next zW_M k (27, [some (.ref 0), none], [.int s0], (I, J)) = if s0 = 0 then k (43, [some (.ref 0), none], [], (I, J)) else k (30, [some (.ref 0), none], [], (I, J)))) (zm_V zT_X10_next zW_M))
set_option maxRecDepth 20000 in
theorem zq_X10_next_M_30 (I : Nat → Nat → Int32) (J : Nat → Nat → Int64) : zv_X10_next_M_30 I J = zv_X10_next_M_0 (zm_w I 0 7 ((I 0 7) + 1)) J := (zm_V_eq _ _ _).trans ((fun (k : zm_S → zm_R) => (rfl : zm_step zT_X10_next zW_M k (30, [some (.ref 0), none], [], (I, J)) = k (0, [some (.ref 0), none], [], ((zm_w I 0 7 ((I 0 7) + 1)), J)))) (zm_V zT_X10_next zW_M))
set_option maxRecDepth 20000 in
theorem zq_X10_next_M_43 (I : Nat → Nat → Int32) (J : Nat → Nat → Int64) : zv_X10_next_M_43 I J = if ((zm_w (zm_w I 0 9 (I 0 7)) 0 10 0) 0 7) = ((zm_w (zm_w I 0 9 (I 0 7)) 0 10 0) 0 6) then zv_X10_next_M_72 (zm_w (zm_w I 0 9 (I 0 7)) 0 10 0) (zm_wl J 0 11 0) else zv_X10_next_M_80 (zm_w (zm_w I 0 9 (I 0 7)) 0 10 0) (zm_wl J 0 11 0) := (zm_V_eq _ _ _).trans ((fun (k : zm_S → zm_R) => (rfl : zm_step zT_X10_next zW_M k (43, [some (.ref 0), none], [], (I, J)) = if ((zm_w (zm_w I 0 9 (I 0 7)) 0 10 0) 0 7) = ((zm_w (zm_w I 0 9 (I 0 7)) 0 10 0) 0 6) then k (72, [some (.ref 0), none], [], ((zm_w (zm_w I 0 9 (I 0 7)) 0 10 0), (zm_wl J 0 11 0))) else k (80, [some (.ref 0), none], [], ((zm_w (zm_w I 0 9 (I 0 7)) 0 10 0), (zm_wl J 0 11 0))))) (zm_V zT_X10_next zW_M))
set_option maxRecDepth 20000 in
theorem zq_X10_next_M_72 (I : Nat → Nat → Int32) (J : Nat → Nat → Int64) : zv_X10_next_M_72 I J = zv_X10_next_M_307 (zm_w I 0 8 0) J none := (zm_V_eq _ _ _).trans ((fun (k : zm_S → zm_R) => (rfl : zm_step zT_X10_next zW_M k (72, [some (.ref 0), none], [], (I, J)) = k (307, [some (.ref 0), none], [], ((zm_w I 0 8 0), J)))) (zm_V zT_X10_next zW_M))
set_option maxRecDepth 20000 in
theorem zc_X10_next_M_80 (I : Nat → Nat → Int32) (J : Nat → Nat → Int64) {I2 : Nat → Nat → Int32} {J2 : Nat → Nat → Int64} {r : Int32} (hF : zF_X10_isByte zW_M [.ref 0, .int (I 0 7), .int 97, .int 122] (I, J) = some (some (.int r), (I2, J2))) : zv_X10_next_M_80 I J = zv_X10_next_M_92 I2 J2 r := by
  have e : ∀ k : zm_S → zm_R, zm_step zT_X10_next zW_M k (80, [some (.ref 0), none], [], (I, J)) = zm_app (4, some 10, true, [], zF_X10_isByte) zW_M [.ref 0, .int (I 0 7), .int 97, .int 122] (I, J) (fun v N => k (92, [some (.ref 0), none], v.toList ++ [], N)) := fun k => rfl
  have g := zm_app_s (C := (4, some 10, true, [], zF_X10_isByte)) (wl := zW_M) (as := [.ref 0, .int (I 0 7), .int 97, .int 122]) (M := (I, J)) (k := fun v N => zm_V zT_X10_next zW_M (92, [some (.ref 0), none], v.toList ++ [], N)) rfl rfl hF
  exact (zm_V_eq _ _ _).trans ((e _).trans g)
set_option maxRecDepth 20000 in
theorem zq_X10_next_M_92 (I : Nat → Nat → Int32) (J : Nat → Nat → Int64) (s0 : Int32) : zv_X10_next_M_92 I J s0 = if s0 = 0 then zv_X10_next_M_188 I J else zv_X10_next_M_95 I J := (zm_V_eq _ _ _).trans ((fun (k : zm_S → zm_R) => (rfl : zm_step zT_X10_next zW_M k (92, [some (.ref 0), none], [.int s0], (I, J)) = if s0 = 0 then k (188, [some (.ref 0), none], [], (I, J)) else k (95, [some (.ref 0), none], [], (I, J)))) (zm_V zT_X10_next zW_M))
set_option maxRecDepth 20000 in
theorem zq_X10_next_M_95 (I : Nat → Nat → Int32) (J : Nat → Nat → Int64) : zv_X10_next_M_95 I J = zv_X10_next_M_102 (zm_w I 0 8 1) J 0 := (zm_V_eq _ _ _).trans ((fun (k : zm_S → zm_R) => (rfl : zm_step zT_X10_next zW_M k (95, [some (.ref 0), none], [], (I, J)) = k (102, [some (.ref 0), some (.int 0)], [], ((zm_w I 0 8 1), J)))) (zm_V zT_X10_next zW_M))
set_option maxRecDepth 20000 in
theorem zc_X10_next_M_102 (I : Nat → Nat → Int32) (J : Nat → Nat → Int64) (l1 : Int32) {I2 : Nat → Nat → Int32} {J2 : Nat → Nat → Int64} {r : Int32} (hF : zF_X10_isByte zW_M [.ref 0, .int (I 0 7), .int 97, .int 122] (I, J) = some (some (.int r), (I2, J2))) : zv_X10_next_M_102 I J l1 = zv_X10_next_M_114 I2 J2 l1 r := by
  have e : ∀ k : zm_S → zm_R, zm_step zT_X10_next zW_M k (102, [some (.ref 0), some (.int l1)], [], (I, J)) = zm_app (4, some 10, true, [], zF_X10_isByte) zW_M [.ref 0, .int (I 0 7), .int 97, .int 122] (I, J) (fun v N => k (114, [some (.ref 0), some (.int l1)], v.toList ++ [], N)) := fun k => rfl
  have g := zm_app_s (C := (4, some 10, true, [], zF_X10_isByte)) (wl := zW_M) (as := [.ref 0, .int (I 0 7), .int 97, .int 122]) (M := (I, J)) (k := fun v N => zm_V zT_X10_next zW_M (114, [some (.ref 0), some (.int l1)], v.toList ++ [], N)) rfl rfl hF
  exact (zm_V_eq _ _ _).trans ((e _).trans g)
set_option maxRecDepth 20000 in
theorem zq_X10_next_M_114 (I : Nat → Nat → Int32) (J : Nat → Nat → Int64) (l1 : Int32) (s0 : Int32) : zv_X10_next_M_114 I J l1 s0 = if s0 = 0 then zv_X10_next_M_185 I J l1 else zv_X10_next_M_117 I J l1 := (zm_V_eq _ _ _).trans ((fun (k : zm_S → zm_R) => (rfl : zm_step zT_X10_next zW_M k (114, [some (.ref 0), some (.int l1)], [.int s0], (I, J)) = if s0 = 0 then k (185, [some (.ref 0), some (.int l1)], [], (I, J)) else k (117, [some (.ref 0), some (.int l1)], [], (I, J)))) (zm_V zT_X10_next zW_M))
set_option maxRecDepth 20000 in
theorem zq_X10_next_M_117 (I : Nat → Nat → Int32) (J : Nat → Nat → Int64) (l1 : Int32) : zv_X10_next_M_117 I J l1 = if l1 ≤ 11 then zv_X10_next_M_130 I J l1 else zv_X10_next_M_124 I J l1 := (zm_V_eq _ _ _).trans ((fun (k : zm_S → zm_R) => (rfl : zm_step zT_X10_next zW_M k (117, [some (.ref 0), some (.int l1)], [], (I, J)) = if l1 ≤ 11 then k (130, [some (.ref 0), some (.int l1)], [.ref 0], (I, J)) else k (124, [some (.ref 0), some (.int l1)], [.ref 0], (I, J)))) (zm_V zT_X10_next zW_M))
set_option maxRecDepth 20000 in
theorem zq_X10_next_M_124 (I : Nat → Nat → Int32) (J : Nat → Nat → Int64) (l1 : Int32) : zv_X10_next_M_124 I J l1 = zv_X10_next_M_153 I J l1 (-1) := (zm_V_eq _ _ _).trans ((fun (k : zm_S → zm_R) => (rfl : zm_step zT_X10_next zW_M k (124, [some (.ref 0), some (.int l1)], [.ref 0], (I, J)) = k (153, [some (.ref 0), some (.int l1)], [.long (-1), .ref 0], (I, J)))) (zm_V zT_X10_next zW_M))
set_option maxRecDepth 20000 in
theorem zq_X10_next_M_130 (I : Nat → Nat → Int32) (J : Nat → Nat → Int64) (l1 : Int32) : zv_X10_next_M_130 I J l1 = if ((I 0 7) : Int32) < 0 ∨ 800 ≤ Int32.toNatClampNeg (I 0 7) then none else zv_X10_next_M_153 I J l1 ((((27) * (J 0 11)) + (Int32.toInt64 (I 5 (Int32.toNatClampNeg (I 0 7))))) - (96)) := (zm_V_eq _ _ _).trans ((fun (k : zm_S → zm_R) => (rfl : zm_step zT_X10_next zW_M k (130, [some (.ref 0), some (.int l1)], [.ref 0], (I, J)) = if ((I 0 7) : Int32) < 0 ∨ 800 ≤ Int32.toNatClampNeg (I 0 7) then none else k (153, [some (.ref 0), some (.int l1)], [.long ((((27) * (J 0 11)) + (Int32.toInt64 (I 5 (Int32.toNatClampNeg (I 0 7))))) - (96)), .ref 0], (I, J)))) (zm_V zT_X10_next zW_M))
set_option maxRecDepth 20000 in
theorem zq_X10_next_M_153 (I : Nat → Nat → Int32) (J : Nat → Nat → Int64) (l1 : Int32) (s0 : Int64) : zv_X10_next_M_153 I J l1 s0 = if l1 ≤ 11 then zv_X10_next_M_169 I (zm_wl J 0 11 s0) l1 else zv_X10_next_M_162 I (zm_wl J 0 11 s0) l1 := (zm_V_eq _ _ _).trans ((fun (k : zm_S → zm_R) => (rfl : zm_step zT_X10_next zW_M k (153, [some (.ref 0), some (.int l1)], [.long s0, .ref 0], (I, J)) = if l1 ≤ 11 then k (169, [some (.ref 0), some (.int l1)], [], (I, (zm_wl J 0 11 s0))) else k (162, [some (.ref 0), some (.int l1)], [], (I, (zm_wl J 0 11 s0))))) (zm_V zT_X10_next zW_M))
set_option maxRecDepth 20000 in
theorem zq_X10_next_M_162 (I : Nat → Nat → Int32) (J : Nat → Nat → Int64) (l1 : Int32) : zv_X10_next_M_162 I J l1 = zv_X10_next_M_169 I (zm_wl J 0 11 (-1)) l1 := (zm_V_eq _ _ _).trans ((fun (k : zm_S → zm_R) => (rfl : zm_step zT_X10_next zW_M k (162, [some (.ref 0), some (.int l1)], [], (I, J)) = k (169, [some (.ref 0), some (.int l1)], [], (I, (zm_wl J 0 11 (-1)))))) (zm_V zT_X10_next zW_M))
set_option maxRecDepth 20000 in
theorem zq_X10_next_M_169 (I : Nat → Nat → Int32) (J : Nat → Nat → Int64) (l1 : Int32) : zv_X10_next_M_169 I J l1 = zv_X10_next_M_102 (zm_w I 0 7 ((I 0 7) + 1)) J (l1 + 1) := (zm_V_eq _ _ _).trans ((fun (k : zm_S → zm_R) => (rfl : zm_step zT_X10_next zW_M k (169, [some (.ref 0), some (.int l1)], [], (I, J)) = k (102, [some (.ref 0), some (.int (l1 + 1))], [], ((zm_w I 0 7 ((I 0 7) + 1)), J)))) (zm_V zT_X10_next zW_M))
set_option maxRecDepth 20000 in
theorem zq_X10_next_M_185 (I : Nat → Nat → Int32) (J : Nat → Nat → Int64) (l1 : Int32) : zv_X10_next_M_185 I J l1 = zv_X10_next_M_307 I J (some (.int l1)) := (zm_V_eq _ _ _).trans ((fun (k : zm_S → zm_R) => (rfl : zm_step zT_X10_next zW_M k (185, [some (.ref 0), some (.int l1)], [], (I, J)) = k (307, [some (.ref 0), some (.int l1)], [], (I, J)))) (zm_V zT_X10_next zW_M))
set_option maxRecDepth 20000 in
theorem zc_X10_next_M_188 (I : Nat → Nat → Int32) (J : Nat → Nat → Int64) {I2 : Nat → Nat → Int32} {J2 : Nat → Nat → Int64} {r : Int32} (hF : zF_X10_isByte zW_M [.ref 0, .int (I 0 7), .int 48, .int 57] (I, J) = some (some (.int r), (I2, J2))) : zv_X10_next_M_188 I J = zv_X10_next_M_200 I2 J2 r := by
  have e : ∀ k : zm_S → zm_R, zm_step zT_X10_next zW_M k (188, [some (.ref 0), none], [], (I, J)) = zm_app (4, some 10, true, [], zF_X10_isByte) zW_M [.ref 0, .int (I 0 7), .int 48, .int 57] (I, J) (fun v N => k (200, [some (.ref 0), none], v.toList ++ [], N)) := fun k => rfl
  have g := zm_app_s (C := (4, some 10, true, [], zF_X10_isByte)) (wl := zW_M) (as := [.ref 0, .int (I 0 7), .int 48, .int 57]) (M := (I, J)) (k := fun v N => zm_V zT_X10_next zW_M (200, [some (.ref 0), none], v.toList ++ [], N)) rfl rfl hF
  exact (zm_V_eq _ _ _).trans ((e _).trans g)
set_option maxRecDepth 20000 in
theorem zq_X10_next_M_200 (I : Nat → Nat → Int32) (J : Nat → Nat → Int64) (s0 : Int32) : zv_X10_next_M_200 I J s0 = if s0 = 0 then zv_X10_next_M_274 I J else zv_X10_next_M_203 I J := (zm_V_eq _ _ _).trans ((fun (k : zm_S → zm_R) => (rfl : zm_step zT_X10_next zW_M k (200, [some (.ref 0), none], [.int s0], (I, J)) = if s0 = 0 then k (274, [some (.ref 0), none], [], (I, J)) else k (203, [some (.ref 0), none], [], (I, J)))) (zm_V zT_X10_next zW_M))
set_option maxRecDepth 20000 in
theorem zq_X10_next_M_203 (I : Nat → Nat → Int32) (J : Nat → Nat → Int64) : zv_X10_next_M_203 I J = zv_X10_next_M_208 (zm_w I 0 8 2) J := (zm_V_eq _ _ _).trans ((fun (k : zm_S → zm_R) => (rfl : zm_step zT_X10_next zW_M k (203, [some (.ref 0), none], [], (I, J)) = k (208, [some (.ref 0), none], [], ((zm_w I 0 8 2), J)))) (zm_V zT_X10_next zW_M))
set_option maxRecDepth 20000 in
theorem zc_X10_next_M_208 (I : Nat → Nat → Int32) (J : Nat → Nat → Int64) {I2 : Nat → Nat → Int32} {J2 : Nat → Nat → Int64} {r : Int32} (hF : zF_X10_isByte zW_M [.ref 0, .int (I 0 7), .int 48, .int 57] (I, J) = some (some (.int r), (I2, J2))) : zv_X10_next_M_208 I J = zv_X10_next_M_220 I2 J2 r := by
  have e : ∀ k : zm_S → zm_R, zm_step zT_X10_next zW_M k (208, [some (.ref 0), none], [], (I, J)) = zm_app (4, some 10, true, [], zF_X10_isByte) zW_M [.ref 0, .int (I 0 7), .int 48, .int 57] (I, J) (fun v N => k (220, [some (.ref 0), none], v.toList ++ [], N)) := fun k => rfl
  have g := zm_app_s (C := (4, some 10, true, [], zF_X10_isByte)) (wl := zW_M) (as := [.ref 0, .int (I 0 7), .int 48, .int 57]) (M := (I, J)) (k := fun v N => zm_V zT_X10_next zW_M (220, [some (.ref 0), none], v.toList ++ [], N)) rfl rfl hF
  exact (zm_V_eq _ _ _).trans ((e _).trans g)
set_option maxRecDepth 20000 in
theorem zq_X10_next_M_220 (I : Nat → Nat → Int32) (J : Nat → Nat → Int64) (s0 : Int32) : zv_X10_next_M_220 I J s0 = if s0 = 0 then zv_X10_next_M_307 I J none else zv_X10_next_M_223 I J := (zm_V_eq _ _ _).trans ((fun (k : zm_S → zm_R) => (rfl : zm_step zT_X10_next zW_M k (220, [some (.ref 0), none], [.int s0], (I, J)) = if s0 = 0 then k (307, [some (.ref 0), none], [], (I, J)) else k (223, [some (.ref 0), none], [], (I, J)))) (zm_V zT_X10_next zW_M))
set_option maxRecDepth 20000 in
theorem zq_X10_next_M_223 (I : Nat → Nat → Int32) (J : Nat → Nat → Int64) : zv_X10_next_M_223 I J = if (I 0 10) ≤ (100000) then zv_X10_next_M_238 I J else zv_X10_next_M_233 I J := (zm_V_eq _ _ _).trans ((fun (k : zm_S → zm_R) => (rfl : zm_step zT_X10_next zW_M k (223, [some (.ref 0), none], [], (I, J)) = if (I 0 10) ≤ (100000) then k (238, [some (.ref 0), none], [.ref 0], (I, J)) else k (233, [some (.ref 0), none], [.ref 0], (I, J)))) (zm_V zT_X10_next zW_M))
set_option maxRecDepth 20000 in
theorem zq_X10_next_M_233 (I : Nat → Nat → Int32) (J : Nat → Nat → Int64) : zv_X10_next_M_233 I J = zv_X10_next_M_258 I J (1000000) := (zm_V_eq _ _ _).trans ((fun (k : zm_S → zm_R) => (rfl : zm_step zT_X10_next zW_M k (233, [some (.ref 0), none], [.ref 0], (I, J)) = k (258, [some (.ref 0), none], [.int (1000000), .ref 0], (I, J)))) (zm_V zT_X10_next zW_M))
set_option maxRecDepth 20000 in
theorem zq_X10_next_M_238 (I : Nat → Nat → Int32) (J : Nat → Nat → Int64) : zv_X10_next_M_238 I J = if ((I 0 7) : Int32) < 0 ∨ 800 ≤ Int32.toNatClampNeg (I 0 7) then none else zv_X10_next_M_258 I J (((10 * (I 0 10)) + (I 5 (Int32.toNatClampNeg (I 0 7)))) - 48) := (zm_V_eq _ _ _).trans ((fun (k : zm_S → zm_R) => (rfl : zm_step zT_X10_next zW_M k (238, [some (.ref 0), none], [.ref 0], (I, J)) = if ((I 0 7) : Int32) < 0 ∨ 800 ≤ Int32.toNatClampNeg (I 0 7) then none else k (258, [some (.ref 0), none], [.int (((10 * (I 0 10)) + (I 5 (Int32.toNatClampNeg (I 0 7)))) - 48), .ref 0], (I, J)))) (zm_V zT_X10_next zW_M))
set_option maxRecDepth 20000 in
theorem zq_X10_next_M_258 (I : Nat → Nat → Int32) (J : Nat → Nat → Int64) (s0 : Int32) : zv_X10_next_M_258 I J s0 = zv_X10_next_M_208 (zm_w (zm_w I 0 10 s0) 0 7 (((zm_w I 0 10 s0) 0 7) + 1)) J := (zm_V_eq _ _ _).trans ((fun (k : zm_S → zm_R) => (rfl : zm_step zT_X10_next zW_M k (258, [some (.ref 0), none], [.int s0, .ref 0], (I, J)) = k (208, [some (.ref 0), none], [], ((zm_w (zm_w I 0 10 s0) 0 7 (((zm_w I 0 10 s0) 0 7) + 1)), J)))) (zm_V zT_X10_next zW_M))
set_option maxRecDepth 20000 in
theorem zq_X10_next_M_274 (I : Nat → Nat → Int32) (J : Nat → Nat → Int64) : zv_X10_next_M_274 I J = if ((I 0 7) : Int32) < 0 ∨ 800 ≤ Int32.toNatClampNeg (I 0 7) then none else if (I 5 (Int32.toNatClampNeg (I 0 7))) = 59 then zv_X10_next_M_289 I J else zv_X10_next_M_293 I J := (zm_V_eq _ _ _).trans ((fun (k : zm_S → zm_R) => (rfl : zm_step zT_X10_next zW_M k (274, [some (.ref 0), none], [], (I, J)) = if ((I 0 7) : Int32) < 0 ∨ 800 ≤ Int32.toNatClampNeg (I 0 7) then none else if (I 5 (Int32.toNatClampNeg (I 0 7))) = 59 then k (289, [some (.ref 0), none], [.ref 0], (I, J)) else k (293, [some (.ref 0), none], [.ref 0], (I, J)))) (zm_V zT_X10_next zW_M))
set_option maxRecDepth 20000 in
theorem zq_X10_next_M_289 (I : Nat → Nat → Int32) (J : Nat → Nat → Int64) : zv_X10_next_M_289 I J = zv_X10_next_M_294 I J 3 := (zm_V_eq _ _ _).trans ((fun (k : zm_S → zm_R) => (rfl : zm_step zT_X10_next zW_M k (289, [some (.ref 0), none], [.ref 0], (I, J)) = k (294, [some (.ref 0), none], [.int 3, .ref 0], (I, J)))) (zm_V zT_X10_next zW_M))
set_option maxRecDepth 20000 in
theorem zq_X10_next_M_293 (I : Nat → Nat → Int32) (J : Nat → Nat → Int64) : zv_X10_next_M_293 I J = zv_X10_next_M_294 I J 4 := (zm_V_eq _ _ _).trans ((fun (k : zm_S → zm_R) => (rfl : zm_step zT_X10_next zW_M k (293, [some (.ref 0), none], [.ref 0], (I, J)) = k (294, [some (.ref 0), none], [.int 4, .ref 0], (I, J)))) (zm_V zT_X10_next zW_M))
set_option maxRecDepth 20000 in
theorem zq_X10_next_M_294 (I : Nat → Nat → Int32) (J : Nat → Nat → Int64) (s0 : Int32) : zv_X10_next_M_294 I J s0 = zv_X10_next_M_307 (zm_w (zm_w I 0 8 s0) 0 7 (((zm_w I 0 8 s0) 0 7) + 1)) J none := (zm_V_eq _ _ _).trans ((fun (k : zm_S → zm_R) => (rfl : zm_step zT_X10_next zW_M k (294, [some (.ref 0), none], [.int s0, .ref 0], (I, J)) = k (307, [some (.ref 0), none], [], ((zm_w (zm_w I 0 8 s0) 0 7 (((zm_w I 0 8 s0) 0 7) + 1)), J)))) (zm_V zT_X10_next zW_M))
set_option maxRecDepth 20000 in
theorem zq_X10_next_M_307 (I : Nat → Nat → Int32) (J : Nat → Nat → Int64) (l1 : Option Value) : zv_X10_next_M_307 I J l1 = some (none, (I, J)) := (zm_V_eq _ _ _).trans ((fun (k : zm_S → zm_R) => (rfl : zm_step zT_X10_next zW_M k (307, [some (.ref 0), l1], [], (I, J)) = some (none, (I, J)))) (zm_V zT_X10_next zW_M))
theorem zf_X10_next_M (I : Nat → Nat → Int32) (J : Nat → Nat → Int64) : zF_X10_next zW_M [.ref 0] (I, J) = zv_X10_next_M_0 I J := rfl
noncomputable def zv_X10_in_M_0 (I : Nat → Nat → Int32) (J : Nat → Nat → Int64) (l0 : Int64) (l2 : Int64) (l4 : Int64) : zm_R := zm_V zT_X10_in zW_M (0, [some (.long l0), none, some (.long l2), none, some (.long l4), none], [], (I, J))
noncomputable def zv_X10_in_M_6 (I : Nat → Nat → Int32) (J : Nat → Nat → Int64) (l0 : Int64) (l2 : Int64) (l4 : Int64) : zm_R := zm_V zT_X10_in zW_M (6, [some (.long l0), none, some (.long l2), none, some (.long l4), none], [], (I, J))
noncomputable def zv_X10_in_M_13 (I : Nat → Nat → Int32) (J : Nat → Nat → Int64) (l0 : Int64) (l2 : Int64) (l4 : Int64) : zm_R := zm_V zT_X10_in zW_M (13, [some (.long l0), none, some (.long l2), none, some (.long l4), none], [], (I, J))
noncomputable def zv_X10_in_M_17 (I : Nat → Nat → Int32) (J : Nat → Nat → Int64) (l0 : Int64) (l2 : Int64) (l4 : Int64) : zm_R := zm_V zT_X10_in zW_M (17, [some (.long l0), none, some (.long l2), none, some (.long l4), none], [], (I, J))
noncomputable def zv_X10_in_M_18 (I : Nat → Nat → Int32) (J : Nat → Nat → Int64) (l0 : Int64) (l2 : Int64) (l4 : Int64) (s0 : Int32) : zm_R := zm_V zT_X10_in zW_M (18, [some (.long l0), none, some (.long l2), none, some (.long l4), none], [.int s0], (I, J))
set_option maxRecDepth 20000 in
theorem zq_X10_in_M_0 (I : Nat → Nat → Int32) (J : Nat → Nat → Int64) (l0 : Int64) (l2 : Int64) (l4 : Int64) : zv_X10_in_M_0 I J l0 l2 l4 = if (lg_cmp l0 l2) < 0 then zv_X10_in_M_17 I J l0 l2 l4 else zv_X10_in_M_6 I J l0 l2 l4 := (zm_V_eq _ _ _).trans ((fun (k : zm_S → zm_R) => (rfl : zm_step zT_X10_in zW_M k (0, [some (.long l0), none, some (.long l2), none, some (.long l4), none], [], (I, J)) = if (lg_cmp l0 l2) < 0 then k (17, [some (.long l0), none, some (.long l2), none, some (.long l4), none], [], (I, J)) else k (6, [some (.long l0), none, some (.long l2), none, some (.long l4), none], [], (I, J)))) (zm_V zT_X10_in zW_M))
set_option maxRecDepth 20000 in
theorem zq_X10_in_M_6 (I : Nat → Nat → Int32) (J : Nat → Nat → Int64) (l0 : Int64) (l2 : Int64) (l4 : Int64) : zv_X10_in_M_6 I J l0 l2 l4 = if 0 < (lg_cmp l0 l4) then zv_X10_in_M_17 I J l0 l2 l4 else zv_X10_in_M_13 I J l0 l2 l4 := (zm_V_eq _ _ _).trans ((fun (k : zm_S → zm_R) => (rfl : zm_step zT_X10_in zW_M k (6, [some (.long l0), none, some (.long l2), none, some (.long l4), none], [], (I, J)) = if 0 < (lg_cmp l0 l4) then k (17, [some (.long l0), none, some (.long l2), none, some (.long l4), none], [], (I, J)) else k (13, [some (.long l0), none, some (.long l2), none, some (.long l4), none], [], (I, J)))) (zm_V zT_X10_in zW_M))
set_option maxRecDepth 20000 in
theorem zq_X10_in_M_13 (I : Nat → Nat → Int32) (J : Nat → Nat → Int64) (l0 : Int64) (l2 : Int64) (l4 : Int64) : zv_X10_in_M_13 I J l0 l2 l4 = zv_X10_in_M_18 I J l0 l2 l4 1 := (zm_V_eq _ _ _).trans ((fun (k : zm_S → zm_R) => (rfl : zm_step zT_X10_in zW_M k (13, [some (.long l0), none, some (.long l2), none, some (.long l4), none], [], (I, J)) = k (18, [some (.long l0), none, some (.long l2), none, some (.long l4), none], [.int 1], (I, J)))) (zm_V zT_X10_in zW_M))
set_option maxRecDepth 20000 in
theorem zq_X10_in_M_17 (I : Nat → Nat → Int32) (J : Nat → Nat → Int64) (l0 : Int64) (l2 : Int64) (l4 : Int64) : zv_X10_in_M_17 I J l0 l2 l4 = zv_X10_in_M_18 I J l0 l2 l4 0 := (zm_V_eq _ _ _).trans ((fun (k : zm_S → zm_R) => (rfl : zm_step zT_X10_in zW_M k (17, [some (.long l0), none, some (.long l2), none, some (.long l4), none], [], (I, J)) = k (18, [some (.long l0), none, some (.long l2), none, some (.long l4), none], [.int 0], (I, J)))) (zm_V zT_X10_in zW_M))
set_option maxRecDepth 20000 in
theorem zq_X10_in_M_18 (I : Nat → Nat → Int32) (J : Nat → Nat → Int64) (l0 : Int64) (l2 : Int64) (l4 : Int64) (s0 : Int32) : zv_X10_in_M_18 I J l0 l2 l4 s0 = if s0 = 0 ∨ s0 = 1 then some (some (.int s0), (I, J)) else none := (zm_V_eq _ _ _).trans ((fun (k : zm_S → zm_R) => (rfl : zm_step zT_X10_in zW_M k (18, [some (.long l0), none, some (.long l2), none, some (.long l4), none], [.int s0], (I, J)) = if s0 = 0 ∨ s0 = 1 then some (some (.int s0), (I, J)) else none)) (zm_V zT_X10_in zW_M))
theorem zf_X10_in_M (I : Nat → Nat → Int32) (J : Nat → Nat → Int64) (l0 : Int64) (l2 : Int64) (l4 : Int64) : zF_X10_in zW_M [.long l0, .long l2, .long l4] (I, J) = zv_X10_in_M_0 I J l0 l2 l4 := rfl
noncomputable def zv_X10_isSlot_M_0 (I : Nat → Nat → Int32) (J : Nat → Nat → Int64) (l0 : Int32) : zm_R := zm_V zT_X10_isSlot zW_M (0, [some (.int l0)], [], (I, J))
noncomputable def zv_X10_isSlot_M_9 (I : Nat → Nat → Int32) (J : Nat → Nat → Int64) (l0 : Int32) (s0 : Int32) : zm_R := zm_V zT_X10_isSlot zW_M (9, [some (.int l0)], [.int s0], (I, J))
set_option maxRecDepth 20000 in
theorem zc_X10_isSlot_M_0 (I : Nat → Nat → Int32) (J : Nat → Nat → Int64) (l0 : Int32) {I2 : Nat → Nat → Int32} {J2 : Nat → Nat → Int64} {r : Int32} (hF : zF_X10_in zW_M [.long (Int32.toInt64 l0), .long 0, .long (3)] (I, J) = some (some (.int r), (I2, J2))) : zv_X10_isSlot_M_0 I J l0 = zv_X10_isSlot_M_9 I2 J2 l0 r := by
  have e : ∀ k : zm_S → zm_R, zm_step zT_X10_isSlot zW_M k (0, [some (.int l0)], [], (I, J)) = zm_app (3, none, true, [], zF_X10_in) zW_M [.long (Int32.toInt64 l0), .long 0, .long (3)] (I, J) (fun v N => k (9, [some (.int l0)], v.toList ++ [], N)) := fun k => rfl
  have g := zm_app_s (C := (3, none, true, [], zF_X10_in)) (wl := zW_M) (as := [.long (Int32.toInt64 l0), .long 0, .long (3)]) (M := (I, J)) (k := fun v N => zm_V zT_X10_isSlot zW_M (9, [some (.int l0)], v.toList ++ [], N)) rfl rfl hF
  exact (zm_V_eq _ _ _).trans ((e _).trans g)
set_option maxRecDepth 20000 in
theorem zq_X10_isSlot_M_9 (I : Nat → Nat → Int32) (J : Nat → Nat → Int64) (l0 : Int32) (s0 : Int32) : zv_X10_isSlot_M_9 I J l0 s0 = if s0 = 0 ∨ s0 = 1 then some (some (.int s0), (I, J)) else none := (zm_V_eq _ _ _).trans ((fun (k : zm_S → zm_R) => (rfl : zm_step zT_X10_isSlot zW_M k (9, [some (.int l0)], [.int s0], (I, J)) = if s0 = 0 ∨ s0 = 1 then some (some (.int s0), (I, J)) else none)) (zm_V zT_X10_isSlot zW_M))
theorem zf_X10_isSlot_M (I : Nat → Nat → Int32) (J : Nat → Nat → Int64) (l0 : Int32) : zF_X10_isSlot zW_M [.int l0] (I, J) = zv_X10_isSlot_M_0 I J l0 := rfl
noncomputable def zv_X10_sizeOf_M_0 (I : Nat → Nat → Int32) (J : Nat → Nat → Int64) (l0 : Int32) : zm_R := zm_V zT_X10_sizeOf zW_M (0, [some (.int l0), none, none], [], (I, J))
noncomputable def zv_X10_sizeOf_M_4 (I : Nat → Nat → Int32) (J : Nat → Nat → Int64) (l0 : Int32) (l1 : Int32) (l2 : Int32) : zm_R := zm_V zT_X10_sizeOf zW_M (4, [some (.int l0), some (.int l1), some (.int l2)], [], (I, J))
noncomputable def zv_X10_sizeOf_M_8 (I : Nat → Nat → Int32) (J : Nat → Nat → Int64) (l0 : Int32) (l1 : Int32) (l2 : Int32) : zm_R := zm_V zT_X10_sizeOf zW_M (8, [some (.int l0), some (.int l1), some (.int l2)], [], (I, J))
noncomputable def zv_X10_sizeOf_M_20 (I : Nat → Nat → Int32) (J : Nat → Nat → Int64) (l0 : Int32) (l1 : Int32) (l2 : Int32) : zm_R := zm_V zT_X10_sizeOf zW_M (20, [some (.int l0), some (.int l1), some (.int l2)], [], (I, J))
set_option maxRecDepth 20000 in
theorem zq_X10_sizeOf_M_0 (I : Nat → Nat → Int32) (J : Nat → Nat → Int64) (l0 : Int32) : zv_X10_sizeOf_M_0 I J l0 = zv_X10_sizeOf_M_4 I J l0 0 l0 := (zm_V_eq _ _ _).trans ((fun (k : zm_S → zm_R) => (rfl : zm_step zT_X10_sizeOf zW_M k (0, [some (.int l0), none, none], [], (I, J)) = k (4, [some (.int l0), some (.int 0), some (.int l0)], [], (I, J)))) (zm_V zT_X10_sizeOf zW_M))
set_option maxRecDepth 20000 in
theorem zq_X10_sizeOf_M_4 (I : Nat → Nat → Int32) (J : Nat → Nat → Int64) (l0 : Int32) (l1 : Int32) (l2 : Int32) : zv_X10_sizeOf_M_4 I J l0 l1 l2 = if l2 = 0 then zv_X10_sizeOf_M_20 I J l0 l1 l2 else zv_X10_sizeOf_M_8 I J l0 l1 l2 := (zm_V_eq _ _ _).trans ((fun (k : zm_S → zm_R) => (rfl : zm_step zT_X10_sizeOf zW_M k (4, [some (.int l0), some (.int l1), some (.int l2)], [], (I, J)) = if l2 = 0 then k (20, [some (.int l0), some (.int l1), some (.int l2)], [], (I, J)) else k (8, [some (.int l0), some (.int l1), some (.int l2)], [], (I, J)))) (zm_V zT_X10_sizeOf zW_M))
set_option maxRecDepth 20000 in
theorem zq_X10_sizeOf_M_8 (I : Nat → Nat → Int32) (J : Nat → Nat → Int64) (l0 : Int32) (l1 : Int32) (l2 : Int32) : zv_X10_sizeOf_M_8 I J l0 l1 l2 = zv_X10_sizeOf_M_4 I J l0 (l1 + 1) (l2 &&& (l2 - 1)) := (zm_V_eq _ _ _).trans ((fun (k : zm_S → zm_R) => (rfl : zm_step zT_X10_sizeOf zW_M k (8, [some (.int l0), some (.int l1), some (.int l2)], [], (I, J)) = k (4, [some (.int l0), some (.int (l1 + 1)), some (.int (l2 &&& (l2 - 1)))], [], (I, J)))) (zm_V zT_X10_sizeOf zW_M))
set_option maxRecDepth 20000 in
theorem zq_X10_sizeOf_M_20 (I : Nat → Nat → Int32) (J : Nat → Nat → Int64) (l0 : Int32) (l1 : Int32) (l2 : Int32) : zv_X10_sizeOf_M_20 I J l0 l1 l2 = some (some (.int l1), (I, J)) := (zm_V_eq _ _ _).trans ((fun (k : zm_S → zm_R) => (rfl : zm_step zT_X10_sizeOf zW_M k (20, [some (.int l0), some (.int l1), some (.int l2)], [], (I, J)) = some (some (.int l1), (I, J)))) (zm_V zT_X10_sizeOf zW_M))
theorem zf_X10_sizeOf_M (I : Nat → Nat → Int32) (J : Nat → Nat → Int64) (l0 : Int32) : zF_X10_sizeOf zW_M [.int l0] (I, J) = zv_X10_sizeOf_M_0 I J l0 := rfl
noncomputable def zv_X10_isBit_M_0 (I : Nat → Nat → Int32) (J : Nat → Nat → Int64) (l0 : Int32) (l1 : Int32) : zm_R := zm_V zT_X10_isBit zW_M (0, [some (.int l0), some (.int l1)], [], (I, J))
noncomputable def zv_X10_isBit_M_9 (I : Nat → Nat → Int32) (J : Nat → Nat → Int64) (l0 : Int32) (l1 : Int32) : zm_R := zm_V zT_X10_isBit zW_M (9, [some (.int l0), some (.int l1)], [], (I, J))
noncomputable def zv_X10_isBit_M_13 (I : Nat → Nat → Int32) (J : Nat → Nat → Int64) (l0 : Int32) (l1 : Int32) : zm_R := zm_V zT_X10_isBit zW_M (13, [some (.int l0), some (.int l1)], [], (I, J))
noncomputable def zv_X10_isBit_M_14 (I : Nat → Nat → Int32) (J : Nat → Nat → Int64) (l0 : Int32) (l1 : Int32) (s0 : Int32) : zm_R := zm_V zT_X10_isBit zW_M (14, [some (.int l0), some (.int l1)], [.int s0], (I, J))
set_option maxRecDepth 20000 in
theorem zq_X10_isBit_M_0 (I : Nat → Nat → Int32) (J : Nat → Nat → Int64) (l0 : Int32) (l1 : Int32) : zv_X10_isBit_M_0 I J l0 l1 = if ((l0 >>> (l1 &&& 31)) &&& 1) = 1 then zv_X10_isBit_M_9 I J l0 l1 else zv_X10_isBit_M_13 I J l0 l1 := (zm_V_eq _ _ _).trans ((fun (k : zm_S → zm_R) => (rfl : zm_step zT_X10_isBit zW_M k (0, [some (.int l0), some (.int l1)], [], (I, J)) = if ((l0 >>> (l1 &&& 31)) &&& 1) = 1 then k (9, [some (.int l0), some (.int l1)], [], (I, J)) else k (13, [some (.int l0), some (.int l1)], [], (I, J)))) (zm_V zT_X10_isBit zW_M))
set_option maxRecDepth 20000 in
theorem zq_X10_isBit_M_9 (I : Nat → Nat → Int32) (J : Nat → Nat → Int64) (l0 : Int32) (l1 : Int32) : zv_X10_isBit_M_9 I J l0 l1 = zv_X10_isBit_M_14 I J l0 l1 1 := (zm_V_eq _ _ _).trans ((fun (k : zm_S → zm_R) => (rfl : zm_step zT_X10_isBit zW_M k (9, [some (.int l0), some (.int l1)], [], (I, J)) = k (14, [some (.int l0), some (.int l1)], [.int 1], (I, J)))) (zm_V zT_X10_isBit zW_M))
set_option maxRecDepth 20000 in
theorem zq_X10_isBit_M_13 (I : Nat → Nat → Int32) (J : Nat → Nat → Int64) (l0 : Int32) (l1 : Int32) : zv_X10_isBit_M_13 I J l0 l1 = zv_X10_isBit_M_14 I J l0 l1 0 := (zm_V_eq _ _ _).trans ((fun (k : zm_S → zm_R) => (rfl : zm_step zT_X10_isBit zW_M k (13, [some (.int l0), some (.int l1)], [], (I, J)) = k (14, [some (.int l0), some (.int l1)], [.int 0], (I, J)))) (zm_V zT_X10_isBit zW_M))
set_option maxRecDepth 20000 in
theorem zq_X10_isBit_M_14 (I : Nat → Nat → Int32) (J : Nat → Nat → Int64) (l0 : Int32) (l1 : Int32) (s0 : Int32) : zv_X10_isBit_M_14 I J l0 l1 s0 = if s0 = 0 ∨ s0 = 1 then some (some (.int s0), (I, J)) else none := (zm_V_eq _ _ _).trans ((fun (k : zm_S → zm_R) => (rfl : zm_step zT_X10_isBit zW_M k (14, [some (.int l0), some (.int l1)], [.int s0], (I, J)) = if s0 = 0 ∨ s0 = 1 then some (some (.int s0), (I, J)) else none)) (zm_V zT_X10_isBit zW_M))
theorem zf_X10_isBit_M (I : Nat → Nat → Int32) (J : Nat → Nat → Int64) (l0 : Int32) (l1 : Int32) : zF_X10_isBit zW_M [.int l0, .int l1] (I, J) = zv_X10_isBit_M_0 I J l0 l1 := rfl
noncomputable def zv_X10_tens_M_0 (F : zm_L → List Value → zm_I → zm_R) (I : Nat → Nat → Int32) (J : Nat → Nat → Int64) (l0 : Int32) : zm_R := zm_V (zT_X10_tens F) zW_M (0, [some (.int l0)], [], (I, J))
noncomputable def zv_X10_tens_M_4 (F : zm_L → List Value → zm_I → zm_R) (I : Nat → Nat → Int32) (J : Nat → Nat → Int64) (l0 : Int32) : zm_R := zm_V (zT_X10_tens F) zW_M (4, [some (.int l0)], [], (I, J))
noncomputable def zv_X10_tens_M_8 (F : zm_L → List Value → zm_I → zm_R) (I : Nat → Nat → Int32) (J : Nat → Nat → Int64) (l0 : Int32) : zm_R := zm_V (zT_X10_tens F) zW_M (8, [some (.int l0)], [], (I, J))
noncomputable def zv_X10_tens_M_17 (F : zm_L → List Value → zm_I → zm_R) (I : Nat → Nat → Int32) (J : Nat → Nat → Int64) (l0 : Int32) (s0 : Int64) (s1 : Int64) : zm_R := zm_V (zT_X10_tens F) zW_M (17, [some (.int l0)], [.long s0, .long s1], (I, J))
noncomputable def zv_X10_tens_M_18 (F : zm_L → List Value → zm_I → zm_R) (I : Nat → Nat → Int32) (J : Nat → Nat → Int64) (l0 : Int32) (s0 : Int64) : zm_R := zm_V (zT_X10_tens F) zW_M (18, [some (.int l0)], [.long s0], (I, J))
set_option maxRecDepth 20000 in
theorem zq_X10_tens_M_0 (F : zm_L → List Value → zm_I → zm_R) (I : Nat → Nat → Int32) (J : Nat → Nat → Int64) (l0 : Int32) : zv_X10_tens_M_0 F I J l0 = if l0 = 0 then zv_X10_tens_M_4 F I J l0 else zv_X10_tens_M_8 F I J l0 := (zm_V_eq _ _ _).trans ((fun (k : zm_S → zm_R) => (rfl : zm_step (zT_X10_tens F) zW_M k (0, [some (.int l0)], [], (I, J)) = if l0 = 0 then k (4, [some (.int l0)], [], (I, J)) else k (8, [some (.int l0)], [], (I, J)))) (zm_V (zT_X10_tens F) zW_M))
set_option maxRecDepth 20000 in
theorem zq_X10_tens_M_4 (F : zm_L → List Value → zm_I → zm_R) (I : Nat → Nat → Int32) (J : Nat → Nat → Int64) (l0 : Int32) : zv_X10_tens_M_4 F I J l0 = zv_X10_tens_M_18 F I J l0 1 := (zm_V_eq _ _ _).trans ((fun (k : zm_S → zm_R) => (rfl : zm_step (zT_X10_tens F) zW_M k (4, [some (.int l0)], [], (I, J)) = k (18, [some (.int l0)], [.long 1], (I, J)))) (zm_V (zT_X10_tens F) zW_M))
set_option maxRecDepth 20000 in
theorem zc_X10_tens_M_8 (F : zm_L → List Value → zm_I → zm_R) (I : Nat → Nat → Int32) (J : Nat → Nat → Int64) (l0 : Int32) {I2 : Nat → Nat → Int32} {J2 : Nat → Nat → Int64} {r : Int64} (hF : F zW_M [.int (l0 - 1)] (I, J) = some (some (.long r), (I2, J2))) : zv_X10_tens_M_8 F I J l0 = zv_X10_tens_M_17 F I2 J2 l0 r ((10)) := by
  have e : ∀ k : zm_S → zm_R, zm_step (zT_X10_tens F) zW_M k (8, [some (.int l0)], [], (I, J)) = zm_app (1, none, true, [], F) zW_M [.int (l0 - 1)] (I, J) (fun v N => k (17, [some (.int l0)], v.toList ++ [.long (10)], N)) := fun k => rfl
  have g := zm_app_s (C := (1, none, true, [], F)) (wl := zW_M) (as := [.int (l0 - 1)]) (M := (I, J)) (k := fun v N => zm_V (zT_X10_tens F) zW_M (17, [some (.int l0)], v.toList ++ [.long (10)], N)) rfl rfl hF
  exact (zm_V_eq _ _ _).trans ((e _).trans g)
set_option maxRecDepth 20000 in
theorem zq_X10_tens_M_17 (F : zm_L → List Value → zm_I → zm_R) (I : Nat → Nat → Int32) (J : Nat → Nat → Int64) (l0 : Int32) (s0 : Int64) (s1 : Int64) : zv_X10_tens_M_17 F I J l0 s0 s1 = zv_X10_tens_M_18 F I J l0 (s1 * s0) := (zm_V_eq _ _ _).trans ((fun (k : zm_S → zm_R) => (rfl : zm_step (zT_X10_tens F) zW_M k (17, [some (.int l0)], [.long s0, .long s1], (I, J)) = k (18, [some (.int l0)], [.long (s1 * s0)], (I, J)))) (zm_V (zT_X10_tens F) zW_M))
set_option maxRecDepth 20000 in
theorem zq_X10_tens_M_18 (F : zm_L → List Value → zm_I → zm_R) (I : Nat → Nat → Int32) (J : Nat → Nat → Int64) (l0 : Int32) (s0 : Int64) : zv_X10_tens_M_18 F I J l0 s0 = some (some (.long s0), (I, J)) := (zm_V_eq _ _ _).trans ((fun (k : zm_S → zm_R) => (rfl : zm_step (zT_X10_tens F) zW_M k (18, [some (.int l0)], [.long s0], (I, J)) = some (some (.long s0), (I, J)))) (zm_V (zT_X10_tens F) zW_M))
theorem zf_X10_tens_M (F : zm_L → List Value → zm_I → zm_R) (I : Nat → Nat → Int32) (J : Nat → Nat → Int64) (l0 : Int32) : zm_F zm_V (zT_X10_tens F) 1 zW_M [.int l0] (I, J) = zv_X10_tens_M_0 F I J l0 := rfl
noncomputable def zv_X10_common_M_0 (F : zm_L → List Value → zm_I → zm_R) (I : Nat → Nat → Int32) (J : Nat → Nat → Int64) (l0 : Int64) (l2 : Int64) : zm_R := zm_V (zT_X10_common F) zW_M (0, [some (.long l0), none, some (.long l2), none], [], (I, J))
noncomputable def zv_X10_common_M_6 (F : zm_L → List Value → zm_I → zm_R) (I : Nat → Nat → Int32) (J : Nat → Nat → Int64) (l0 : Int64) (l2 : Int64) : zm_R := zm_V (zT_X10_common F) zW_M (6, [some (.long l0), none, some (.long l2), none], [], (I, J))
noncomputable def zv_X10_common_M_10 (F : zm_L → List Value → zm_I → zm_R) (I : Nat → Nat → Int32) (J : Nat → Nat → Int64) (l0 : Int64) (l2 : Int64) : zm_R := zm_V (zT_X10_common F) zW_M (10, [some (.long l0), none, some (.long l2), none], [], (I, J))
noncomputable def zv_X10_common_M_14 (F : zm_L → List Value → zm_I → zm_R) (I : Nat → Nat → Int32) (J : Nat → Nat → Int64) (l0 : Int64) (l2 : Int64) (s0 : Int64) (s1 : Int64) : zm_R := zm_V (zT_X10_common F) zW_M (14, [some (.long l0), none, some (.long l2), none], [.long s0, .long s1], (I, J))
noncomputable def zv_X10_common_M_17 (F : zm_L → List Value → zm_I → zm_R) (I : Nat → Nat → Int32) (J : Nat → Nat → Int64) (l0 : Int64) (l2 : Int64) (s0 : Int64) : zm_R := zm_V (zT_X10_common F) zW_M (17, [some (.long l0), none, some (.long l2), none], [.long s0], (I, J))
set_option maxRecDepth 20000 in
theorem zq_X10_common_M_0 (F : zm_L → List Value → zm_I → zm_R) (I : Nat → Nat → Int32) (J : Nat → Nat → Int64) (l0 : Int64) (l2 : Int64) : zv_X10_common_M_0 F I J l0 l2 = if (lg_cmp l2 0) = 0 then zv_X10_common_M_6 F I J l0 l2 else zv_X10_common_M_10 F I J l0 l2 := (zm_V_eq _ _ _).trans ((fun (k : zm_S → zm_R) => (rfl : zm_step (zT_X10_common F) zW_M k (0, [some (.long l0), none, some (.long l2), none], [], (I, J)) = if (lg_cmp l2 0) = 0 then k (6, [some (.long l0), none, some (.long l2), none], [], (I, J)) else k (10, [some (.long l0), none, some (.long l2), none], [], (I, J)))) (zm_V (zT_X10_common F) zW_M))
set_option maxRecDepth 20000 in
theorem zq_X10_common_M_6 (F : zm_L → List Value → zm_I → zm_R) (I : Nat → Nat → Int32) (J : Nat → Nat → Int64) (l0 : Int64) (l2 : Int64) : zv_X10_common_M_6 F I J l0 l2 = zv_X10_common_M_17 F I J l0 l2 l0 := (zm_V_eq _ _ _).trans ((fun (k : zm_S → zm_R) => (rfl : zm_step (zT_X10_common F) zW_M k (6, [some (.long l0), none, some (.long l2), none], [], (I, J)) = k (17, [some (.long l0), none, some (.long l2), none], [.long l0], (I, J)))) (zm_V (zT_X10_common F) zW_M))
set_option maxRecDepth 20000 in
theorem zq_X10_common_M_10 (F : zm_L → List Value → zm_I → zm_R) (I : Nat → Nat → Int32) (J : Nat → Nat → Int64) (l0 : Int64) (l2 : Int64) : zv_X10_common_M_10 F I J l0 l2 = if (l2 : Int64) = 0 then none else zv_X10_common_M_14 F I J l0 l2 (l0 - l0 / l2 * l2) l2 := (zm_V_eq _ _ _).trans ((fun (k : zm_S → zm_R) => (rfl : zm_step (zT_X10_common F) zW_M k (10, [some (.long l0), none, some (.long l2), none], [], (I, J)) = if (l2 : Int64) = 0 then none else k (14, [some (.long l0), none, some (.long l2), none], [.long (l0 - l0 / l2 * l2), .long l2], (I, J)))) (zm_V (zT_X10_common F) zW_M))
set_option maxRecDepth 20000 in
theorem zc_X10_common_M_14 (F : zm_L → List Value → zm_I → zm_R) (I : Nat → Nat → Int32) (J : Nat → Nat → Int64) (l0 : Int64) (l2 : Int64) (s0 : Int64) (s1 : Int64) {I2 : Nat → Nat → Int32} {J2 : Nat → Nat → Int64} {r : Int64} (hF : F zW_M [.long s1, .long s0] (I, J) = some (some (.long r), (I2, J2))) : zv_X10_common_M_14 F I J l0 l2 s0 s1 = zv_X10_common_M_17 F I2 J2 l0 l2 r := by
  have e : ∀ k : zm_S → zm_R, zm_step (zT_X10_common F) zW_M k (14, [some (.long l0), none, some (.long l2), none], [.long s0, .long s1], (I, J)) = zm_app (2, none, true, [], F) zW_M [.long s1, .long s0] (I, J) (fun v N => k (17, [some (.long l0), none, some (.long l2), none], v.toList ++ [], N)) := fun k => rfl
  have g := zm_app_s (C := (2, none, true, [], F)) (wl := zW_M) (as := [.long s1, .long s0]) (M := (I, J)) (k := fun v N => zm_V (zT_X10_common F) zW_M (17, [some (.long l0), none, some (.long l2), none], v.toList ++ [], N)) rfl rfl hF
  exact (zm_V_eq _ _ _).trans ((e _).trans g)
set_option maxRecDepth 20000 in
theorem zq_X10_common_M_17 (F : zm_L → List Value → zm_I → zm_R) (I : Nat → Nat → Int32) (J : Nat → Nat → Int64) (l0 : Int64) (l2 : Int64) (s0 : Int64) : zv_X10_common_M_17 F I J l0 l2 s0 = some (some (.long s0), (I, J)) := (zm_V_eq _ _ _).trans ((fun (k : zm_S → zm_R) => (rfl : zm_step (zT_X10_common F) zW_M k (17, [some (.long l0), none, some (.long l2), none], [.long s0], (I, J)) = some (some (.long s0), (I, J)))) (zm_V (zT_X10_common F) zW_M))
theorem zf_X10_common_M (F : zm_L → List Value → zm_I → zm_R) (I : Nat → Nat → Int32) (J : Nat → Nat → Int64) (l0 : Int64) (l2 : Int64) : zm_F zm_V (zT_X10_common F) 4 zW_M [.long l0, .long l2] (I, J) = zv_X10_common_M_0 F I J l0 l2 := rfl
end
section
/-! CONTRACTS BY HAND: what they begin with -/
theorem zh_wd {w0 wl : zm_L} (h : zt_Wd w0 wl) (hh : w0.all (fun d => !zt_hid d.1) = true) : wl = w0 := by
  apply List.ext_getElem?
  intro n
  cases e : w0[n]? with
  | none =>
    have : w0.length ≤ n := List.getElem?_eq_none_iff.mp e
    exact List.getElem?_eq_none_iff.mpr (by rw [h.1]; exact this)
  | some d =>
    have := List.all_eq_true.mp hh d (List.mem_of_getElem? e)
    exact h.2 n d e (by simpa using this)
theorem zh_con {v w : Nat} {hd : Nat × Option Nat × Bool × List (Nat × Nat)} {w0 : zm_L} {G : zt_G} {args : List zt_A} {pre : List zt_C} {fl : List Nat} {W : zt_W} {outs : List zt_O} {F : zm_L → List Value → zm_I → zm_R} (hOm : zo_Om[w]? = some (w0, G)) (hh : w0.all (fun d => !zt_hid d.1) = true)
    (H : ∀ as M, zt_sts [] M (fun _ => 0) args as → (∀ c ∈ pre, zt_cs (zm_sl as) M c) → (∀ f ∈ fl, zo_Rel v f M) → zt_Gs G M → ∃ x N, F w0 as M = some (x, N) ∧ zt_Gs G N ∧ zt_fr W M N ∧ ∃ o ∈ outs, zt_res1 (zo_Rel v) as x N o) : zt_Con zo_Om (zo_Rel v) (hd, (w, (args, pre, fl), W, outs)) F := by
  intro w1 G1 h1 wl as M hW hs hc hf hG
  have h1 : zo_Om[w]? = some (w1, G1) := h1
  rw [hOm] at h1
  cases h1
  obtain rfl := zh_wd hW hh
  exact H as M hs hc hf hG
theorem zh_no {α : Type} {P : α → Prop} : ∀ q ∈ ([] : List α), P q := fun _ h => absurd h List.not_mem_nil
theorem zh_fr_id {W : zt_W} {M : zm_I} : zt_fr W M M := fun _ _ _ => ⟨rfl, rfl⟩
theorem zh_pure {v w : Nat} {hd : Nat × Option Nat × Bool × List (Nat × Nat)} {w0 : zm_L} {G : zt_G} {args : List zt_A} {pre : List zt_C} {fl : List Nat} {W : zt_W} {outs : List zt_O} {F : zm_L → List Value → zm_I → zm_R} (hOm : zo_Om[w]? = some (w0, G)) (hh : w0.all (fun d => !zt_hid d.1) = true)
    (H : ∀ as M, zt_sts [] M (fun _ => 0) args as → (∀ c ∈ pre, zt_cs (zm_sl as) M c) → (∀ f ∈ fl, zo_Rel v f M) → zt_Gs G M → ∃ x, F w0 as M = some (x, M) ∧ ∃ o ∈ outs, zt_res1 (zo_Rel v) as x M o) : zt_Con zo_Om (zo_Rel v) (hd, (w, (args, pre, fl), W, outs)) F :=
  zh_con hOm hh (fun as M hs hc hf hG => by
    obtain ⟨x, h1, h2⟩ := H as M hs hc hf hG
    exact ⟨x, M, h1, hG, zh_fr_id, h2⟩)
section ZHA
variable {ls : List (Option Value)} {M : zm_I} {s : Nat → Int}
theorem zh_nil {as : List Value} (h : zt_sts ls M s [] as) : as = [] := by
  cases as with
  | nil => rfl
  | cons _ _ => exact h.elim
theorem zh_cons {a : zt_A} {r : List zt_A} {as : List Value} (h : zt_sts ls M s (a :: r) as) : ∃ v vs, as = v :: vs ∧ zt_v ls M s a v ∧ zt_sts ls M s r vs := by
  cases as with
  | nil => exact h.elim
  | cons v vs => exact ⟨v, vs, rfl, h.1, h.2⟩
theorem zh_ref {n : Nat} {r : List zt_A} {as : List Value} (h : zt_sts ls M s (zjr n :: r) as) : ∃ vs, as = .ref n :: vs ∧ zt_sts ls M s r vs := by
  obtain ⟨v, vs, rfl, h1, h2⟩ := zh_cons h
  have : v = .ref n := h1
  subst this
  exact ⟨vs, rfl, h2⟩
theorem zh_txt {k : Nat} {r : List zt_A} {as : List Value} (h : zt_sts ls M s ((4, .ofNat k, .ofNat 0, 0, []) :: r) as) : ∃ vs, as = .retAddr k :: vs ∧ zt_sts ls M s r vs := by
  obtain ⟨v, vs, rfl, h1, h2⟩ := zh_cons h
  have : v = .retAddr k := h1
  subst this
  exact ⟨vs, rfl, h2⟩
theorem zh_null {a b : Int} {c : Nat} {ns : List zt_N} {r : List zt_A} {as : List Value} (h : zt_sts ls M s ((3, a, b, c, ns) :: r) as) : ∃ vs, as = .null :: vs ∧ zt_sts ls M s r vs := by
  obtain ⟨v, vs, rfl, h1, h2⟩ := zh_cons h
  have : v = .null := h1
  subst this
  exact ⟨vs, rfl, h2⟩
theorem zh_int {lo hi : Int} {r : List zt_A} {as : List Value} (h : zt_sts ls M s (zj lo hi :: r) as) : ∃ (x : Int32) (vs : List Value), as = .int x :: vs ∧ lo ≤ x.toInt ∧ x.toInt ≤ hi ∧ zt_sts ls M s r vs := by
  obtain ⟨v, vs, rfl, h1, h2⟩ := zh_cons h
  obtain ⟨x, rfl, hr, -⟩ := h1
  exact ⟨x, vs, rfl, hr.1, hr.2.1, h2⟩
theorem zh_top {r : List zt_A} {as : List Value} (h : zt_sts ls M s (zt_top :: r) as) : ∃ (x : Int32) (vs : List Value), as = .int x :: vs ∧ zt_sts ls M s r vs := by
  obtain ⟨v, vs, rfl, h1, h2⟩ := zh_cons h
  obtain ⟨x, rfl, hr, -⟩ := h1
  exact ⟨x, vs, rfl, h2⟩
theorem zh_long {lo hi : Int} {st : Nat} {r : List zt_A} {as : List Value} (h : zt_sts ls M s ((1, lo, hi, st, []) :: r) as) : ∃ (x : Int64) (vs : List Value), as = .long x :: vs ∧ lo ≤ x.toInt ∧ x.toInt ≤ hi ∧ zt_sts ls M s r vs := by
  obtain ⟨v, vs, rfl, h1, h2⟩ := zh_cons h
  obtain ⟨x, rfl, hr, -⟩ := h1
  exact ⟨x, vs, rfl, hr.1, hr.2.1, h2⟩
theorem zh_v_int {lo hi : Int} {x : Int32} (h1 : lo ≤ x.toInt) (h2 : x.toInt ≤ hi) : zt_v ls M s (zj lo hi) (.int x) := ⟨x, rfl, ⟨h1, h2, zt_one_dvd _⟩, zt_nms_nil _⟩
end ZHA
theorem zh_res {Rel : Nat → zm_I → Prop} {as : List Value} {N : zm_I} {lo hi : Int} {x : Int32} (h1 : lo ≤ x.toInt) (h2 : x.toInt ≤ hi) : zt_res1 Rel as (some (.int x)) N (some (zj lo hi), [], [], []) := ⟨⟨_, rfl, zh_v_int h1 h2⟩, zh_no, zh_no, zh_no⟩
theorem zh_resF {Rel : Nat → zm_I → Prop} {as : List Value} {N : zm_I} {lo hi : Int} {x : Int32} {fl : List Nat} (h1 : lo ≤ x.toInt) (h2 : x.toInt ≤ hi) (hf : ∀ f ∈ fl, Rel f N) : zt_res1 Rel as (some (.int x)) N (some (zj lo hi), [], [], fl) := ⟨⟨_, rfl, zh_v_int h1 h2⟩, zh_no, zh_no, hf⟩
/-- what a boolean comes to -/
def zh_bool (fl : List Nat) : List zt_O := [(some (zj (.ofNat 0) (.ofNat 0)), [], [], fl), (some (zj (.ofNat 1) (.ofNat 1)), [], [], fl)]
theorem zh_bools {Rel : Nat → zm_I → Prop} {as : List Value} {N : zm_I} {x : Int32} {fl : List Nat} (h : x = 0 ∨ x = 1) (hf : ∀ f ∈ fl, Rel f N) : ∃ o ∈ zh_bool fl, zt_res1 Rel as (some (.int x)) N o := by
  rcases h with rfl | rfl
  · exact ⟨_, List.mem_cons_self, zh_resF (by decide) (by decide) hf⟩
  · exact ⟨_, List.mem_cons_of_mem _ List.mem_cons_self, zh_resF (by decide) (by decide) hf⟩
theorem zh_ga {G : zt_G} {M : zm_I} (hG : zt_Gs G M) {n : Nat} {b : Int × Int} (h : G[n]? = some [b]) (i : Nat) : b.1 ≤ (M.1 n i).toInt ∧ (M.1 n i).toInt ≤ b.2 := hG n [b] h i b (by simp [Nat.mod_one])
theorem zh_add {a b : Int32} (h1 : -2147483648 ≤ a.toInt + b.toInt) (h2 : a.toInt + b.toInt ≤ 2147483647) : (a + b).toInt = a.toInt + b.toInt := by
  rw [Int32.toInt_add]; exact zt_bmI h1 h2
theorem zh_sub {a b : Int32} (h1 : -2147483648 ≤ a.toInt - b.toInt) (h2 : a.toInt - b.toInt ≤ 2147483647) : (a - b).toInt = a.toInt - b.toInt := by
  rw [Int32.toInt_sub]; exact zt_bmI h1 h2
theorem zh_mul {a b : Int32} (h1 : -2147483648 ≤ a.toInt * b.toInt) (h2 : a.toInt * b.toInt ≤ 2147483647) : (a * b).toInt = a.toInt * b.toInt := by
  rw [Int32.toInt_mul]; exact zt_bmI h1 h2
theorem zh_of {n : Nat} (h : n < 2147483648) : (Int32.ofNat n).toInt = n := Int32.toInt_ofNat_of_lt h
theorem zh_in {x : Int32} {n : Nat} (h0 : 0 ≤ x.toInt) (h1 : x.toInt < n) : ¬ (x < 0 ∨ n ≤ x.toNatClampNeg) := by
  have h2 := zs_clamp h0
  intro h
  rcases h with h | h
  · rw [Int32.lt_iff_toInt_lt] at h
    simp at h
    omega
  · omega
theorem zh_ofZ {x : Int32} (h0 : 0 ≤ x.toInt) : x = Int32.ofNat x.toNatClampNeg := by
  have h := zt_rgI x
  have h2 := zs_clamp h0
  apply Int32.toInt_inj.mp
  rw [zh_of (by omega)]
  omega
end
section
/-! CONTRACTS BY HAND: sizeOf, tens, common, turn, isWord -/
theorem zh_andlt {x : Int32} (h : x ≠ 0) : (x &&& (x - 1)).toBitVec.toNat < x.toBitVec.toNat := by
  have h0 : x.toBitVec.toNat ≠ 0 := fun e => h (by
    apply Int32.toBitVec_inj.mp
    apply BitVec.eq_of_toNat_eq
    rw [e]; rfl)
  have hb : x.toBitVec.toNat < 2 ^ 32 := x.toBitVec.isLt
  have e1 : (x &&& (x - 1)).toBitVec = x.toBitVec &&& (x.toBitVec - 1#32) := rfl
  rw [e1, BitVec.toNat_and, BitVec.toNat_sub]
  have h1 : (1#32).toNat = 1 := rfl
  rw [h1]
  have e2 : (2 ^ 32 - 1 + x.toBitVec.toNat) % 2 ^ 32 = x.toBitVec.toNat - 1 := by omega
  rw [e2]
  have := @Nat.and_le_right x.toBitVec.toNat (x.toBitVec.toNat - 1)
  omega
theorem zh_sizeOf4 (I : Nat → Nat → Int32) (J : Nat → Nat → Int64) (l0 : Int32) : ∀ (n : Nat) (l1 l2 : Int32), l2.toBitVec.toNat < n → ∃ x, zv_X10_sizeOf_M_4 I J l0 l1 l2 = some (some (.int x), (I, J)) := by
  intro n
  induction n with
  | zero => intro l1 l2 h; omega
  | succ n ih =>
    intro l1 l2 h
    rw [zq_X10_sizeOf_M_4]
    split
    · exact ⟨_, zq_X10_sizeOf_M_20 I J l0 l1 l2⟩
    · next h0 =>
      rw [zq_X10_sizeOf_M_8]
      have := zh_andlt h0
      exact ih _ _ (by omega)
theorem zh_sizeOf (v : Nat) (hd : Nat × Option Nat × Bool × List (Nat × Nat)) : zt_Con zo_Om (zo_Rel v) (hd, (22, ([zt_top], [], []), [], [(some zt_top, [], [], [])])) zF_X10_sizeOf :=
  zh_pure (w0 := zW_M) rfl (by decide +kernel) (fun as M hs _ _ hG => by
    obtain ⟨x, vs, rfl, h2⟩ := zh_top hs
    obtain rfl := zh_nil h2
    obtain ⟨y, hy⟩ := zh_sizeOf4 M.1 M.2 x _ 0 x (Nat.lt_succ_self _)
    exact ⟨_, (zf_X10_sizeOf_M M.1 M.2 x).trans ((zq_X10_sizeOf_M_0 M.1 M.2 x).trans hy), _, List.mem_cons_self, ⟨⟨_, rfl, zt_v_top y⟩, zh_no, zh_no, zh_no⟩⟩)
theorem zh_ten1 : ∀ k, k < 11 → Int32.ofNat (k + 1) ≠ 0 ∧ Int32.ofNat (k + 1) - 1 = Int32.ofNat k ∧ (10 : Int64) * Int64.ofNat (10 ^ k) = Int64.ofNat (10 ^ (k + 1)) := by decide +kernel
theorem zh_tensF (I : Nat → Nat → Int32) (J : Nat → Nat → Int64) : ∀ (k d : Nat), k < 11 → k < d → zF_X10_tens d zW_M [.int (Int32.ofNat k)] (I, J) = some (some (.long (Int64.ofNat (10 ^ k))), (I, J)) := by
  intro k
  induction k with
  | zero =>
    intro d _ hd
    cases d with
    | zero => omega
    | succ d =>
      show zm_F zm_V (zT_X10_tens (zF_X10_tens d)) 1 zW_M [.int (Int32.ofNat 0)] (I, J) = _
      rw [zf_X10_tens_M, zq_X10_tens_M_0, if_pos (by rfl), zq_X10_tens_M_4, zq_X10_tens_M_18]
      rfl
  | succ k ih =>
    intro d hk hd
    cases d with
    | zero => omega
    | succ d =>
      obtain ⟨h1, h2, h3⟩ := zh_ten1 k (by omega)
      show zm_F zm_V (zT_X10_tens (zF_X10_tens d)) 1 zW_M [.int (Int32.ofNat (k + 1))] (I, J) = _
      rw [zf_X10_tens_M, zq_X10_tens_M_0, if_neg h1, zc_X10_tens_M_8 _ _ _ _ (by rw [h2]; exact ih d (by omega) (by omega)), zq_X10_tens_M_17, zq_X10_tens_M_18, h3]
theorem zh_ten2 : ∀ k, k < 11 → (Int64.ofNat (10 ^ k)).toInt = ((10 ^ k : Nat) : Int) := by decide +kernel
theorem zh_tens (k : Nat) (hk : k < 11) (v : Nat) (hd : Nat × Option Nat × Bool × List (Nat × Nat)) : zt_Con zo_Om (zo_Rel v) (hd, (22, ([zj (.ofNat k) (.ofNat k)], [], []), [], [(some (1, .ofNat (10 ^ k), .ofNat (10 ^ k), 0, []), [], [], [])])) (zF_X10_tens 14) :=
  zh_pure (w0 := zW_M) rfl (by decide +kernel) (fun as M hs _ _ hG => by
    obtain ⟨x, vs, rfl, h1, h2, h3⟩ := zh_int hs
    obtain rfl := zh_nil h3
    have hx : x = Int32.ofNat k := Int32.toInt_inj.mp (by
      rw [zh_of (by omega)]
      have h1 : (k : Int) ≤ x.toInt := h1
      have h2 : x.toInt ≤ (k : Int) := h2
      omega)
    subst hx
    refine ⟨_, zh_tensF M.1 M.2 k 14 hk (by omega), _, List.mem_cons_self, ⟨⟨_, rfl, ?_⟩, zh_no, zh_no, zh_no⟩⟩
    refine ⟨_, rfl, ⟨?_, ?_, ?_⟩, zt_nms_nil _⟩
    · show ((10 ^ k : Nat) : Int) ≤ _
      rw [zh_ten2 k hk]
      exact Int.le_refl _
    · show _ ≤ ((10 ^ k : Nat) : Int)
      rw [zh_ten2 k hk]
      exact Int.le_refl _
    · show ((0 : Nat) : Int) ∣ _ - ((10 ^ k : Nat) : Int)
      rw [zh_ten2 k hk]
      exact ⟨0, by omega⟩)
/-- the remainder of longs -/
theorem zh_rem (a b : Int64) (hb : b.toInt ≠ 0) : (a - a / b * b).toInt = a.toInt.tmod b.toInt := by
  have ha := zt_rgL a
  have hb2 := zt_rgL b
  rw [Int64.toInt_sub, Int64.toInt_mul, Int64.toInt_div, Int.bmod_mul_bmod, Int.sub_bmod_bmod]
  have e : a.toInt - a.toInt.tdiv b.toInt * b.toInt = a.toInt.tmod b.toInt := by
    have := Int.tdiv_mul_add_tmod a.toInt b.toInt
    omega
  rw [e]
  have h1 : (a.toInt.tmod b.toInt).natAbs < b.toInt.natAbs := by
    rw [Int.natAbs_tmod]
    exact Nat.mod_lt _ (by omega)
  exact zt_bmL (by omega) (by omega)
theorem zh_cmp0 (b : Int64) : lg_cmp b 0 = 0 ↔ b.toInt = 0 := by
  rw [lg_cmp_eq]
  constructor
  · intro h; rw [h]; rfl
  · intro h; exact Int64.toInt_inj.mp (h.trans rfl)
theorem zh_half {n k : Nat} (h0 : 0 < k) (h : k < n) : 2 * (n % k) < n := by
  have h1 := Nat.div_add_mod n k
  have h2 := Nat.mod_lt n h0
  have h3 : 1 ≤ n / k := Nat.div_pos (Nat.le_of_lt h) h0
  have h4 : k * 1 ≤ k * (n / k) := Nat.mul_le_mul_left k h3
  omega
theorem zh_com0 (I : Nat → Nat → Int32) (J : Nat → Nat → Int64) (d : Nat) (a b : Int64) (hb : b.toInt = 0) : zF_X10_common (d + 1) zW_M [.long a, .long b] (I, J) = some (some (.long a), (I, J)) := by
  show zm_F zm_V (zT_X10_common (zF_X10_common d)) 4 zW_M [.long a, .long b] (I, J) = _
  rw [zf_X10_common_M, zq_X10_common_M_0, if_pos ((zh_cmp0 b).mpr hb), zq_X10_common_M_6, zq_X10_common_M_17]
theorem zh_com1 (I : Nat → Nat → Int32) (J : Nat → Nat → Int64) (d : Nat) (a b r : Int64) (hb : b.toInt ≠ 0) (h : zF_X10_common d zW_M [.long b, .long (a - a / b * b)] (I, J) = some (some (.long r), (I, J))) : zF_X10_common (d + 1) zW_M [.long a, .long b] (I, J) = some (some (.long r), (I, J)) := by
  show zm_F zm_V (zT_X10_common (zF_X10_common d)) 4 zW_M [.long a, .long b] (I, J) = _
  have hb' : ¬ b = 0 := fun e => hb (by rw [e]; rfl)
  rw [zf_X10_common_M, zq_X10_common_M_0, if_neg (fun e => hb ((zh_cmp0 b).mp e)), zq_X10_common_M_10, if_neg hb', zc_X10_common_M_14 _ _ _ _ _ _ _ h, zq_X10_common_M_17]
theorem zh_com (I : Nat → Nat → Int32) (J : Nat → Nat → Int64) : ∀ (m d : Nat) (a b : Int64), 2 * m + 1 ≤ d → b.toInt.natAbs < 2 ^ m → (b.toInt = 0 → a.toInt ≠ 0) → ∃ r : Int64, zF_X10_common d zW_M [.long a, .long b] (I, J) = some (some (.long r), (I, J)) ∧ r.toInt ≠ 0 := by
  intro m
  induction m with
  | zero =>
    intro d a b hd hb h0
    have hz : b.toInt = 0 := by omega
    obtain ⟨d, rfl⟩ : ∃ e, d = e + 1 := ⟨d - 1, by omega⟩
    exact ⟨a, zh_com0 I J d a b hz, h0 hz⟩
  | succ m ih =>
    intro d a b hd hb h0
    obtain ⟨d, rfl⟩ : ∃ e, d = e + 1 + 1 + 1 := ⟨d - 3, by omega⟩
    by_cases hz : b.toInt = 0
    · exact ⟨a, zh_com0 I J _ a b hz, h0 hz⟩
    · have hr := zh_rem a b hz
      have hr1 : (a.toInt.tmod b.toInt).natAbs < b.toInt.natAbs := by
        rw [Int.natAbs_tmod]
        exact Nat.mod_lt _ (by omega)
      by_cases hz2 : (a - a / b * b).toInt = 0
      · exact ⟨b, zh_com1 I J _ a b b hz (zh_com0 I J _ b _ hz2), hz⟩
      · have hr2 := zh_rem b (a - a / b * b) hz2
        have h3 : (b - b / (a - a / b * b) * (a - a / b * b)).toInt.natAbs < 2 ^ m := by
          rw [hr2, Int.natAbs_tmod]
          have := zh_half (n := b.toInt.natAbs) (k := (a - a / b * b).toInt.natAbs) (by omega) (by rw [hr]; exact hr1)
          have e : 2 ^ (m + 1) = 2 * 2 ^ m := by rw [Nat.pow_succ]; omega
          omega
        obtain ⟨r, h4, h5⟩ := ih (d + 1) (a - a / b * b) _ (by omega) h3 (fun _ => hz2)
        exact ⟨r, zh_com1 I J _ a b r hz (zh_com1 I J _ b _ r hz2 h4), h5⟩
theorem zh_common (v : Nat) (hd : Nat × Option Nat × Bool × List (Nat × Nat)) : zt_Con zo_Om (zo_Rel v) (hd, (22, ([zt_ltop, (1, .ofNat 1, .ofNat 10000000000, 1, [])], [], []), [], [(some (5, .ofNat 0, .ofNat 0, 0, []), [], [], [])])) (zF_X10_common 120) :=
  zh_pure (w0 := zW_M) rfl (by decide +kernel) (fun as M hs _ _ hG => by
    obtain ⟨a, vs, rfl, -, -, h2⟩ := zh_long hs
    obtain ⟨b, vs, rfl, h3, h4, h5⟩ := zh_long h2
    obtain rfl := zh_nil h5
    have h3 : (1 : Int) ≤ b.toInt := h3
    have h4 : b.toInt ≤ 10000000000 := h4
    obtain ⟨r, h6, h7⟩ := zh_com M.1 M.2 34 120 a b (by omega) (by omega) (by omega)
    exact ⟨_, h6, _, List.mem_cons_self, ⟨⟨_, rfl, ⟨r, rfl, h7, zt_nms_nil _⟩⟩, zh_no, zh_no, zh_no⟩⟩)
end
