/-! A FRESH OBJECT: back, row (printed by program, wip/gen/gen52.py) -/
def zW_Z : zm_L := [(.inl 9, [.ref 51, .ref 1, .ref 11, .ref 164, .ref 53, .ref 21, .ref 32, .ref 43, .ref 68, .ref 72, .ref 63, .ref 66, .ref 62]), (.inl 0, [.null, .null, .null, .null, .null, .null, .null, .null, .ref 2, .ref 3, .ref 4, .ref 5, .ref 6, .ref 7, .ref 8, .ref 9, .ref 10]), (.inr (.int, 6), []), (.inr (.int, 5), []), (.inr (.int, 5), []), (.inr (.int, 5), []), (.inr (.int, 5), []), (.inr (.int, 5), []), (.inr (.int, 41), []), (.inr (.int, 41), []), (.inr (.int, 41), []), (.inl 0, [.null, .null, .null, .null, .null, .null, .null, .null, .ref 12, .ref 13, .ref 14, .ref 15, .ref 16, .ref 17, .ref 18, .ref 19, .ref 20]), (.inr (.int, 6), []), (.inr (.int, 5), []), (.inr (.int, 5), []), (.inr (.int, 5), []), (.inr (.int, 5), []), (.inr (.int, 5), []), (.inr (.int, 41), []), (.inr (.int, 41), []), (.inr (.int, 41), []), (.inl 3, [.ref 22, .null, .ref 30, .ref 31]), (.inl 2, [.ref 23, .ref 24, .ref 25, .ref 26, .ref 27, .ref 28, .ref 29]), (.inr (.int, 5), []), (.inr (.int, 5), []), (.inr (.int, 5), []), (.inr (.int, 5), []), (.inr (.int, 5), []), (.inr (.int, 5), []), (.inr (.int, 6), []), (.inr (.int, 305), []), (.inr (.int, 305), []), (.inl 3, [.ref 33, .null, .ref 41, .ref 42]), (.inl 2, [.ref 34, .ref 35, .ref 36, .ref 37, .ref 38, .ref 39, .ref 40]), (.inr (.int, 5), []), (.inr (.int, 5), []), (.inr (.int, 5), []), (.inr (.int, 5), []), (.inr (.int, 5), []), (.inr (.int, 5), []), (.inr (.int, 6), []), (.inr (.int, 305), []), (.inr (.int, 305), []), (.inl 2, [.ref 44, .ref 45, .ref 46, .ref 47, .ref 48, .ref 49, .ref 50]), (.inr (.int, 5), []), (.inr (.int, 5), []), (.inr (.int, 5), []), (.inr (.int, 5), []), (.inr (.int, 5), []), (.inr (.int, 5), []), (.inr (.int, 6), []), (.inl 8, [.ref 52]), (.inr (.int, 800), []), (.inr (.object "WearingBench$Row", 4), [.ref 54, .ref 56, .ref 58, .ref 60]), (.inl 7, [.null, .null, .ref 55]), (.inr (.long, 60), []), (.inl 7, [.null, .null, .ref 57]), (.inr (.long, 60), []), (.inl 7, [.null, .null, .ref 59]), (.inr (.long, 60), []), (.inl 7, [.null, .null, .ref 61]), (.inr (.long, 60), []), (.inr (.int, 366), []), (.inl 5, [.null, .ref 64, .ref 65]), (.inr (.int, 10), []), (.inr (.int, 10), []), (.inl 4, [.null, .null, .ref 67]), (.inr (.int, 36), []), (.inl 6, [.null, .null, .null, .ref 69, .ref 70, .ref 71]), (.inr (.int, 5), []), (.inr (.int, 5), []), (.inr (.int, 5), []), (.inl 1, [.null, .ref 73, .ref 74, .ref 75]), (.inr (.long, 50), []), (.inr (.long, 50), []), (.inr (.object "WearingBench$Day", 11), [.ref 76, .ref 84, .ref 92, .ref 100, .ref 108, .ref 116, .ref 124, .ref 132, .ref 140, .ref 148, .ref 156]), (.inl 2, [.ref 77, .ref 78, .ref 79, .ref 80, .ref 81, .ref 82, .ref 83]), (.inr (.int, 5), []), (.inr (.int, 5), []), (.inr (.int, 5), []), (.inr (.int, 5), []), (.inr (.int, 5), []), (.inr (.int, 5), []), (.inr (.int, 6), []), (.inl 2, [.ref 85, .ref 86, .ref 87, .ref 88, .ref 89, .ref 90, .ref 91]), (.inr (.int, 5), []), (.inr (.int, 5), []), (.inr (.int, 5), []), (.inr (.int, 5), []), (.inr (.int, 5), []), (.inr (.int, 5), []), (.inr (.int, 6), []), (.inl 2, [.ref 93, .ref 94, .ref 95, .ref 96, .ref 97, .ref 98, .ref 99]), (.inr (.int, 5), []), (.inr (.int, 5), []), (.inr (.int, 5), []), (.inr (.int, 5), []), (.inr (.int, 5), []), (.inr (.int, 5), []), (.inr (.int, 6), []), (.inl 2, [.ref 101, .ref 102, .ref 103, .ref 104, .ref 105, .ref 106, .ref 107]), (.inr (.int, 5), []), (.inr (.int, 5), []), (.inr (.int, 5), []), (.inr (.int, 5), []), (.inr (.int, 5), []), (.inr (.int, 5), []), (.inr (.int, 6), []), (.inl 2, [.ref 109, .ref 110, .ref 111, .ref 112, .ref 113, .ref 114, .ref 115]), (.inr (.int, 5), []), (.inr (.int, 5), []), (.inr (.int, 5), []), (.inr (.int, 5), []), (.inr (.int, 5), []), (.inr (.int, 5), []), (.inr (.int, 6), []), (.inl 2, [.ref 117, .ref 118, .ref 119, .ref 120, .ref 121, .ref 122, .ref 123]), (.inr (.int, 5), []), (.inr (.int, 5), []), (.inr (.int, 5), []), (.inr (.int, 5), []), (.inr (.int, 5), []), (.inr (.int, 5), []), (.inr (.int, 6), []), (.inl 2, [.ref 125, .ref 126, .ref 127, .ref 128, .ref 129, .ref 130, .ref 131]), (.inr (.int, 5), []), (.inr (.int, 5), []), (.inr (.int, 5), []), (.inr (.int, 5), []), (.inr (.int, 5), []), (.inr (.int, 5), []), (.inr (.int, 6), []), (.inl 2, [.ref 133, .ref 134, .ref 135, .ref 136, .ref 137, .ref 138, .ref 139]), (.inr (.int, 5), []), (.inr (.int, 5), []), (.inr (.int, 5), []), (.inr (.int, 5), []), (.inr (.int, 5), []), (.inr (.int, 5), []), (.inr (.int, 6), []), (.inl 2, [.ref 141, .ref 142, .ref 143, .ref 144, .ref 145, .ref 146, .ref 147]), (.inr (.int, 5), []), (.inr (.int, 5), []), (.inr (.int, 5), []), (.inr (.int, 5), []), (.inr (.int, 5), []), (.inr (.int, 5), []), (.inr (.int, 6), []), (.inl 2, [.ref 149, .ref 150, .ref 151, .ref 152, .ref 153, .ref 154, .ref 155]), (.inr (.int, 5), []), (.inr (.int, 5), []), (.inr (.int, 5), []), (.inr (.int, 5), []), (.inr (.int, 5), []), (.inr (.int, 5), []), (.inr (.int, 6), []), (.inl 2, [.ref 157, .ref 158, .ref 159, .ref 160, .ref 161, .ref 162, .ref 163]), (.inr (.int, 5), []), (.inr (.int, 5), []), (.inr (.int, 5), []), (.inr (.int, 5), []), (.inr (.int, 5), []), (.inr (.int, 5), []), (.inr (.int, 6), []), (.inr (.object "WearingBench$Bench", 3), [.null, .null, .null])]
theorem zi_three {l : Int32} (h0 : ¬ l < 0) (h3 : l < 3) : l = 0 ∨ l = 1 ∨ l = 2 := by
  have h0 := Int32.not_lt.mp h0
  rw [Int32.le_iff_toInt_le] at h0
  rw [Int32.lt_iff_toInt_lt] at h3
  have e0 : (0 : Int32).toInt = 0 := by decide
  have e3 : (3 : Int32).toInt = 3 := by decide
  have h : l.toInt = 0 ∨ l.toInt = 1 ∨ l.toInt = 2 := by omega
  rcases h with h | h | h
  · exact Or.inl (Int32.toInt_inj.mp (h.trans (by decide)))
  · exact Or.inr (Or.inl (Int32.toInt_inj.mp (h.trans (by decide))))
  · exact Or.inr (Or.inr (Int32.toInt_inj.mp (h.trans (by decide))))
theorem zl_subZ : zm_sub [(0, 165)] zL_C = zW_Z := zn_eqL_ok (by decide +kernel)
set_option maxRecDepth 20000 in
theorem zl_callZ {nn : Nat} {F : zm_L → List Value → zm_I → zm_R} {as : List Value} {v : Value} {N : zm_I} (h : F zW_Z (.ref 0 :: as) (zm_sub2 [(0, 165)] zL_M) = some (some v, N)) (ha : as.map (zm_tr [(0, 165)]) = as) (hv : zm_bk [(0, 165)] v = v) (k : Option Value → zm_I → zm_R) : zm_app (nn, some 9, false, [(0, 165)], F) zL_C (.ref 0 :: as) zL_M k = k (some v) (zm_mrg [(0, 165)] zL_M N) := by
  have g := zm_app_l (C := (nn, some 9, false, [(0, 165)], F)) (wl := zL_C) (as := .ref 0 :: as) (wc := zW_Z) (ac := .ref 0 :: as) (bs := [(0, 165)]) (M := zL_M) (k := k) rfl rfl rfl rfl zl_subZ (by rw [List.map_cons, ha]; rfl) h
  rw [g]
  simp only [Option.map_some, hv]
theorem zl_inZ {n : Nat} : zm_in [(0, 165)] (165 + n) = false := by
  have h : Nat.ble (165 + n + 1) (0 + 165) = false := by
    cases hq : Nat.ble (165 + n + 1) (0 + 165) with
    | false => rfl
    | true => have := Nat.le_of_ble_eq_true hq; omega
  simp only [zm_in, h, Bool.and_false, Bool.or_false]
theorem zl_freshMZ (N : zm_I) : zy_M (zm_sub2 [(165, 31)] (zm_mrg [(0, 165)] zL_M N)).1 (zm_sub2 [(165, 31)] (zm_mrg [(0, 165)] zL_M N)).2 := by
  constructor
  · intro n i hn
    show (zm_mrg [(0, 165)] zL_M N).1 (zm_fw [(165, 31)] n) i = zc_M n i
    have : zm_fw [(165, 31)] n = 165 + n := by simp [zm_fw, hn]
    rw [this]
    simp only [zm_mrg, zl_inZ]
    rw [zL_M1 (by omega), zl_WM hn]
  · intro n i hn
    show (zm_mrg [(0, 165)] zL_M N).2 (zm_fw [(165, 31)] n) i = 0
    have : zm_fw [(165, 31)] n = 165 + n := by simp [zm_fw, hn]
    rw [this]
    simp only [zm_mrg, zl_inZ]
    exact zL_M2 _ _
section ZYB
variable {I : Nat → Nat → Int32} {J : Nat → Nat → Int64}
set_option maxRecDepth 20000 in
theorem zpx_back_1 {l1 : Int32} (h : l1 < 0) : zF_X9_back zW_Z [.ref 0, .int l1] (I, J) = some (some (.int (-2)), (I, J)) := by
  show zm_V zT_X9_back zW_Z (0, [some (.ref 0), some (.int l1), none], [], (I, J)) = _
  refine Eq.trans ((zm_V_eq _ _ _).trans (show zm_step zT_X9_back zW_Z (zm_V zT_X9_back zW_Z) (0, [some (.ref 0), some (.int l1), none], [], (I, J)) = if (l1 : Int32) < 0 then zm_V zT_X9_back zW_Z (9, [some (.ref 0), some (.int l1), none], [], (I, J)) else zm_V zT_X9_back zW_Z (4, [some (.ref 0), some (.int l1), none], [], (I, J)) from rfl)) ?_
  rw [if_pos (h)]
  show zm_V zT_X9_back zW_Z (9, [some (.ref 0), some (.int l1), none], [], (I, J)) = _
  refine Eq.trans ((zm_V_eq _ _ _).trans (show zm_step zT_X9_back zW_Z (zm_V zT_X9_back zW_Z) (9, [some (.ref 0), some (.int l1), none], [], (I, J)) = some (some (.int (-2)), (I, J)) from rfl)) ?_
  rfl
set_option maxRecDepth 20000 in
theorem zpx_back_2 {l1 : Int32} (h0 : ¬ l1 < 0) (h3 : ¬ l1 < 3) : zF_X9_back zW_Z [.ref 0, .int l1] (I, J) = some (some (.int (-2)), (I, J)) := by
  show zm_V zT_X9_back zW_Z (0, [some (.ref 0), some (.int l1), none], [], (I, J)) = _
  refine Eq.trans ((zm_V_eq _ _ _).trans (show zm_step zT_X9_back zW_Z (zm_V zT_X9_back zW_Z) (0, [some (.ref 0), some (.int l1), none], [], (I, J)) = if (l1 : Int32) < 0 then zm_V zT_X9_back zW_Z (9, [some (.ref 0), some (.int l1), none], [], (I, J)) else zm_V zT_X9_back zW_Z (4, [some (.ref 0), some (.int l1), none], [], (I, J)) from rfl)) ?_
  rw [if_neg (h0)]
  show zm_V zT_X9_back zW_Z (4, [some (.ref 0), some (.int l1), none], [], (I, J)) = _
  refine Eq.trans ((zm_V_eq _ _ _).trans (show zm_step zT_X9_back zW_Z (zm_V zT_X9_back zW_Z) (4, [some (.ref 0), some (.int l1), none], [], (I, J)) = if (l1 : Int32) < 3 then zm_V zT_X9_back zW_Z (12, [some (.ref 0), some (.int l1), none], [], (I, J)) else zm_V zT_X9_back zW_Z (9, [some (.ref 0), some (.int l1), none], [], (I, J)) from rfl)) ?_
  rw [if_neg (h3)]
  show zm_V zT_X9_back zW_Z (9, [some (.ref 0), some (.int l1), none], [], (I, J)) = _
  refine Eq.trans ((zm_V_eq _ _ _).trans (show zm_step zT_X9_back zW_Z (zm_V zT_X9_back zW_Z) (9, [some (.ref 0), some (.int l1), none], [], (I, J)) = some (some (.int (-2)), (I, J)) from rfl)) ?_
  rfl
set_option maxRecDepth 20000 in
theorem zpx_back_r0 : zF_X9_back zW_Z [.ref 0, .int 0] (I, J) = some (some (.int (-6)), (I, J)) := by
  show zm_V zT_X9_back zW_Z (0, [some (.ref 0), some (.int 0), none], [], (I, J)) = _
  refine Eq.trans ((zm_V_eq _ _ _).trans (show zm_step zT_X9_back zW_Z (zm_V zT_X9_back zW_Z) (0, [some (.ref 0), some (.int 0), none], [], (I, J)) = if ((0 : Int32) : Int32) < 0 then zm_V zT_X9_back zW_Z (9, [some (.ref 0), some (.int 0), none], [], (I, J)) else zm_V zT_X9_back zW_Z (4, [some (.ref 0), some (.int 0), none], [], (I, J)) from rfl)) ?_
  rw [if_neg (by decide)]
  show zm_V zT_X9_back zW_Z (4, [some (.ref 0), some (.int 0), none], [], (I, J)) = _
  refine Eq.trans ((zm_V_eq _ _ _).trans (show zm_step zT_X9_back zW_Z (zm_V zT_X9_back zW_Z) (4, [some (.ref 0), some (.int 0), none], [], (I, J)) = if ((0 : Int32) : Int32) < 3 then zm_V zT_X9_back zW_Z (12, [some (.ref 0), some (.int 0), none], [], (I, J)) else zm_V zT_X9_back zW_Z (9, [some (.ref 0), some (.int 0), none], [], (I, J)) from rfl)) ?_
  rw [if_pos (by decide)]
  show zm_V zT_X9_back zW_Z (12, [some (.ref 0), some (.int 0), none], [], (I, J)) = _
  refine Eq.trans ((zm_V_eq _ _ _).trans (show zm_step zT_X9_back zW_Z (zm_V zT_X9_back zW_Z) (12, [some (.ref 0), some (.int 0), none], [], (I, J)) = zm_V zT_X9_back zW_Z (23, [some (.ref 0), some (.int 0), some (.null)], [], (I, J)) from rfl)) ?_
  show zm_V zT_X9_back zW_Z (23, [some (.ref 0), some (.int 0), some (.null)], [], (I, J)) = _
  refine Eq.trans ((zm_V_eq _ _ _).trans (show zm_step zT_X9_back zW_Z (zm_V zT_X9_back zW_Z) (23, [some (.ref 0), some (.int 0), some (.null)], [], (I, J)) = some (some (.int (-6)), (I, J)) from rfl)) ?_
  rfl
set_option maxRecDepth 20000 in
theorem zpx_back_r1 : zF_X9_back zW_Z [.ref 0, .int 1] (I, J) = some (some (.int (-6)), (I, J)) := by
  show zm_V zT_X9_back zW_Z (0, [some (.ref 0), some (.int 1), none], [], (I, J)) = _
  refine Eq.trans ((zm_V_eq _ _ _).trans (show zm_step zT_X9_back zW_Z (zm_V zT_X9_back zW_Z) (0, [some (.ref 0), some (.int 1), none], [], (I, J)) = if ((1 : Int32) : Int32) < 0 then zm_V zT_X9_back zW_Z (9, [some (.ref 0), some (.int 1), none], [], (I, J)) else zm_V zT_X9_back zW_Z (4, [some (.ref 0), some (.int 1), none], [], (I, J)) from rfl)) ?_
  rw [if_neg (by decide)]
  show zm_V zT_X9_back zW_Z (4, [some (.ref 0), some (.int 1), none], [], (I, J)) = _
  refine Eq.trans ((zm_V_eq _ _ _).trans (show zm_step zT_X9_back zW_Z (zm_V zT_X9_back zW_Z) (4, [some (.ref 0), some (.int 1), none], [], (I, J)) = if ((1 : Int32) : Int32) < 3 then zm_V zT_X9_back zW_Z (12, [some (.ref 0), some (.int 1), none], [], (I, J)) else zm_V zT_X9_back zW_Z (9, [some (.ref 0), some (.int 1), none], [], (I, J)) from rfl)) ?_
  rw [if_pos (by decide)]
  show zm_V zT_X9_back zW_Z (12, [some (.ref 0), some (.int 1), none], [], (I, J)) = _
  refine Eq.trans ((zm_V_eq _ _ _).trans (show zm_step zT_X9_back zW_Z (zm_V zT_X9_back zW_Z) (12, [some (.ref 0), some (.int 1), none], [], (I, J)) = zm_V zT_X9_back zW_Z (23, [some (.ref 0), some (.int 1), some (.null)], [], (I, J)) from rfl)) ?_
  show zm_V zT_X9_back zW_Z (23, [some (.ref 0), some (.int 1), some (.null)], [], (I, J)) = _
  refine Eq.trans ((zm_V_eq _ _ _).trans (show zm_step zT_X9_back zW_Z (zm_V zT_X9_back zW_Z) (23, [some (.ref 0), some (.int 1), some (.null)], [], (I, J)) = some (some (.int (-6)), (I, J)) from rfl)) ?_
  rfl
set_option maxRecDepth 20000 in
theorem zpx_back_r2 : zF_X9_back zW_Z [.ref 0, .int 2] (I, J) = some (some (.int (-6)), (I, J)) := by
  show zm_V zT_X9_back zW_Z (0, [some (.ref 0), some (.int 2), none], [], (I, J)) = _
  refine Eq.trans ((zm_V_eq _ _ _).trans (show zm_step zT_X9_back zW_Z (zm_V zT_X9_back zW_Z) (0, [some (.ref 0), some (.int 2), none], [], (I, J)) = if ((2 : Int32) : Int32) < 0 then zm_V zT_X9_back zW_Z (9, [some (.ref 0), some (.int 2), none], [], (I, J)) else zm_V zT_X9_back zW_Z (4, [some (.ref 0), some (.int 2), none], [], (I, J)) from rfl)) ?_
  rw [if_neg (by decide)]
  show zm_V zT_X9_back zW_Z (4, [some (.ref 0), some (.int 2), none], [], (I, J)) = _
  refine Eq.trans ((zm_V_eq _ _ _).trans (show zm_step zT_X9_back zW_Z (zm_V zT_X9_back zW_Z) (4, [some (.ref 0), some (.int 2), none], [], (I, J)) = if ((2 : Int32) : Int32) < 3 then zm_V zT_X9_back zW_Z (12, [some (.ref 0), some (.int 2), none], [], (I, J)) else zm_V zT_X9_back zW_Z (9, [some (.ref 0), some (.int 2), none], [], (I, J)) from rfl)) ?_
  rw [if_pos (by decide)]
  show zm_V zT_X9_back zW_Z (12, [some (.ref 0), some (.int 2), none], [], (I, J)) = _
  refine Eq.trans ((zm_V_eq _ _ _).trans (show zm_step zT_X9_back zW_Z (zm_V zT_X9_back zW_Z) (12, [some (.ref 0), some (.int 2), none], [], (I, J)) = zm_V zT_X9_back zW_Z (23, [some (.ref 0), some (.int 2), some (.null)], [], (I, J)) from rfl)) ?_
  show zm_V zT_X9_back zW_Z (23, [some (.ref 0), some (.int 2), some (.null)], [], (I, J)) = _
  refine Eq.trans ((zm_V_eq _ _ _).trans (show zm_step zT_X9_back zW_Z (zm_V zT_X9_back zW_Z) (23, [some (.ref 0), some (.int 2), some (.null)], [], (I, J)) = some (some (.int (-6)), (I, J)) from rfl)) ?_
  rfl
set_option maxRecDepth 20000 in
theorem zpm_back_n {l1 : Int32} (hq : zF_X10_in zW_M [.long (Int32.toInt64 l1), .long 0, .long (2)] ((zm_w I 0 0 0), J) = some (some (.int 0), ((zm_w I 0 0 0), J))) : zF_X10_back zW_M [.ref 0, .int l1] (I, J) = some (some (.int (-2)), ((zm_w I 0 0 0), J)) := by
  show zm_V zT_X10_back zW_M (0, [some (.ref 0), some (.int l1)], [], (I, J)) = _
  refine Eq.trans ((zm_V_eq _ _ _).trans ((show zm_step zT_X10_back zW_M (zm_V zT_X10_back zW_M) (0, [some (.ref 0), some (.int l1)], [], (I, J)) = zm_app (3, none, true, [], zF_X10_in) zW_M [.long (Int32.toInt64 l1), .long 0, .long (2)] ((zm_w I 0 0 0), J) (fun v N => zm_V zT_X10_back zW_M (14, [some (.ref 0), some (.int l1)], v.toList ++ [], N)) from rfl).trans (zm_app_s rfl rfl (hq)))) ?_
  show zm_V zT_X10_back zW_M (14, [some (.ref 0), some (.int l1)], [.int 0], ((zm_w I 0 0 0), J)) = _
  refine Eq.trans ((zm_V_eq _ _ _).trans (show zm_step zT_X10_back zW_M (zm_V zT_X10_back zW_M) (14, [some (.ref 0), some (.int l1)], [.int 0], ((zm_w I 0 0 0), J)) = if ((0 : Int32) : Int32) = 0 then zm_V zT_X10_back zW_M (17, [some (.ref 0), some (.int l1)], [], ((zm_w I 0 0 0), J)) else zm_V zT_X10_back zW_M (20, [some (.ref 0), some (.int l1)], [], ((zm_w I 0 0 0), J)) from rfl)) ?_
  rw [if_pos (by decide)]
  show zm_V zT_X10_back zW_M (17, [some (.ref 0), some (.int l1)], [], ((zm_w I 0 0 0), J)) = _
  refine Eq.trans ((zm_V_eq _ _ _).trans (show zm_step zT_X10_back zW_M (zm_V zT_X10_back zW_M) (17, [some (.ref 0), some (.int l1)], [], ((zm_w I 0 0 0), J)) = some (some (.int (-2)), ((zm_w I 0 0 0), J)) from rfl)) ?_
  rfl
set_option maxRecDepth 20000 in
theorem zpm_back_0 (h : zy_M I J) : zF_X10_back zW_M [.ref 0, .int 0] (I, J) = some (some (.int (-6)), ((zm_w I 0 0 0), J)) := by
  show zm_V zT_X10_back zW_M (0, [some (.ref 0), some (.int 0)], [], (I, J)) = _
  refine Eq.trans ((zm_V_eq _ _ _).trans ((show zm_step zT_X10_back zW_M (zm_V zT_X10_back zW_M) (0, [some (.ref 0), some (.int 0)], [], (I, J)) = zm_app (3, none, true, [], zF_X10_in) zW_M [.long (Int32.toInt64 0), .long 0, .long (2)] ((zm_w I 0 0 0), J) (fun v N => zm_V zT_X10_back zW_M (14, [some (.ref 0), some (.int 0)], v.toList ++ [], N)) from rfl).trans (zm_app_s rfl rfl (zgm_in32 0 0 2 (by decide) (by decide))))) ?_
  show zm_V zT_X10_back zW_M (14, [some (.ref 0), some (.int 0)], [.int 1], ((zm_w I 0 0 0), J)) = _
  refine Eq.trans ((zm_V_eq _ _ _).trans (show zm_step zT_X10_back zW_M (zm_V zT_X10_back zW_M) (14, [some (.ref 0), some (.int 0)], [.int 1], ((zm_w I 0 0 0), J)) = if ((1 : Int32) : Int32) = 0 then zm_V zT_X10_back zW_M (17, [some (.ref 0), some (.int 0)], [], ((zm_w I 0 0 0), J)) else zm_V zT_X10_back zW_M (20, [some (.ref 0), some (.int 0)], [], ((zm_w I 0 0 0), J)) from rfl)) ?_
  rw [if_neg (by decide)]
  show zm_V zT_X10_back zW_M (20, [some (.ref 0), some (.int 0)], [], ((zm_w I 0 0 0), J)) = _
  refine Eq.trans ((zm_V_eq _ _ _).trans (show zm_step zT_X10_back zW_M (zm_V zT_X10_back zW_M) (20, [some (.ref 0), some (.int 0)], [], ((zm_w I 0 0 0), J)) = if (0 : Int32) < 0 ∨ 3 ≤ Int32.toNatClampNeg 0 then none else if (((zm_w I 0 0 0) 11 (Int32.toNatClampNeg 0)) : Int32) = 0 then zm_V zT_X10_back zW_M (29, [some (.ref 0), some (.int 0)], [], ((zm_w I 0 0 0), J)) else zm_V zT_X10_back zW_M (32, [some (.ref 0), some (.int 0)], [], ((zm_w I 0 0 0), J)) from rfl)) ?_
  rw [if_neg (by decide)]
  rw [if_pos (by rw [show Int32.toNatClampNeg 0 = 0 by decide]; exact ((zy_M_t h).1 11 0 (by decide)).trans (by decide))]
  show zm_V zT_X10_back zW_M (29, [some (.ref 0), some (.int 0)], [], ((zm_w I 0 0 0), J)) = _
  refine Eq.trans ((zm_V_eq _ _ _).trans (show zm_step zT_X10_back zW_M (zm_V zT_X10_back zW_M) (29, [some (.ref 0), some (.int 0)], [], ((zm_w I 0 0 0), J)) = some (some (.int (-6)), ((zm_w I 0 0 0), J)) from rfl)) ?_
  rfl
set_option maxRecDepth 20000 in
theorem zpm_back_1 (h : zy_M I J) : zF_X10_back zW_M [.ref 0, .int 1] (I, J) = some (some (.int (-6)), ((zm_w I 0 0 0), J)) := by
  show zm_V zT_X10_back zW_M (0, [some (.ref 0), some (.int 1)], [], (I, J)) = _
  refine Eq.trans ((zm_V_eq _ _ _).trans ((show zm_step zT_X10_back zW_M (zm_V zT_X10_back zW_M) (0, [some (.ref 0), some (.int 1)], [], (I, J)) = zm_app (3, none, true, [], zF_X10_in) zW_M [.long (Int32.toInt64 1), .long 0, .long (2)] ((zm_w I 0 0 0), J) (fun v N => zm_V zT_X10_back zW_M (14, [some (.ref 0), some (.int 1)], v.toList ++ [], N)) from rfl).trans (zm_app_s rfl rfl (zgm_in32 1 0 2 (by decide) (by decide))))) ?_
  show zm_V zT_X10_back zW_M (14, [some (.ref 0), some (.int 1)], [.int 1], ((zm_w I 0 0 0), J)) = _
  refine Eq.trans ((zm_V_eq _ _ _).trans (show zm_step zT_X10_back zW_M (zm_V zT_X10_back zW_M) (14, [some (.ref 0), some (.int 1)], [.int 1], ((zm_w I 0 0 0), J)) = if ((1 : Int32) : Int32) = 0 then zm_V zT_X10_back zW_M (17, [some (.ref 0), some (.int 1)], [], ((zm_w I 0 0 0), J)) else zm_V zT_X10_back zW_M (20, [some (.ref 0), some (.int 1)], [], ((zm_w I 0 0 0), J)) from rfl)) ?_
  rw [if_neg (by decide)]
  show zm_V zT_X10_back zW_M (20, [some (.ref 0), some (.int 1)], [], ((zm_w I 0 0 0), J)) = _
  refine Eq.trans ((zm_V_eq _ _ _).trans (show zm_step zT_X10_back zW_M (zm_V zT_X10_back zW_M) (20, [some (.ref 0), some (.int 1)], [], ((zm_w I 0 0 0), J)) = if (1 : Int32) < 0 ∨ 3 ≤ Int32.toNatClampNeg 1 then none else if (((zm_w I 0 0 0) 11 (Int32.toNatClampNeg 1)) : Int32) = 0 then zm_V zT_X10_back zW_M (29, [some (.ref 0), some (.int 1)], [], ((zm_w I 0 0 0), J)) else zm_V zT_X10_back zW_M (32, [some (.ref 0), some (.int 1)], [], ((zm_w I 0 0 0), J)) from rfl)) ?_
  rw [if_neg (by decide)]
  rw [if_pos (by rw [show Int32.toNatClampNeg 1 = 1 by decide]; exact ((zy_M_t h).1 11 1 (by decide)).trans (by decide))]
  show zm_V zT_X10_back zW_M (29, [some (.ref 0), some (.int 1)], [], ((zm_w I 0 0 0), J)) = _
  refine Eq.trans ((zm_V_eq _ _ _).trans (show zm_step zT_X10_back zW_M (zm_V zT_X10_back zW_M) (29, [some (.ref 0), some (.int 1)], [], ((zm_w I 0 0 0), J)) = some (some (.int (-6)), ((zm_w I 0 0 0), J)) from rfl)) ?_
  rfl
set_option maxRecDepth 20000 in
theorem zpm_back_2 (h : zy_M I J) : zF_X10_back zW_M [.ref 0, .int 2] (I, J) = some (some (.int (-6)), ((zm_w I 0 0 0), J)) := by
  show zm_V zT_X10_back zW_M (0, [some (.ref 0), some (.int 2)], [], (I, J)) = _
  refine Eq.trans ((zm_V_eq _ _ _).trans ((show zm_step zT_X10_back zW_M (zm_V zT_X10_back zW_M) (0, [some (.ref 0), some (.int 2)], [], (I, J)) = zm_app (3, none, true, [], zF_X10_in) zW_M [.long (Int32.toInt64 2), .long 0, .long (2)] ((zm_w I 0 0 0), J) (fun v N => zm_V zT_X10_back zW_M (14, [some (.ref 0), some (.int 2)], v.toList ++ [], N)) from rfl).trans (zm_app_s rfl rfl (zgm_in32 2 0 2 (by decide) (by decide))))) ?_
  show zm_V zT_X10_back zW_M (14, [some (.ref 0), some (.int 2)], [.int 1], ((zm_w I 0 0 0), J)) = _
  refine Eq.trans ((zm_V_eq _ _ _).trans (show zm_step zT_X10_back zW_M (zm_V zT_X10_back zW_M) (14, [some (.ref 0), some (.int 2)], [.int 1], ((zm_w I 0 0 0), J)) = if ((1 : Int32) : Int32) = 0 then zm_V zT_X10_back zW_M (17, [some (.ref 0), some (.int 2)], [], ((zm_w I 0 0 0), J)) else zm_V zT_X10_back zW_M (20, [some (.ref 0), some (.int 2)], [], ((zm_w I 0 0 0), J)) from rfl)) ?_
  rw [if_neg (by decide)]
  show zm_V zT_X10_back zW_M (20, [some (.ref 0), some (.int 2)], [], ((zm_w I 0 0 0), J)) = _
  refine Eq.trans ((zm_V_eq _ _ _).trans (show zm_step zT_X10_back zW_M (zm_V zT_X10_back zW_M) (20, [some (.ref 0), some (.int 2)], [], ((zm_w I 0 0 0), J)) = if (2 : Int32) < 0 ∨ 3 ≤ Int32.toNatClampNeg 2 then none else if (((zm_w I 0 0 0) 11 (Int32.toNatClampNeg 2)) : Int32) = 0 then zm_V zT_X10_back zW_M (29, [some (.ref 0), some (.int 2)], [], ((zm_w I 0 0 0), J)) else zm_V zT_X10_back zW_M (32, [some (.ref 0), some (.int 2)], [], ((zm_w I 0 0 0), J)) from rfl)) ?_
  rw [if_neg (by decide)]
  rw [if_pos (by rw [show Int32.toNatClampNeg 2 = 2 by decide]; exact ((zy_M_t h).1 11 2 (by decide)).trans (by decide))]
  show zm_V zT_X10_back zW_M (29, [some (.ref 0), some (.int 2)], [], ((zm_w I 0 0 0), J)) = _
  refine Eq.trans ((zm_V_eq _ _ _).trans (show zm_step zT_X10_back zW_M (zm_V zT_X10_back zW_M) (29, [some (.ref 0), some (.int 2)], [], ((zm_w I 0 0 0), J)) = some (some (.int (-6)), ((zm_w I 0 0 0), J)) from rfl)) ?_
  rfl
end ZYB
theorem zl_back (xs : Nat → Int32) (M0 : zm_I) : zl_ok (zTo_back xs) zL_C M0 (2084, zl_ls, [], zL_M) := by
  have hi := fun (I : Nat → Nat → Int32) (J : Nat → Nat → Int64) => zgm_in32 (I := I) (J := J) (xs 1) 0 2 (B := 0) (C := 2) (by decide) (by decide)
  by_cases h0 : xs 1 < 0
  · simp only [if_pos h0] at hi
    exact zl_opI (zlt_back xs) M0 (zl1_back xs) (zl2_back xs) (zl3_back xs) (zl_callZ (zpx_back_1 h0) rfl rfl) (zl_callM (zpm_back_n (hi _ _)) rfl rfl)
  · by_cases h3 : xs 1 < 3
    · have h2 : ∀ (l : Int32) (v : Int32), xs 1 = l → (∀ (I : Nat → Nat → Int32) (J : Nat → Nat → Int64), zF_X9_back zW_Z [.ref 0, .int l] (I, J) = some (some (.int v), (I, J))) → (∀ (I : Nat → Nat → Int32) (J : Nat → Nat → Int64), zy_M I J → zF_X10_back zW_M [.ref 0, .int l] (I, J) = some (some (.int v), ((zm_w I 0 0 0), J))) → zl_ok (zTo_back xs) zL_C M0 (2084, zl_ls, [], zL_M) := fun l v hl g1 g2 => by
        subst hl
        exact zl_opI (zlt_back xs) M0 (zl1_back xs) (zl2_back xs) (zl3_back xs) (zl_callZ (g1 _ _) rfl rfl) (zl_callM (g2 _ _ (zl_freshMZ _)) rfl rfl)
      rcases zi_three h0 h3 with h | h | h
      · exact h2 0 (-6) h (fun _ _ => zpx_back_r0) (fun _ _ hM => zpm_back_0 hM)
      · exact h2 1 (-6) h (fun _ _ => zpx_back_r1) (fun _ _ hM => zpm_back_1 hM)
      · exact h2 2 (-6) h (fun _ _ => zpx_back_r2) (fun _ _ hM => zpm_back_2 hM)
    · have h4 : 2 < xs 1 := zi_2.mpr (Int32.not_lt.mp h3)
      simp only [if_neg h0, if_pos h4] at hi
      exact zl_opI (zlt_back xs) M0 (zl1_back xs) (zl2_back xs) (zl3_back xs) (zl_callZ (zpx_back_2 h0 h3) rfl rfl) (zl_callM (zpm_back_n (hi _ _)) rfl rfl)
theorem zi_ofn : ∀ m, m < 60 → Int32.ofNat m + 1 = Int32.ofNat (m + 1) := by decide
theorem zi_of60 : ∀ m, m < 60 → ¬ (Int32.ofNat 60 ≤ Int32.ofNat m) ∧ ¬ (Int32.ofNat m < 0 ∨ 60 ≤ Int32.toNatClampNeg (Int32.ofNat m)) := by decide
theorem zi_of240 : ∀ j, j < 4 → ∀ m, m < 60 → ¬ (60 * Int32.ofNat j + Int32.ofNat m < 0 ∨ 240 ≤ Int32.toNatClampNeg (60 * Int32.ofNat j + Int32.ofNat m)) := by decide
section ZYW
variable {I : Nat → Nat → Int32} {J : Nat → Nat → Int64}
def zW_A : zm_L := [(.inr (.long, 60), [])]
set_option maxRecDepth 20000 in
theorem zq_fill_6 (I : Nat → Nat → Int32) (J : Nat → Nat → Int64) (v : Int64) (n i : Int32) : zm_V zT_J7_fill_d0a16 zW_A (6, [some (.ref 0), some (.long v), none, some (.int i), some (.int n)], [], (I, J)) = if n ≤ i then zm_V zT_J7_fill_d0a16 zW_A (22, [some (.ref 0), some (.long v), none, some (.int i), some (.int n)], [], (I, J)) else zm_V zT_J7_fill_d0a16 zW_A (12, [some (.ref 0), some (.long v), none, some (.int i), some (.int n)], [], (I, J)) := (zm_V_eq _ _ _).trans rfl
set_option maxRecDepth 20000 in
theorem zq_fill_12 (I : Nat → Nat → Int32) (J : Nat → Nat → Int64) (v : Int64) (n i : Int32) : zm_V zT_J7_fill_d0a16 zW_A (12, [some (.ref 0), some (.long v), none, some (.int i), some (.int n)], [], (I, J)) = if i < 0 ∨ 60 ≤ Int32.toNatClampNeg i then none else zm_V zT_J7_fill_d0a16 zW_A (6, [some (.ref 0), some (.long v), none, some (.int (i + 1)), some (.int n)], [], (I, zm_wl J 0 (Int32.toNatClampNeg i) v)) := (zm_V_eq _ _ _).trans rfl
set_option maxRecDepth 20000 in
theorem zq_fill_22 (I : Nat → Nat → Int32) (J : Nat → Nat → Int64) (v : Int64) (n i : Int32) : zm_V zT_J7_fill_d0a16 zW_A (22, [some (.ref 0), some (.long v), none, some (.int i), some (.int n)], [], (I, J)) = some (none, (I, J)) := (zm_V_eq _ _ _).trans rfl
theorem zp_fill6 (I : Nat → Nat → Int32) (v : Int64) : ∀ (d m : Nat) (J : Nat → Nat → Int64), m + d = 60 → ∃ N : zm_I, zm_V zT_J7_fill_d0a16 zW_A (6, [some (.ref 0), some (.long v), none, some (.int (Int32.ofNat m)), some (.int (Int32.ofNat 60))], [], (I, J)) = some (none, N)
  | 0, m, J, h => by
    have hm : m = 60 := by omega
    subst hm
    rw [zq_fill_6, if_pos (by decide), zq_fill_22]
    exact ⟨_, rfl⟩
  | d + 1, m, J, h => by
    have hm : m < 60 := by omega
    rw [zq_fill_6, if_neg (zi_of60 m hm).1, zq_fill_12, if_neg (zi_of60 m hm).2, zi_ofn m hm]
    exact zp_fill6 I v d (m + 1) _ (by omega)
set_option maxRecDepth 20000 in
theorem zp_fill (I : Nat → Nat → Int32) (J : Nat → Nat → Int64) : ∃ N : zm_I, zF_J7_fill_d0a16 zW_A [.ref 0, .long 0] (I, J) = some (none, N) := by
  have e : zF_J7_fill_d0a16 zW_A [.ref 0, .long 0] (I, J) = zm_V zT_J7_fill_d0a16 zW_A (6, [some (.ref 0), some (.long 0), none, some (.int (Int32.ofNat 0)), some (.int (Int32.ofNat 60))], [], (I, J)) := (zm_V_eq _ _ _).trans rfl
  rw [e]
  exact zp_fill6 I 0 60 0 J rfl
theorem zp_start (I : Nat → Nat → Int32) (J : Nat → Nat → Int64) (l1 l2 : Int32) : ∃ N : zm_I, zF_X7_start zW_R [.ref 0, .int l1, .int l2] (I, J) = some (none, N) := by
  obtain ⟨N, hN⟩ := zp_fill (zm_sub2 [(1, 1)] ((zm_w (zm_w I 0 0 l1) 0 1 l2), J)).1 (zm_sub2 [(1, 1)] ((zm_w (zm_w I 0 0 l1) 0 1 l2), J)).2
  rw [zf_X7_start_R, zc_X7_start_R_0 _ _ _ _ hN, zq_X7_start_R_18]
  exact ⟨_, rfl⟩
set_option maxRecDepth 20000 in
theorem zpx_row_n {l1 : Int32} (hn : l1 < 0 ∨ 4 ≤ l1) (l2 l3 : Int32) : zF_X9_row zW_X [.ref 0, .int l1, .int l2, .int l3] (I, J) = some (some (.int (-2)), (I, J)) := by
  show zm_V zT_X9_row zW_X (0, [some (.ref 0), some (.int l1), some (.int l2), some (.int l3), none], [], (I, J)) = _
  refine Eq.trans ((zm_V_eq _ _ _).trans ((show zm_step zT_X9_row zW_X (zm_V zT_X9_row zW_X) (0, [some (.ref 0), some (.int l1), some (.int l2), some (.int l3), none], [], (I, J)) = zm_app (2, some 9, true, [], zF_X9_rowAt) zW_X [.ref 0, .int l1] (I, J) (fun v N => zm_V zT_X9_row zW_X (5, [some (.ref 0), some (.int l1), some (.int l2), some (.int l3), none], v.toList ++ [], N)) from rfl).trans (zm_app_s rfl rfl (zgx_rowAt_n hn)))) ?_
  show zm_V zT_X9_row zW_X (5, [some (.ref 0), some (.int l1), some (.int l2), some (.int l3), none], [.null], (I, J)) = _
  refine Eq.trans ((zm_V_eq _ _ _).trans (show zm_step zT_X9_row zW_X (zm_V zT_X9_row zW_X) (5, [some (.ref 0), some (.int l1), some (.int l2), some (.int l3), none], [.null], (I, J)) = zm_V zT_X9_row zW_X (27, [some (.ref 0), some (.int l1), some (.int l2), some (.int l3), some (.null)], [], (I, J)) from rfl)) ?_
  show zm_V zT_X9_row zW_X (27, [some (.ref 0), some (.int l1), some (.int l2), some (.int l3), some (.null)], [], (I, J)) = _
  refine Eq.trans ((zm_V_eq _ _ _).trans (show zm_step zT_X9_row zW_X (zm_V zT_X9_row zW_X) (27, [some (.ref 0), some (.int l1), some (.int l2), some (.int l3), some (.null)], [], (I, J)) = some (some (.int (-2)), (I, J)) from rfl)) ?_
  rfl
set_option maxRecDepth 20000 in
theorem zpx_row_54a {l2 : Int32} (h2 : l2 < 0) (l3 : Int32) : zF_X9_row zW_X [.ref 0, .int 0, .int l2, .int l3] (I, J) = some (some (.int (-2)), (I, J)) := by
  show zm_V zT_X9_row zW_X (0, [some (.ref 0), some (.int 0), some (.int l2), some (.int l3), none], [], (I, J)) = _
  refine Eq.trans ((zm_V_eq _ _ _).trans ((show zm_step zT_X9_row zW_X (zm_V zT_X9_row zW_X) (0, [some (.ref 0), some (.int 0), some (.int l2), some (.int l3), none], [], (I, J)) = zm_app (2, some 9, true, [], zF_X9_rowAt) zW_X [.ref 0, .int 0] (I, J) (fun v N => zm_V zT_X9_row zW_X (5, [some (.ref 0), some (.int 0), some (.int l2), some (.int l3), none], v.toList ++ [], N)) from rfl).trans (zm_app_s rfl rfl (zgx_rowAt_r0)))) ?_
  show zm_V zT_X9_row zW_X (5, [some (.ref 0), some (.int 0), some (.int l2), some (.int l3), none], [.ref 54], (I, J)) = _
  refine Eq.trans ((zm_V_eq _ _ _).trans (show zm_step zT_X9_row zW_X (zm_V zT_X9_row zW_X) (5, [some (.ref 0), some (.int 0), some (.int l2), some (.int l3), none], [.ref 54], (I, J)) = zm_V zT_X9_row zW_X (12, [some (.ref 0), some (.int 0), some (.int l2), some (.int l3), some (.ref 54)], [], (I, J)) from rfl)) ?_
  show zm_V zT_X9_row zW_X (12, [some (.ref 0), some (.int 0), some (.int l2), some (.int l3), some (.ref 54)], [], (I, J)) = _
  refine Eq.trans ((zm_V_eq _ _ _).trans (show zm_step zT_X9_row zW_X (zm_V zT_X9_row zW_X) (12, [some (.ref 0), some (.int 0), some (.int l2), some (.int l3), some (.ref 54)], [], (I, J)) = if (l2 : Int32) < 0 then zm_V zT_X9_row zW_X (27, [some (.ref 0), some (.int 0), some (.int l2), some (.int l3), some (.ref 54)], [], (I, J)) else zm_V zT_X9_row zW_X (16, [some (.ref 0), some (.int 0), some (.int l2), some (.int l3), some (.ref 54)], [], (I, J)) from rfl)) ?_
  rw [if_pos (h2)]
  show zm_V zT_X9_row zW_X (27, [some (.ref 0), some (.int 0), some (.int l2), some (.int l3), some (.ref 54)], [], (I, J)) = _
  refine Eq.trans ((zm_V_eq _ _ _).trans (show zm_step zT_X9_row zW_X (zm_V zT_X9_row zW_X) (27, [some (.ref 0), some (.int 0), some (.int l2), some (.int l3), some (.ref 54)], [], (I, J)) = some (some (.int (-2)), (I, J)) from rfl)) ?_
  rfl
set_option maxRecDepth 20000 in
theorem zpx_row_54b {l2 : Int32} (h2 : ¬ l2 < 0) (h4 : 4 ≤ l2) (l3 : Int32) : zF_X9_row zW_X [.ref 0, .int 0, .int l2, .int l3] (I, J) = some (some (.int (-2)), (I, J)) := by
  show zm_V zT_X9_row zW_X (0, [some (.ref 0), some (.int 0), some (.int l2), some (.int l3), none], [], (I, J)) = _
  refine Eq.trans ((zm_V_eq _ _ _).trans ((show zm_step zT_X9_row zW_X (zm_V zT_X9_row zW_X) (0, [some (.ref 0), some (.int 0), some (.int l2), some (.int l3), none], [], (I, J)) = zm_app (2, some 9, true, [], zF_X9_rowAt) zW_X [.ref 0, .int 0] (I, J) (fun v N => zm_V zT_X9_row zW_X (5, [some (.ref 0), some (.int 0), some (.int l2), some (.int l3), none], v.toList ++ [], N)) from rfl).trans (zm_app_s rfl rfl (zgx_rowAt_r0)))) ?_
  show zm_V zT_X9_row zW_X (5, [some (.ref 0), some (.int 0), some (.int l2), some (.int l3), none], [.ref 54], (I, J)) = _
  refine Eq.trans ((zm_V_eq _ _ _).trans (show zm_step zT_X9_row zW_X (zm_V zT_X9_row zW_X) (5, [some (.ref 0), some (.int 0), some (.int l2), some (.int l3), none], [.ref 54], (I, J)) = zm_V zT_X9_row zW_X (12, [some (.ref 0), some (.int 0), some (.int l2), some (.int l3), some (.ref 54)], [], (I, J)) from rfl)) ?_
  show zm_V zT_X9_row zW_X (12, [some (.ref 0), some (.int 0), some (.int l2), some (.int l3), some (.ref 54)], [], (I, J)) = _
  refine Eq.trans ((zm_V_eq _ _ _).trans (show zm_step zT_X9_row zW_X (zm_V zT_X9_row zW_X) (12, [some (.ref 0), some (.int 0), some (.int l2), some (.int l3), some (.ref 54)], [], (I, J)) = if (l2 : Int32) < 0 then zm_V zT_X9_row zW_X (27, [some (.ref 0), some (.int 0), some (.int l2), some (.int l3), some (.ref 54)], [], (I, J)) else zm_V zT_X9_row zW_X (16, [some (.ref 0), some (.int 0), some (.int l2), some (.int l3), some (.ref 54)], [], (I, J)) from rfl)) ?_
  rw [if_neg (h2)]
  show zm_V zT_X9_row zW_X (16, [some (.ref 0), some (.int 0), some (.int l2), some (.int l3), some (.ref 54)], [], (I, J)) = _
  refine Eq.trans ((zm_V_eq _ _ _).trans (show zm_step zT_X9_row zW_X (zm_V zT_X9_row zW_X) (16, [some (.ref 0), some (.int 0), some (.int l2), some (.int l3), some (.ref 54)], [], (I, J)) = if (4 : Int32) ≤ l2 then zm_V zT_X9_row zW_X (27, [some (.ref 0), some (.int 0), some (.int l2), some (.int l3), some (.ref 54)], [], (I, J)) else zm_V zT_X9_row zW_X (21, [some (.ref 0), some (.int 0), some (.int l2), some (.int l3), some (.ref 54)], [], (I, J)) from rfl)) ?_
  rw [if_pos (h4)]
  show zm_V zT_X9_row zW_X (27, [some (.ref 0), some (.int 0), some (.int l2), some (.int l3), some (.ref 54)], [], (I, J)) = _
  refine Eq.trans ((zm_V_eq _ _ _).trans (show zm_step zT_X9_row zW_X (zm_V zT_X9_row zW_X) (27, [some (.ref 0), some (.int 0), some (.int l2), some (.int l3), some (.ref 54)], [], (I, J)) = some (some (.int (-2)), (I, J)) from rfl)) ?_
  rfl
set_option maxRecDepth 20000 in
theorem zpx_row_54c {l2 : Int32} (h2 : ¬ l2 < 0) (h4 : ¬ 4 ≤ l2) {l3 : Int32} (h6 : ¬ l3 ≤ 60) : zF_X9_row zW_X [.ref 0, .int 0, .int l2, .int l3] (I, J) = some (some (.int (-2)), (I, J)) := by
  show zm_V zT_X9_row zW_X (0, [some (.ref 0), some (.int 0), some (.int l2), some (.int l3), none], [], (I, J)) = _
  refine Eq.trans ((zm_V_eq _ _ _).trans ((show zm_step zT_X9_row zW_X (zm_V zT_X9_row zW_X) (0, [some (.ref 0), some (.int 0), some (.int l2), some (.int l3), none], [], (I, J)) = zm_app (2, some 9, true, [], zF_X9_rowAt) zW_X [.ref 0, .int 0] (I, J) (fun v N => zm_V zT_X9_row zW_X (5, [some (.ref 0), some (.int 0), some (.int l2), some (.int l3), none], v.toList ++ [], N)) from rfl).trans (zm_app_s rfl rfl (zgx_rowAt_r0)))) ?_
  show zm_V zT_X9_row zW_X (5, [some (.ref 0), some (.int 0), some (.int l2), some (.int l3), none], [.ref 54], (I, J)) = _
  refine Eq.trans ((zm_V_eq _ _ _).trans (show zm_step zT_X9_row zW_X (zm_V zT_X9_row zW_X) (5, [some (.ref 0), some (.int 0), some (.int l2), some (.int l3), none], [.ref 54], (I, J)) = zm_V zT_X9_row zW_X (12, [some (.ref 0), some (.int 0), some (.int l2), some (.int l3), some (.ref 54)], [], (I, J)) from rfl)) ?_
  show zm_V zT_X9_row zW_X (12, [some (.ref 0), some (.int 0), some (.int l2), some (.int l3), some (.ref 54)], [], (I, J)) = _
  refine Eq.trans ((zm_V_eq _ _ _).trans (show zm_step zT_X9_row zW_X (zm_V zT_X9_row zW_X) (12, [some (.ref 0), some (.int 0), some (.int l2), some (.int l3), some (.ref 54)], [], (I, J)) = if (l2 : Int32) < 0 then zm_V zT_X9_row zW_X (27, [some (.ref 0), some (.int 0), some (.int l2), some (.int l3), some (.ref 54)], [], (I, J)) else zm_V zT_X9_row zW_X (16, [some (.ref 0), some (.int 0), some (.int l2), some (.int l3), some (.ref 54)], [], (I, J)) from rfl)) ?_
  rw [if_neg (h2)]
  show zm_V zT_X9_row zW_X (16, [some (.ref 0), some (.int 0), some (.int l2), some (.int l3), some (.ref 54)], [], (I, J)) = _
  refine Eq.trans ((zm_V_eq _ _ _).trans (show zm_step zT_X9_row zW_X (zm_V zT_X9_row zW_X) (16, [some (.ref 0), some (.int 0), some (.int l2), some (.int l3), some (.ref 54)], [], (I, J)) = if (4 : Int32) ≤ l2 then zm_V zT_X9_row zW_X (27, [some (.ref 0), some (.int 0), some (.int l2), some (.int l3), some (.ref 54)], [], (I, J)) else zm_V zT_X9_row zW_X (21, [some (.ref 0), some (.int 0), some (.int l2), some (.int l3), some (.ref 54)], [], (I, J)) from rfl)) ?_
  rw [if_neg (h4)]
  show zm_V zT_X9_row zW_X (21, [some (.ref 0), some (.int 0), some (.int l2), some (.int l3), some (.ref 54)], [], (I, J)) = _
  refine Eq.trans ((zm_V_eq _ _ _).trans (show zm_step zT_X9_row zW_X (zm_V zT_X9_row zW_X) (21, [some (.ref 0), some (.int 0), some (.int l2), some (.int l3), some (.ref 54)], [], (I, J)) = if (l3 : Int32) ≤ 60 then zm_V zT_X9_row zW_X (30, [some (.ref 0), some (.int 0), some (.int l2), some (.int l3), some (.ref 54)], [], (I, J)) else zm_V zT_X9_row zW_X (27, [some (.ref 0), some (.int 0), some (.int l2), some (.int l3), some (.ref 54)], [], (I, J)) from rfl)) ?_
  rw [if_neg (h6)]
  show zm_V zT_X9_row zW_X (27, [some (.ref 0), some (.int 0), some (.int l2), some (.int l3), some (.ref 54)], [], (I, J)) = _
  refine Eq.trans ((zm_V_eq _ _ _).trans (show zm_step zT_X9_row zW_X (zm_V zT_X9_row zW_X) (27, [some (.ref 0), some (.int 0), some (.int l2), some (.int l3), some (.ref 54)], [], (I, J)) = some (some (.int (-2)), (I, J)) from rfl)) ?_
  rfl
set_option maxRecDepth 20000 in
theorem zpx_row_54d {l2 : Int32} (h2 : ¬ l2 < 0) (h4 : ¬ 4 ≤ l2) {l3 : Int32} (h6 : l3 ≤ 60) (h0 : ¬ 0 ≤ l3) : zF_X9_row zW_X [.ref 0, .int 0, .int l2, .int l3] (I, J) = some (some (.int (-3)), (I, J)) := by
  show zm_V zT_X9_row zW_X (0, [some (.ref 0), some (.int 0), some (.int l2), some (.int l3), none], [], (I, J)) = _
  refine Eq.trans ((zm_V_eq _ _ _).trans ((show zm_step zT_X9_row zW_X (zm_V zT_X9_row zW_X) (0, [some (.ref 0), some (.int 0), some (.int l2), some (.int l3), none], [], (I, J)) = zm_app (2, some 9, true, [], zF_X9_rowAt) zW_X [.ref 0, .int 0] (I, J) (fun v N => zm_V zT_X9_row zW_X (5, [some (.ref 0), some (.int 0), some (.int l2), some (.int l3), none], v.toList ++ [], N)) from rfl).trans (zm_app_s rfl rfl (zgx_rowAt_r0)))) ?_
  show zm_V zT_X9_row zW_X (5, [some (.ref 0), some (.int 0), some (.int l2), some (.int l3), none], [.ref 54], (I, J)) = _
  refine Eq.trans ((zm_V_eq _ _ _).trans (show zm_step zT_X9_row zW_X (zm_V zT_X9_row zW_X) (5, [some (.ref 0), some (.int 0), some (.int l2), some (.int l3), none], [.ref 54], (I, J)) = zm_V zT_X9_row zW_X (12, [some (.ref 0), some (.int 0), some (.int l2), some (.int l3), some (.ref 54)], [], (I, J)) from rfl)) ?_
  show zm_V zT_X9_row zW_X (12, [some (.ref 0), some (.int 0), some (.int l2), some (.int l3), some (.ref 54)], [], (I, J)) = _
  refine Eq.trans ((zm_V_eq _ _ _).trans (show zm_step zT_X9_row zW_X (zm_V zT_X9_row zW_X) (12, [some (.ref 0), some (.int 0), some (.int l2), some (.int l3), some (.ref 54)], [], (I, J)) = if (l2 : Int32) < 0 then zm_V zT_X9_row zW_X (27, [some (.ref 0), some (.int 0), some (.int l2), some (.int l3), some (.ref 54)], [], (I, J)) else zm_V zT_X9_row zW_X (16, [some (.ref 0), some (.int 0), some (.int l2), some (.int l3), some (.ref 54)], [], (I, J)) from rfl)) ?_
  rw [if_neg (h2)]
  show zm_V zT_X9_row zW_X (16, [some (.ref 0), some (.int 0), some (.int l2), some (.int l3), some (.ref 54)], [], (I, J)) = _
  refine Eq.trans ((zm_V_eq _ _ _).trans (show zm_step zT_X9_row zW_X (zm_V zT_X9_row zW_X) (16, [some (.ref 0), some (.int 0), some (.int l2), some (.int l3), some (.ref 54)], [], (I, J)) = if (4 : Int32) ≤ l2 then zm_V zT_X9_row zW_X (27, [some (.ref 0), some (.int 0), some (.int l2), some (.int l3), some (.ref 54)], [], (I, J)) else zm_V zT_X9_row zW_X (21, [some (.ref 0), some (.int 0), some (.int l2), some (.int l3), some (.ref 54)], [], (I, J)) from rfl)) ?_
  rw [if_neg (h4)]
  show zm_V zT_X9_row zW_X (21, [some (.ref 0), some (.int 0), some (.int l2), some (.int l3), some (.ref 54)], [], (I, J)) = _
  refine Eq.trans ((zm_V_eq _ _ _).trans (show zm_step zT_X9_row zW_X (zm_V zT_X9_row zW_X) (21, [some (.ref 0), some (.int 0), some (.int l2), some (.int l3), some (.ref 54)], [], (I, J)) = if (l3 : Int32) ≤ 60 then zm_V zT_X9_row zW_X (30, [some (.ref 0), some (.int 0), some (.int l2), some (.int l3), some (.ref 54)], [], (I, J)) else zm_V zT_X9_row zW_X (27, [some (.ref 0), some (.int 0), some (.int l2), some (.int l3), some (.ref 54)], [], (I, J)) from rfl)) ?_
  rw [if_pos (h6)]
  show zm_V zT_X9_row zW_X (30, [some (.ref 0), some (.int 0), some (.int l2), some (.int l3), some (.ref 54)], [], (I, J)) = _
  refine Eq.trans ((zm_V_eq _ _ _).trans (show zm_step zT_X9_row zW_X (zm_V zT_X9_row zW_X) (30, [some (.ref 0), some (.int 0), some (.int l2), some (.int l3), some (.ref 54)], [], (I, J)) = if (0 : Int32) ≤ l3 then zm_V zT_X9_row zW_X (37, [some (.ref 0), some (.int 0), some (.int l2), some (.int l3), some (.ref 54)], [], (I, J)) else zm_V zT_X9_row zW_X (34, [some (.ref 0), some (.int 0), some (.int l2), some (.int l3), some (.ref 54)], [], (I, J)) from rfl)) ?_
  rw [if_neg (h0)]
  show zm_V zT_X9_row zW_X (34, [some (.ref 0), some (.int 0), some (.int l2), some (.int l3), some (.ref 54)], [], (I, J)) = _
  refine Eq.trans ((zm_V_eq _ _ _).trans (show zm_step zT_X9_row zW_X (zm_V zT_X9_row zW_X) (34, [some (.ref 0), some (.int 0), some (.int l2), some (.int l3), some (.ref 54)], [], (I, J)) = some (some (.int (-3)), (I, J)) from rfl)) ?_
  rfl
set_option maxRecDepth 20000 in
theorem zpx_row_54e {l2 : Int32} (h2 : ¬ l2 < 0) (h4 : ¬ 4 ≤ l2) {l3 : Int32} (h6 : l3 ≤ 60) (h0 : 0 ≤ l3) {N : zm_I} (hN : zF_X7_start zW_R [.ref 0, .int l2, .int l3] (zm_sub2 [(54, 2)] (I, J)) = some (none, N)) : zF_X9_row zW_X [.ref 0, .int 0, .int l2, .int l3] (I, J) = some (some (.int 0), (zm_mrg [(54, 2)] (I, J) N)) := by
  show zm_V zT_X9_row zW_X (0, [some (.ref 0), some (.int 0), some (.int l2), some (.int l3), none], [], (I, J)) = _
  refine Eq.trans ((zm_V_eq _ _ _).trans ((show zm_step zT_X9_row zW_X (zm_V zT_X9_row zW_X) (0, [some (.ref 0), some (.int 0), some (.int l2), some (.int l3), none], [], (I, J)) = zm_app (2, some 9, true, [], zF_X9_rowAt) zW_X [.ref 0, .int 0] (I, J) (fun v N => zm_V zT_X9_row zW_X (5, [some (.ref 0), some (.int 0), some (.int l2), some (.int l3), none], v.toList ++ [], N)) from rfl).trans (zm_app_s rfl rfl (zgx_rowAt_r0)))) ?_
  show zm_V zT_X9_row zW_X (5, [some (.ref 0), some (.int 0), some (.int l2), some (.int l3), none], [.ref 54], (I, J)) = _
  refine Eq.trans ((zm_V_eq _ _ _).trans (show zm_step zT_X9_row zW_X (zm_V zT_X9_row zW_X) (5, [some (.ref 0), some (.int 0), some (.int l2), some (.int l3), none], [.ref 54], (I, J)) = zm_V zT_X9_row zW_X (12, [some (.ref 0), some (.int 0), some (.int l2), some (.int l3), some (.ref 54)], [], (I, J)) from rfl)) ?_
  show zm_V zT_X9_row zW_X (12, [some (.ref 0), some (.int 0), some (.int l2), some (.int l3), some (.ref 54)], [], (I, J)) = _
  refine Eq.trans ((zm_V_eq _ _ _).trans (show zm_step zT_X9_row zW_X (zm_V zT_X9_row zW_X) (12, [some (.ref 0), some (.int 0), some (.int l2), some (.int l3), some (.ref 54)], [], (I, J)) = if (l2 : Int32) < 0 then zm_V zT_X9_row zW_X (27, [some (.ref 0), some (.int 0), some (.int l2), some (.int l3), some (.ref 54)], [], (I, J)) else zm_V zT_X9_row zW_X (16, [some (.ref 0), some (.int 0), some (.int l2), some (.int l3), some (.ref 54)], [], (I, J)) from rfl)) ?_
  rw [if_neg (h2)]
  show zm_V zT_X9_row zW_X (16, [some (.ref 0), some (.int 0), some (.int l2), some (.int l3), some (.ref 54)], [], (I, J)) = _
  refine Eq.trans ((zm_V_eq _ _ _).trans (show zm_step zT_X9_row zW_X (zm_V zT_X9_row zW_X) (16, [some (.ref 0), some (.int 0), some (.int l2), some (.int l3), some (.ref 54)], [], (I, J)) = if (4 : Int32) ≤ l2 then zm_V zT_X9_row zW_X (27, [some (.ref 0), some (.int 0), some (.int l2), some (.int l3), some (.ref 54)], [], (I, J)) else zm_V zT_X9_row zW_X (21, [some (.ref 0), some (.int 0), some (.int l2), some (.int l3), some (.ref 54)], [], (I, J)) from rfl)) ?_
  rw [if_neg (h4)]
  show zm_V zT_X9_row zW_X (21, [some (.ref 0), some (.int 0), some (.int l2), some (.int l3), some (.ref 54)], [], (I, J)) = _
  refine Eq.trans ((zm_V_eq _ _ _).trans (show zm_step zT_X9_row zW_X (zm_V zT_X9_row zW_X) (21, [some (.ref 0), some (.int 0), some (.int l2), some (.int l3), some (.ref 54)], [], (I, J)) = if (l3 : Int32) ≤ 60 then zm_V zT_X9_row zW_X (30, [some (.ref 0), some (.int 0), some (.int l2), some (.int l3), some (.ref 54)], [], (I, J)) else zm_V zT_X9_row zW_X (27, [some (.ref 0), some (.int 0), some (.int l2), some (.int l3), some (.ref 54)], [], (I, J)) from rfl)) ?_
  rw [if_pos (h6)]
  show zm_V zT_X9_row zW_X (30, [some (.ref 0), some (.int 0), some (.int l2), some (.int l3), some (.ref 54)], [], (I, J)) = _
  refine Eq.trans ((zm_V_eq _ _ _).trans (show zm_step zT_X9_row zW_X (zm_V zT_X9_row zW_X) (30, [some (.ref 0), some (.int 0), some (.int l2), some (.int l3), some (.ref 54)], [], (I, J)) = if (0 : Int32) ≤ l3 then zm_V zT_X9_row zW_X (37, [some (.ref 0), some (.int 0), some (.int l2), some (.int l3), some (.ref 54)], [], (I, J)) else zm_V zT_X9_row zW_X (34, [some (.ref 0), some (.int 0), some (.int l2), some (.int l3), some (.ref 54)], [], (I, J)) from rfl)) ?_
  rw [if_pos (h0)]
  show zm_V zT_X9_row zW_X (37, [some (.ref 0), some (.int 0), some (.int l2), some (.int l3), some (.ref 54)], [], (I, J)) = _
  refine Eq.trans ((zm_V_eq _ _ _).trans ((show zm_step zT_X9_row zW_X (zm_V zT_X9_row zW_X) (37, [some (.ref 0), some (.int 0), some (.int l2), some (.int l3), some (.ref 54)], [], (I, J)) = zm_app (3, some 7, false, [(0, 2)], zF_X7_start) zW_X [.ref 54, .int l2, .int l3] (I, J) (fun v N => zm_V zT_X9_row zW_X (44, [some (.ref 0), some (.int 0), some (.int l2), some (.int l3), some (.ref 54)], v.toList ++ [], N)) from rfl).trans (zm_app_l (bs := [(54, 2)]) rfl rfl rfl rfl rfl rfl (hN)))) ?_
  show zm_V zT_X9_row zW_X (44, [some (.ref 0), some (.int 0), some (.int l2), some (.int l3), some (.ref 54)], [], ((zm_mrg [(54, 2)] (I, J) N).1, (zm_mrg [(54, 2)] (I, J) N).2)) = _
  refine Eq.trans ((zm_V_eq _ _ _).trans (show zm_step zT_X9_row zW_X (zm_V zT_X9_row zW_X) (44, [some (.ref 0), some (.int 0), some (.int l2), some (.int l3), some (.ref 54)], [], ((zm_mrg [(54, 2)] (I, J) N).1, (zm_mrg [(54, 2)] (I, J) N).2)) = some (some (.int 0), ((zm_mrg [(54, 2)] (I, J) N).1, (zm_mrg [(54, 2)] (I, J) N).2)) from rfl)) ?_
  rfl
set_option maxRecDepth 20000 in
theorem zpx_row_56a {l2 : Int32} (h2 : l2 < 0) (l3 : Int32) : zF_X9_row zW_X [.ref 0, .int 1, .int l2, .int l3] (I, J) = some (some (.int (-2)), (I, J)) := by
  show zm_V zT_X9_row zW_X (0, [some (.ref 0), some (.int 1), some (.int l2), some (.int l3), none], [], (I, J)) = _
  refine Eq.trans ((zm_V_eq _ _ _).trans ((show zm_step zT_X9_row zW_X (zm_V zT_X9_row zW_X) (0, [some (.ref 0), some (.int 1), some (.int l2), some (.int l3), none], [], (I, J)) = zm_app (2, some 9, true, [], zF_X9_rowAt) zW_X [.ref 0, .int 1] (I, J) (fun v N => zm_V zT_X9_row zW_X (5, [some (.ref 0), some (.int 1), some (.int l2), some (.int l3), none], v.toList ++ [], N)) from rfl).trans (zm_app_s rfl rfl (zgx_rowAt_r1)))) ?_
  show zm_V zT_X9_row zW_X (5, [some (.ref 0), some (.int 1), some (.int l2), some (.int l3), none], [.ref 56], (I, J)) = _
  refine Eq.trans ((zm_V_eq _ _ _).trans (show zm_step zT_X9_row zW_X (zm_V zT_X9_row zW_X) (5, [some (.ref 0), some (.int 1), some (.int l2), some (.int l3), none], [.ref 56], (I, J)) = zm_V zT_X9_row zW_X (12, [some (.ref 0), some (.int 1), some (.int l2), some (.int l3), some (.ref 56)], [], (I, J)) from rfl)) ?_
  show zm_V zT_X9_row zW_X (12, [some (.ref 0), some (.int 1), some (.int l2), some (.int l3), some (.ref 56)], [], (I, J)) = _
  refine Eq.trans ((zm_V_eq _ _ _).trans (show zm_step zT_X9_row zW_X (zm_V zT_X9_row zW_X) (12, [some (.ref 0), some (.int 1), some (.int l2), some (.int l3), some (.ref 56)], [], (I, J)) = if (l2 : Int32) < 0 then zm_V zT_X9_row zW_X (27, [some (.ref 0), some (.int 1), some (.int l2), some (.int l3), some (.ref 56)], [], (I, J)) else zm_V zT_X9_row zW_X (16, [some (.ref 0), some (.int 1), some (.int l2), some (.int l3), some (.ref 56)], [], (I, J)) from rfl)) ?_
  rw [if_pos (h2)]
  show zm_V zT_X9_row zW_X (27, [some (.ref 0), some (.int 1), some (.int l2), some (.int l3), some (.ref 56)], [], (I, J)) = _
  refine Eq.trans ((zm_V_eq _ _ _).trans (show zm_step zT_X9_row zW_X (zm_V zT_X9_row zW_X) (27, [some (.ref 0), some (.int 1), some (.int l2), some (.int l3), some (.ref 56)], [], (I, J)) = some (some (.int (-2)), (I, J)) from rfl)) ?_
  rfl
set_option maxRecDepth 20000 in
theorem zpx_row_56b {l2 : Int32} (h2 : ¬ l2 < 0) (h4 : 4 ≤ l2) (l3 : Int32) : zF_X9_row zW_X [.ref 0, .int 1, .int l2, .int l3] (I, J) = some (some (.int (-2)), (I, J)) := by
  show zm_V zT_X9_row zW_X (0, [some (.ref 0), some (.int 1), some (.int l2), some (.int l3), none], [], (I, J)) = _
  refine Eq.trans ((zm_V_eq _ _ _).trans ((show zm_step zT_X9_row zW_X (zm_V zT_X9_row zW_X) (0, [some (.ref 0), some (.int 1), some (.int l2), some (.int l3), none], [], (I, J)) = zm_app (2, some 9, true, [], zF_X9_rowAt) zW_X [.ref 0, .int 1] (I, J) (fun v N => zm_V zT_X9_row zW_X (5, [some (.ref 0), some (.int 1), some (.int l2), some (.int l3), none], v.toList ++ [], N)) from rfl).trans (zm_app_s rfl rfl (zgx_rowAt_r1)))) ?_
  show zm_V zT_X9_row zW_X (5, [some (.ref 0), some (.int 1), some (.int l2), some (.int l3), none], [.ref 56], (I, J)) = _
  refine Eq.trans ((zm_V_eq _ _ _).trans (show zm_step zT_X9_row zW_X (zm_V zT_X9_row zW_X) (5, [some (.ref 0), some (.int 1), some (.int l2), some (.int l3), none], [.ref 56], (I, J)) = zm_V zT_X9_row zW_X (12, [some (.ref 0), some (.int 1), some (.int l2), some (.int l3), some (.ref 56)], [], (I, J)) from rfl)) ?_
  show zm_V zT_X9_row zW_X (12, [some (.ref 0), some (.int 1), some (.int l2), some (.int l3), some (.ref 56)], [], (I, J)) = _
  refine Eq.trans ((zm_V_eq _ _ _).trans (show zm_step zT_X9_row zW_X (zm_V zT_X9_row zW_X) (12, [some (.ref 0), some (.int 1), some (.int l2), some (.int l3), some (.ref 56)], [], (I, J)) = if (l2 : Int32) < 0 then zm_V zT_X9_row zW_X (27, [some (.ref 0), some (.int 1), some (.int l2), some (.int l3), some (.ref 56)], [], (I, J)) else zm_V zT_X9_row zW_X (16, [some (.ref 0), some (.int 1), some (.int l2), some (.int l3), some (.ref 56)], [], (I, J)) from rfl)) ?_
  rw [if_neg (h2)]
  show zm_V zT_X9_row zW_X (16, [some (.ref 0), some (.int 1), some (.int l2), some (.int l3), some (.ref 56)], [], (I, J)) = _
  refine Eq.trans ((zm_V_eq _ _ _).trans (show zm_step zT_X9_row zW_X (zm_V zT_X9_row zW_X) (16, [some (.ref 0), some (.int 1), some (.int l2), some (.int l3), some (.ref 56)], [], (I, J)) = if (4 : Int32) ≤ l2 then zm_V zT_X9_row zW_X (27, [some (.ref 0), some (.int 1), some (.int l2), some (.int l3), some (.ref 56)], [], (I, J)) else zm_V zT_X9_row zW_X (21, [some (.ref 0), some (.int 1), some (.int l2), some (.int l3), some (.ref 56)], [], (I, J)) from rfl)) ?_
  rw [if_pos (h4)]
  show zm_V zT_X9_row zW_X (27, [some (.ref 0), some (.int 1), some (.int l2), some (.int l3), some (.ref 56)], [], (I, J)) = _
  refine Eq.trans ((zm_V_eq _ _ _).trans (show zm_step zT_X9_row zW_X (zm_V zT_X9_row zW_X) (27, [some (.ref 0), some (.int 1), some (.int l2), some (.int l3), some (.ref 56)], [], (I, J)) = some (some (.int (-2)), (I, J)) from rfl)) ?_
  rfl
set_option maxRecDepth 20000 in
theorem zpx_row_56c {l2 : Int32} (h2 : ¬ l2 < 0) (h4 : ¬ 4 ≤ l2) {l3 : Int32} (h6 : ¬ l3 ≤ 60) : zF_X9_row zW_X [.ref 0, .int 1, .int l2, .int l3] (I, J) = some (some (.int (-2)), (I, J)) := by
  show zm_V zT_X9_row zW_X (0, [some (.ref 0), some (.int 1), some (.int l2), some (.int l3), none], [], (I, J)) = _
  refine Eq.trans ((zm_V_eq _ _ _).trans ((show zm_step zT_X9_row zW_X (zm_V zT_X9_row zW_X) (0, [some (.ref 0), some (.int 1), some (.int l2), some (.int l3), none], [], (I, J)) = zm_app (2, some 9, true, [], zF_X9_rowAt) zW_X [.ref 0, .int 1] (I, J) (fun v N => zm_V zT_X9_row zW_X (5, [some (.ref 0), some (.int 1), some (.int l2), some (.int l3), none], v.toList ++ [], N)) from rfl).trans (zm_app_s rfl rfl (zgx_rowAt_r1)))) ?_
  show zm_V zT_X9_row zW_X (5, [some (.ref 0), some (.int 1), some (.int l2), some (.int l3), none], [.ref 56], (I, J)) = _
  refine Eq.trans ((zm_V_eq _ _ _).trans (show zm_step zT_X9_row zW_X (zm_V zT_X9_row zW_X) (5, [some (.ref 0), some (.int 1), some (.int l2), some (.int l3), none], [.ref 56], (I, J)) = zm_V zT_X9_row zW_X (12, [some (.ref 0), some (.int 1), some (.int l2), some (.int l3), some (.ref 56)], [], (I, J)) from rfl)) ?_
  show zm_V zT_X9_row zW_X (12, [some (.ref 0), some (.int 1), some (.int l2), some (.int l3), some (.ref 56)], [], (I, J)) = _
  refine Eq.trans ((zm_V_eq _ _ _).trans (show zm_step zT_X9_row zW_X (zm_V zT_X9_row zW_X) (12, [some (.ref 0), some (.int 1), some (.int l2), some (.int l3), some (.ref 56)], [], (I, J)) = if (l2 : Int32) < 0 then zm_V zT_X9_row zW_X (27, [some (.ref 0), some (.int 1), some (.int l2), some (.int l3), some (.ref 56)], [], (I, J)) else zm_V zT_X9_row zW_X (16, [some (.ref 0), some (.int 1), some (.int l2), some (.int l3), some (.ref 56)], [], (I, J)) from rfl)) ?_
  rw [if_neg (h2)]
  show zm_V zT_X9_row zW_X (16, [some (.ref 0), some (.int 1), some (.int l2), some (.int l3), some (.ref 56)], [], (I, J)) = _
  refine Eq.trans ((zm_V_eq _ _ _).trans (show zm_step zT_X9_row zW_X (zm_V zT_X9_row zW_X) (16, [some (.ref 0), some (.int 1), some (.int l2), some (.int l3), some (.ref 56)], [], (I, J)) = if (4 : Int32) ≤ l2 then zm_V zT_X9_row zW_X (27, [some (.ref 0), some (.int 1), some (.int l2), some (.int l3), some (.ref 56)], [], (I, J)) else zm_V zT_X9_row zW_X (21, [some (.ref 0), some (.int 1), some (.int l2), some (.int l3), some (.ref 56)], [], (I, J)) from rfl)) ?_
  rw [if_neg (h4)]
  show zm_V zT_X9_row zW_X (21, [some (.ref 0), some (.int 1), some (.int l2), some (.int l3), some (.ref 56)], [], (I, J)) = _
  refine Eq.trans ((zm_V_eq _ _ _).trans (show zm_step zT_X9_row zW_X (zm_V zT_X9_row zW_X) (21, [some (.ref 0), some (.int 1), some (.int l2), some (.int l3), some (.ref 56)], [], (I, J)) = if (l3 : Int32) ≤ 60 then zm_V zT_X9_row zW_X (30, [some (.ref 0), some (.int 1), some (.int l2), some (.int l3), some (.ref 56)], [], (I, J)) else zm_V zT_X9_row zW_X (27, [some (.ref 0), some (.int 1), some (.int l2), some (.int l3), some (.ref 56)], [], (I, J)) from rfl)) ?_
  rw [if_neg (h6)]
  show zm_V zT_X9_row zW_X (27, [some (.ref 0), some (.int 1), some (.int l2), some (.int l3), some (.ref 56)], [], (I, J)) = _
  refine Eq.trans ((zm_V_eq _ _ _).trans (show zm_step zT_X9_row zW_X (zm_V zT_X9_row zW_X) (27, [some (.ref 0), some (.int 1), some (.int l2), some (.int l3), some (.ref 56)], [], (I, J)) = some (some (.int (-2)), (I, J)) from rfl)) ?_
  rfl
set_option maxRecDepth 20000 in
theorem zpx_row_56d {l2 : Int32} (h2 : ¬ l2 < 0) (h4 : ¬ 4 ≤ l2) {l3 : Int32} (h6 : l3 ≤ 60) (h0 : ¬ 0 ≤ l3) : zF_X9_row zW_X [.ref 0, .int 1, .int l2, .int l3] (I, J) = some (some (.int (-3)), (I, J)) := by
  show zm_V zT_X9_row zW_X (0, [some (.ref 0), some (.int 1), some (.int l2), some (.int l3), none], [], (I, J)) = _
  refine Eq.trans ((zm_V_eq _ _ _).trans ((show zm_step zT_X9_row zW_X (zm_V zT_X9_row zW_X) (0, [some (.ref 0), some (.int 1), some (.int l2), some (.int l3), none], [], (I, J)) = zm_app (2, some 9, true, [], zF_X9_rowAt) zW_X [.ref 0, .int 1] (I, J) (fun v N => zm_V zT_X9_row zW_X (5, [some (.ref 0), some (.int 1), some (.int l2), some (.int l3), none], v.toList ++ [], N)) from rfl).trans (zm_app_s rfl rfl (zgx_rowAt_r1)))) ?_
  show zm_V zT_X9_row zW_X (5, [some (.ref 0), some (.int 1), some (.int l2), some (.int l3), none], [.ref 56], (I, J)) = _
  refine Eq.trans ((zm_V_eq _ _ _).trans (show zm_step zT_X9_row zW_X (zm_V zT_X9_row zW_X) (5, [some (.ref 0), some (.int 1), some (.int l2), some (.int l3), none], [.ref 56], (I, J)) = zm_V zT_X9_row zW_X (12, [some (.ref 0), some (.int 1), some (.int l2), some (.int l3), some (.ref 56)], [], (I, J)) from rfl)) ?_
  show zm_V zT_X9_row zW_X (12, [some (.ref 0), some (.int 1), some (.int l2), some (.int l3), some (.ref 56)], [], (I, J)) = _
  refine Eq.trans ((zm_V_eq _ _ _).trans (show zm_step zT_X9_row zW_X (zm_V zT_X9_row zW_X) (12, [some (.ref 0), some (.int 1), some (.int l2), some (.int l3), some (.ref 56)], [], (I, J)) = if (l2 : Int32) < 0 then zm_V zT_X9_row zW_X (27, [some (.ref 0), some (.int 1), some (.int l2), some (.int l3), some (.ref 56)], [], (I, J)) else zm_V zT_X9_row zW_X (16, [some (.ref 0), some (.int 1), some (.int l2), some (.int l3), some (.ref 56)], [], (I, J)) from rfl)) ?_
  rw [if_neg (h2)]
  show zm_V zT_X9_row zW_X (16, [some (.ref 0), some (.int 1), some (.int l2), some (.int l3), some (.ref 56)], [], (I, J)) = _
  refine Eq.trans ((zm_V_eq _ _ _).trans (show zm_step zT_X9_row zW_X (zm_V zT_X9_row zW_X) (16, [some (.ref 0), some (.int 1), some (.int l2), some (.int l3), some (.ref 56)], [], (I, J)) = if (4 : Int32) ≤ l2 then zm_V zT_X9_row zW_X (27, [some (.ref 0), some (.int 1), some (.int l2), some (.int l3), some (.ref 56)], [], (I, J)) else zm_V zT_X9_row zW_X (21, [some (.ref 0), some (.int 1), some (.int l2), some (.int l3), some (.ref 56)], [], (I, J)) from rfl)) ?_
  rw [if_neg (h4)]
  show zm_V zT_X9_row zW_X (21, [some (.ref 0), some (.int 1), some (.int l2), some (.int l3), some (.ref 56)], [], (I, J)) = _
  refine Eq.trans ((zm_V_eq _ _ _).trans (show zm_step zT_X9_row zW_X (zm_V zT_X9_row zW_X) (21, [some (.ref 0), some (.int 1), some (.int l2), some (.int l3), some (.ref 56)], [], (I, J)) = if (l3 : Int32) ≤ 60 then zm_V zT_X9_row zW_X (30, [some (.ref 0), some (.int 1), some (.int l2), some (.int l3), some (.ref 56)], [], (I, J)) else zm_V zT_X9_row zW_X (27, [some (.ref 0), some (.int 1), some (.int l2), some (.int l3), some (.ref 56)], [], (I, J)) from rfl)) ?_
  rw [if_pos (h6)]
  show zm_V zT_X9_row zW_X (30, [some (.ref 0), some (.int 1), some (.int l2), some (.int l3), some (.ref 56)], [], (I, J)) = _
  refine Eq.trans ((zm_V_eq _ _ _).trans (show zm_step zT_X9_row zW_X (zm_V zT_X9_row zW_X) (30, [some (.ref 0), some (.int 1), some (.int l2), some (.int l3), some (.ref 56)], [], (I, J)) = if (0 : Int32) ≤ l3 then zm_V zT_X9_row zW_X (37, [some (.ref 0), some (.int 1), some (.int l2), some (.int l3), some (.ref 56)], [], (I, J)) else zm_V zT_X9_row zW_X (34, [some (.ref 0), some (.int 1), some (.int l2), some (.int l3), some (.ref 56)], [], (I, J)) from rfl)) ?_
  rw [if_neg (h0)]
  show zm_V zT_X9_row zW_X (34, [some (.ref 0), some (.int 1), some (.int l2), some (.int l3), some (.ref 56)], [], (I, J)) = _
  refine Eq.trans ((zm_V_eq _ _ _).trans (show zm_step zT_X9_row zW_X (zm_V zT_X9_row zW_X) (34, [some (.ref 0), some (.int 1), some (.int l2), some (.int l3), some (.ref 56)], [], (I, J)) = some (some (.int (-3)), (I, J)) from rfl)) ?_
  rfl
set_option maxRecDepth 20000 in
theorem zpx_row_56e {l2 : Int32} (h2 : ¬ l2 < 0) (h4 : ¬ 4 ≤ l2) {l3 : Int32} (h6 : l3 ≤ 60) (h0 : 0 ≤ l3) {N : zm_I} (hN : zF_X7_start zW_R [.ref 0, .int l2, .int l3] (zm_sub2 [(56, 2)] (I, J)) = some (none, N)) : zF_X9_row zW_X [.ref 0, .int 1, .int l2, .int l3] (I, J) = some (some (.int 0), (zm_mrg [(56, 2)] (I, J) N)) := by
  show zm_V zT_X9_row zW_X (0, [some (.ref 0), some (.int 1), some (.int l2), some (.int l3), none], [], (I, J)) = _
  refine Eq.trans ((zm_V_eq _ _ _).trans ((show zm_step zT_X9_row zW_X (zm_V zT_X9_row zW_X) (0, [some (.ref 0), some (.int 1), some (.int l2), some (.int l3), none], [], (I, J)) = zm_app (2, some 9, true, [], zF_X9_rowAt) zW_X [.ref 0, .int 1] (I, J) (fun v N => zm_V zT_X9_row zW_X (5, [some (.ref 0), some (.int 1), some (.int l2), some (.int l3), none], v.toList ++ [], N)) from rfl).trans (zm_app_s rfl rfl (zgx_rowAt_r1)))) ?_
  show zm_V zT_X9_row zW_X (5, [some (.ref 0), some (.int 1), some (.int l2), some (.int l3), none], [.ref 56], (I, J)) = _
  refine Eq.trans ((zm_V_eq _ _ _).trans (show zm_step zT_X9_row zW_X (zm_V zT_X9_row zW_X) (5, [some (.ref 0), some (.int 1), some (.int l2), some (.int l3), none], [.ref 56], (I, J)) = zm_V zT_X9_row zW_X (12, [some (.ref 0), some (.int 1), some (.int l2), some (.int l3), some (.ref 56)], [], (I, J)) from rfl)) ?_
  show zm_V zT_X9_row zW_X (12, [some (.ref 0), some (.int 1), some (.int l2), some (.int l3), some (.ref 56)], [], (I, J)) = _
  refine Eq.trans ((zm_V_eq _ _ _).trans (show zm_step zT_X9_row zW_X (zm_V zT_X9_row zW_X) (12, [some (.ref 0), some (.int 1), some (.int l2), some (.int l3), some (.ref 56)], [], (I, J)) = if (l2 : Int32) < 0 then zm_V zT_X9_row zW_X (27, [some (.ref 0), some (.int 1), some (.int l2), some (.int l3), some (.ref 56)], [], (I, J)) else zm_V zT_X9_row zW_X (16, [some (.ref 0), some (.int 1), some (.int l2), some (.int l3), some (.ref 56)], [], (I, J)) from rfl)) ?_
  rw [if_neg (h2)]
  show zm_V zT_X9_row zW_X (16, [some (.ref 0), some (.int 1), some (.int l2), some (.int l3), some (.ref 56)], [], (I, J)) = _
  refine Eq.trans ((zm_V_eq _ _ _).trans (show zm_step zT_X9_row zW_X (zm_V zT_X9_row zW_X) (16, [some (.ref 0), some (.int 1), some (.int l2), some (.int l3), some (.ref 56)], [], (I, J)) = if (4 : Int32) ≤ l2 then zm_V zT_X9_row zW_X (27, [some (.ref 0), some (.int 1), some (.int l2), some (.int l3), some (.ref 56)], [], (I, J)) else zm_V zT_X9_row zW_X (21, [some (.ref 0), some (.int 1), some (.int l2), some (.int l3), some (.ref 56)], [], (I, J)) from rfl)) ?_
  rw [if_neg (h4)]
  show zm_V zT_X9_row zW_X (21, [some (.ref 0), some (.int 1), some (.int l2), some (.int l3), some (.ref 56)], [], (I, J)) = _
  refine Eq.trans ((zm_V_eq _ _ _).trans (show zm_step zT_X9_row zW_X (zm_V zT_X9_row zW_X) (21, [some (.ref 0), some (.int 1), some (.int l2), some (.int l3), some (.ref 56)], [], (I, J)) = if (l3 : Int32) ≤ 60 then zm_V zT_X9_row zW_X (30, [some (.ref 0), some (.int 1), some (.int l2), some (.int l3), some (.ref 56)], [], (I, J)) else zm_V zT_X9_row zW_X (27, [some (.ref 0), some (.int 1), some (.int l2), some (.int l3), some (.ref 56)], [], (I, J)) from rfl)) ?_
  rw [if_pos (h6)]
  show zm_V zT_X9_row zW_X (30, [some (.ref 0), some (.int 1), some (.int l2), some (.int l3), some (.ref 56)], [], (I, J)) = _
  refine Eq.trans ((zm_V_eq _ _ _).trans (show zm_step zT_X9_row zW_X (zm_V zT_X9_row zW_X) (30, [some (.ref 0), some (.int 1), some (.int l2), some (.int l3), some (.ref 56)], [], (I, J)) = if (0 : Int32) ≤ l3 then zm_V zT_X9_row zW_X (37, [some (.ref 0), some (.int 1), some (.int l2), some (.int l3), some (.ref 56)], [], (I, J)) else zm_V zT_X9_row zW_X (34, [some (.ref 0), some (.int 1), some (.int l2), some (.int l3), some (.ref 56)], [], (I, J)) from rfl)) ?_
  rw [if_pos (h0)]
  show zm_V zT_X9_row zW_X (37, [some (.ref 0), some (.int 1), some (.int l2), some (.int l3), some (.ref 56)], [], (I, J)) = _
  refine Eq.trans ((zm_V_eq _ _ _).trans ((show zm_step zT_X9_row zW_X (zm_V zT_X9_row zW_X) (37, [some (.ref 0), some (.int 1), some (.int l2), some (.int l3), some (.ref 56)], [], (I, J)) = zm_app (3, some 7, false, [(0, 2)], zF_X7_start) zW_X [.ref 56, .int l2, .int l3] (I, J) (fun v N => zm_V zT_X9_row zW_X (44, [some (.ref 0), some (.int 1), some (.int l2), some (.int l3), some (.ref 56)], v.toList ++ [], N)) from rfl).trans (zm_app_l (bs := [(56, 2)]) rfl rfl rfl rfl rfl rfl (hN)))) ?_
  show zm_V zT_X9_row zW_X (44, [some (.ref 0), some (.int 1), some (.int l2), some (.int l3), some (.ref 56)], [], ((zm_mrg [(56, 2)] (I, J) N).1, (zm_mrg [(56, 2)] (I, J) N).2)) = _
  refine Eq.trans ((zm_V_eq _ _ _).trans (show zm_step zT_X9_row zW_X (zm_V zT_X9_row zW_X) (44, [some (.ref 0), some (.int 1), some (.int l2), some (.int l3), some (.ref 56)], [], ((zm_mrg [(56, 2)] (I, J) N).1, (zm_mrg [(56, 2)] (I, J) N).2)) = some (some (.int 0), ((zm_mrg [(56, 2)] (I, J) N).1, (zm_mrg [(56, 2)] (I, J) N).2)) from rfl)) ?_
  rfl
set_option maxRecDepth 20000 in
theorem zpx_row_58a {l2 : Int32} (h2 : l2 < 0) (l3 : Int32) : zF_X9_row zW_X [.ref 0, .int 2, .int l2, .int l3] (I, J) = some (some (.int (-2)), (I, J)) := by
  show zm_V zT_X9_row zW_X (0, [some (.ref 0), some (.int 2), some (.int l2), some (.int l3), none], [], (I, J)) = _
  refine Eq.trans ((zm_V_eq _ _ _).trans ((show zm_step zT_X9_row zW_X (zm_V zT_X9_row zW_X) (0, [some (.ref 0), some (.int 2), some (.int l2), some (.int l3), none], [], (I, J)) = zm_app (2, some 9, true, [], zF_X9_rowAt) zW_X [.ref 0, .int 2] (I, J) (fun v N => zm_V zT_X9_row zW_X (5, [some (.ref 0), some (.int 2), some (.int l2), some (.int l3), none], v.toList ++ [], N)) from rfl).trans (zm_app_s rfl rfl (zgx_rowAt_r2)))) ?_
  show zm_V zT_X9_row zW_X (5, [some (.ref 0), some (.int 2), some (.int l2), some (.int l3), none], [.ref 58], (I, J)) = _
  refine Eq.trans ((zm_V_eq _ _ _).trans (show zm_step zT_X9_row zW_X (zm_V zT_X9_row zW_X) (5, [some (.ref 0), some (.int 2), some (.int l2), some (.int l3), none], [.ref 58], (I, J)) = zm_V zT_X9_row zW_X (12, [some (.ref 0), some (.int 2), some (.int l2), some (.int l3), some (.ref 58)], [], (I, J)) from rfl)) ?_
  show zm_V zT_X9_row zW_X (12, [some (.ref 0), some (.int 2), some (.int l2), some (.int l3), some (.ref 58)], [], (I, J)) = _
  refine Eq.trans ((zm_V_eq _ _ _).trans (show zm_step zT_X9_row zW_X (zm_V zT_X9_row zW_X) (12, [some (.ref 0), some (.int 2), some (.int l2), some (.int l3), some (.ref 58)], [], (I, J)) = if (l2 : Int32) < 0 then zm_V zT_X9_row zW_X (27, [some (.ref 0), some (.int 2), some (.int l2), some (.int l3), some (.ref 58)], [], (I, J)) else zm_V zT_X9_row zW_X (16, [some (.ref 0), some (.int 2), some (.int l2), some (.int l3), some (.ref 58)], [], (I, J)) from rfl)) ?_
  rw [if_pos (h2)]
  show zm_V zT_X9_row zW_X (27, [some (.ref 0), some (.int 2), some (.int l2), some (.int l3), some (.ref 58)], [], (I, J)) = _
  refine Eq.trans ((zm_V_eq _ _ _).trans (show zm_step zT_X9_row zW_X (zm_V zT_X9_row zW_X) (27, [some (.ref 0), some (.int 2), some (.int l2), some (.int l3), some (.ref 58)], [], (I, J)) = some (some (.int (-2)), (I, J)) from rfl)) ?_
  rfl
set_option maxRecDepth 20000 in
theorem zpx_row_58b {l2 : Int32} (h2 : ¬ l2 < 0) (h4 : 4 ≤ l2) (l3 : Int32) : zF_X9_row zW_X [.ref 0, .int 2, .int l2, .int l3] (I, J) = some (some (.int (-2)), (I, J)) := by
  show zm_V zT_X9_row zW_X (0, [some (.ref 0), some (.int 2), some (.int l2), some (.int l3), none], [], (I, J)) = _
  refine Eq.trans ((zm_V_eq _ _ _).trans ((show zm_step zT_X9_row zW_X (zm_V zT_X9_row zW_X) (0, [some (.ref 0), some (.int 2), some (.int l2), some (.int l3), none], [], (I, J)) = zm_app (2, some 9, true, [], zF_X9_rowAt) zW_X [.ref 0, .int 2] (I, J) (fun v N => zm_V zT_X9_row zW_X (5, [some (.ref 0), some (.int 2), some (.int l2), some (.int l3), none], v.toList ++ [], N)) from rfl).trans (zm_app_s rfl rfl (zgx_rowAt_r2)))) ?_
  show zm_V zT_X9_row zW_X (5, [some (.ref 0), some (.int 2), some (.int l2), some (.int l3), none], [.ref 58], (I, J)) = _
  refine Eq.trans ((zm_V_eq _ _ _).trans (show zm_step zT_X9_row zW_X (zm_V zT_X9_row zW_X) (5, [some (.ref 0), some (.int 2), some (.int l2), some (.int l3), none], [.ref 58], (I, J)) = zm_V zT_X9_row zW_X (12, [some (.ref 0), some (.int 2), some (.int l2), some (.int l3), some (.ref 58)], [], (I, J)) from rfl)) ?_
  show zm_V zT_X9_row zW_X (12, [some (.ref 0), some (.int 2), some (.int l2), some (.int l3), some (.ref 58)], [], (I, J)) = _
  refine Eq.trans ((zm_V_eq _ _ _).trans (show zm_step zT_X9_row zW_X (zm_V zT_X9_row zW_X) (12, [some (.ref 0), some (.int 2), some (.int l2), some (.int l3), some (.ref 58)], [], (I, J)) = if (l2 : Int32) < 0 then zm_V zT_X9_row zW_X (27, [some (.ref 0), some (.int 2), some (.int l2), some (.int l3), some (.ref 58)], [], (I, J)) else zm_V zT_X9_row zW_X (16, [some (.ref 0), some (.int 2), some (.int l2), some (.int l3), some (.ref 58)], [], (I, J)) from rfl)) ?_
  rw [if_neg (h2)]
  show zm_V zT_X9_row zW_X (16, [some (.ref 0), some (.int 2), some (.int l2), some (.int l3), some (.ref 58)], [], (I, J)) = _
  refine Eq.trans ((zm_V_eq _ _ _).trans (show zm_step zT_X9_row zW_X (zm_V zT_X9_row zW_X) (16, [some (.ref 0), some (.int 2), some (.int l2), some (.int l3), some (.ref 58)], [], (I, J)) = if (4 : Int32) ≤ l2 then zm_V zT_X9_row zW_X (27, [some (.ref 0), some (.int 2), some (.int l2), some (.int l3), some (.ref 58)], [], (I, J)) else zm_V zT_X9_row zW_X (21, [some (.ref 0), some (.int 2), some (.int l2), some (.int l3), some (.ref 58)], [], (I, J)) from rfl)) ?_
  rw [if_pos (h4)]
  show zm_V zT_X9_row zW_X (27, [some (.ref 0), some (.int 2), some (.int l2), some (.int l3), some (.ref 58)], [], (I, J)) = _
  refine Eq.trans ((zm_V_eq _ _ _).trans (show zm_step zT_X9_row zW_X (zm_V zT_X9_row zW_X) (27, [some (.ref 0), some (.int 2), some (.int l2), some (.int l3), some (.ref 58)], [], (I, J)) = some (some (.int (-2)), (I, J)) from rfl)) ?_
  rfl
set_option maxRecDepth 20000 in
theorem zpx_row_58c {l2 : Int32} (h2 : ¬ l2 < 0) (h4 : ¬ 4 ≤ l2) {l3 : Int32} (h6 : ¬ l3 ≤ 60) : zF_X9_row zW_X [.ref 0, .int 2, .int l2, .int l3] (I, J) = some (some (.int (-2)), (I, J)) := by
  show zm_V zT_X9_row zW_X (0, [some (.ref 0), some (.int 2), some (.int l2), some (.int l3), none], [], (I, J)) = _
  refine Eq.trans ((zm_V_eq _ _ _).trans ((show zm_step zT_X9_row zW_X (zm_V zT_X9_row zW_X) (0, [some (.ref 0), some (.int 2), some (.int l2), some (.int l3), none], [], (I, J)) = zm_app (2, some 9, true, [], zF_X9_rowAt) zW_X [.ref 0, .int 2] (I, J) (fun v N => zm_V zT_X9_row zW_X (5, [some (.ref 0), some (.int 2), some (.int l2), some (.int l3), none], v.toList ++ [], N)) from rfl).trans (zm_app_s rfl rfl (zgx_rowAt_r2)))) ?_
  show zm_V zT_X9_row zW_X (5, [some (.ref 0), some (.int 2), some (.int l2), some (.int l3), none], [.ref 58], (I, J)) = _
  refine Eq.trans ((zm_V_eq _ _ _).trans (show zm_step zT_X9_row zW_X (zm_V zT_X9_row zW_X) (5, [some (.ref 0), some (.int 2), some (.int l2), some (.int l3), none], [.ref 58], (I, J)) = zm_V zT_X9_row zW_X (12, [some (.ref 0), some (.int 2), some (.int l2), some (.int l3), some (.ref 58)], [], (I, J)) from rfl)) ?_
  show zm_V zT_X9_row zW_X (12, [some (.ref 0), some (.int 2), some (.int l2), some (.int l3), some (.ref 58)], [], (I, J)) = _
  refine Eq.trans ((zm_V_eq _ _ _).trans (show zm_step zT_X9_row zW_X (zm_V zT_X9_row zW_X) (12, [some (.ref 0), some (.int 2), some (.int l2), some (.int l3), some (.ref 58)], [], (I, J)) = if (l2 : Int32) < 0 then zm_V zT_X9_row zW_X (27, [some (.ref 0), some (.int 2), some (.int l2), some (.int l3), some (.ref 58)], [], (I, J)) else zm_V zT_X9_row zW_X (16, [some (.ref 0), some (.int 2), some (.int l2), some (.int l3), some (.ref 58)], [], (I, J)) from rfl)) ?_
  rw [if_neg (h2)]
  show zm_V zT_X9_row zW_X (16, [some (.ref 0), some (.int 2), some (.int l2), some (.int l3), some (.ref 58)], [], (I, J)) = _
  refine Eq.trans ((zm_V_eq _ _ _).trans (show zm_step zT_X9_row zW_X (zm_V zT_X9_row zW_X) (16, [some (.ref 0), some (.int 2), some (.int l2), some (.int l3), some (.ref 58)], [], (I, J)) = if (4 : Int32) ≤ l2 then zm_V zT_X9_row zW_X (27, [some (.ref 0), some (.int 2), some (.int l2), some (.int l3), some (.ref 58)], [], (I, J)) else zm_V zT_X9_row zW_X (21, [some (.ref 0), some (.int 2), some (.int l2), some (.int l3), some (.ref 58)], [], (I, J)) from rfl)) ?_
  rw [if_neg (h4)]
  show zm_V zT_X9_row zW_X (21, [some (.ref 0), some (.int 2), some (.int l2), some (.int l3), some (.ref 58)], [], (I, J)) = _
  refine Eq.trans ((zm_V_eq _ _ _).trans (show zm_step zT_X9_row zW_X (zm_V zT_X9_row zW_X) (21, [some (.ref 0), some (.int 2), some (.int l2), some (.int l3), some (.ref 58)], [], (I, J)) = if (l3 : Int32) ≤ 60 then zm_V zT_X9_row zW_X (30, [some (.ref 0), some (.int 2), some (.int l2), some (.int l3), some (.ref 58)], [], (I, J)) else zm_V zT_X9_row zW_X (27, [some (.ref 0), some (.int 2), some (.int l2), some (.int l3), some (.ref 58)], [], (I, J)) from rfl)) ?_
  rw [if_neg (h6)]
  show zm_V zT_X9_row zW_X (27, [some (.ref 0), some (.int 2), some (.int l2), some (.int l3), some (.ref 58)], [], (I, J)) = _
  refine Eq.trans ((zm_V_eq _ _ _).trans (show zm_step zT_X9_row zW_X (zm_V zT_X9_row zW_X) (27, [some (.ref 0), some (.int 2), some (.int l2), some (.int l3), some (.ref 58)], [], (I, J)) = some (some (.int (-2)), (I, J)) from rfl)) ?_
  rfl
set_option maxRecDepth 20000 in
theorem zpx_row_58d {l2 : Int32} (h2 : ¬ l2 < 0) (h4 : ¬ 4 ≤ l2) {l3 : Int32} (h6 : l3 ≤ 60) (h0 : ¬ 0 ≤ l3) : zF_X9_row zW_X [.ref 0, .int 2, .int l2, .int l3] (I, J) = some (some (.int (-3)), (I, J)) := by
  show zm_V zT_X9_row zW_X (0, [some (.ref 0), some (.int 2), some (.int l2), some (.int l3), none], [], (I, J)) = _
  refine Eq.trans ((zm_V_eq _ _ _).trans ((show zm_step zT_X9_row zW_X (zm_V zT_X9_row zW_X) (0, [some (.ref 0), some (.int 2), some (.int l2), some (.int l3), none], [], (I, J)) = zm_app (2, some 9, true, [], zF_X9_rowAt) zW_X [.ref 0, .int 2] (I, J) (fun v N => zm_V zT_X9_row zW_X (5, [some (.ref 0), some (.int 2), some (.int l2), some (.int l3), none], v.toList ++ [], N)) from rfl).trans (zm_app_s rfl rfl (zgx_rowAt_r2)))) ?_
  show zm_V zT_X9_row zW_X (5, [some (.ref 0), some (.int 2), some (.int l2), some (.int l3), none], [.ref 58], (I, J)) = _
  refine Eq.trans ((zm_V_eq _ _ _).trans (show zm_step zT_X9_row zW_X (zm_V zT_X9_row zW_X) (5, [some (.ref 0), some (.int 2), some (.int l2), some (.int l3), none], [.ref 58], (I, J)) = zm_V zT_X9_row zW_X (12, [some (.ref 0), some (.int 2), some (.int l2), some (.int l3), some (.ref 58)], [], (I, J)) from rfl)) ?_
  show zm_V zT_X9_row zW_X (12, [some (.ref 0), some (.int 2), some (.int l2), some (.int l3), some (.ref 58)], [], (I, J)) = _
  refine Eq.trans ((zm_V_eq _ _ _).trans (show zm_step zT_X9_row zW_X (zm_V zT_X9_row zW_X) (12, [some (.ref 0), some (.int 2), some (.int l2), some (.int l3), some (.ref 58)], [], (I, J)) = if (l2 : Int32) < 0 then zm_V zT_X9_row zW_X (27, [some (.ref 0), some (.int 2), some (.int l2), some (.int l3), some (.ref 58)], [], (I, J)) else zm_V zT_X9_row zW_X (16, [some (.ref 0), some (.int 2), some (.int l2), some (.int l3), some (.ref 58)], [], (I, J)) from rfl)) ?_
  rw [if_neg (h2)]
  show zm_V zT_X9_row zW_X (16, [some (.ref 0), some (.int 2), some (.int l2), some (.int l3), some (.ref 58)], [], (I, J)) = _
  refine Eq.trans ((zm_V_eq _ _ _).trans (show zm_step zT_X9_row zW_X (zm_V zT_X9_row zW_X) (16, [some (.ref 0), some (.int 2), some (.int l2), some (.int l3), some (.ref 58)], [], (I, J)) = if (4 : Int32) ≤ l2 then zm_V zT_X9_row zW_X (27, [some (.ref 0), some (.int 2), some (.int l2), some (.int l3), some (.ref 58)], [], (I, J)) else zm_V zT_X9_row zW_X (21, [some (.ref 0), some (.int 2), some (.int l2), some (.int l3), some (.ref 58)], [], (I, J)) from rfl)) ?_
  rw [if_neg (h4)]
  show zm_V zT_X9_row zW_X (21, [some (.ref 0), some (.int 2), some (.int l2), some (.int l3), some (.ref 58)], [], (I, J)) = _
  refine Eq.trans ((zm_V_eq _ _ _).trans (show zm_step zT_X9_row zW_X (zm_V zT_X9_row zW_X) (21, [some (.ref 0), some (.int 2), some (.int l2), some (.int l3), some (.ref 58)], [], (I, J)) = if (l3 : Int32) ≤ 60 then zm_V zT_X9_row zW_X (30, [some (.ref 0), some (.int 2), some (.int l2), some (.int l3), some (.ref 58)], [], (I, J)) else zm_V zT_X9_row zW_X (27, [some (.ref 0), some (.int 2), some (.int l2), some (.int l3), some (.ref 58)], [], (I, J)) from rfl)) ?_
  rw [if_pos (h6)]
  show zm_V zT_X9_row zW_X (30, [some (.ref 0), some (.int 2), some (.int l2), some (.int l3), some (.ref 58)], [], (I, J)) = _
  refine Eq.trans ((zm_V_eq _ _ _).trans (show zm_step zT_X9_row zW_X (zm_V zT_X9_row zW_X) (30, [some (.ref 0), some (.int 2), some (.int l2), some (.int l3), some (.ref 58)], [], (I, J)) = if (0 : Int32) ≤ l3 then zm_V zT_X9_row zW_X (37, [some (.ref 0), some (.int 2), some (.int l2), some (.int l3), some (.ref 58)], [], (I, J)) else zm_V zT_X9_row zW_X (34, [some (.ref 0), some (.int 2), some (.int l2), some (.int l3), some (.ref 58)], [], (I, J)) from rfl)) ?_
  rw [if_neg (h0)]
  show zm_V zT_X9_row zW_X (34, [some (.ref 0), some (.int 2), some (.int l2), some (.int l3), some (.ref 58)], [], (I, J)) = _
  refine Eq.trans ((zm_V_eq _ _ _).trans (show zm_step zT_X9_row zW_X (zm_V zT_X9_row zW_X) (34, [some (.ref 0), some (.int 2), some (.int l2), some (.int l3), some (.ref 58)], [], (I, J)) = some (some (.int (-3)), (I, J)) from rfl)) ?_
  rfl
set_option maxRecDepth 20000 in
theorem zpx_row_58e {l2 : Int32} (h2 : ¬ l2 < 0) (h4 : ¬ 4 ≤ l2) {l3 : Int32} (h6 : l3 ≤ 60) (h0 : 0 ≤ l3) {N : zm_I} (hN : zF_X7_start zW_R [.ref 0, .int l2, .int l3] (zm_sub2 [(58, 2)] (I, J)) = some (none, N)) : zF_X9_row zW_X [.ref 0, .int 2, .int l2, .int l3] (I, J) = some (some (.int 0), (zm_mrg [(58, 2)] (I, J) N)) := by
  show zm_V zT_X9_row zW_X (0, [some (.ref 0), some (.int 2), some (.int l2), some (.int l3), none], [], (I, J)) = _
  refine Eq.trans ((zm_V_eq _ _ _).trans ((show zm_step zT_X9_row zW_X (zm_V zT_X9_row zW_X) (0, [some (.ref 0), some (.int 2), some (.int l2), some (.int l3), none], [], (I, J)) = zm_app (2, some 9, true, [], zF_X9_rowAt) zW_X [.ref 0, .int 2] (I, J) (fun v N => zm_V zT_X9_row zW_X (5, [some (.ref 0), some (.int 2), some (.int l2), some (.int l3), none], v.toList ++ [], N)) from rfl).trans (zm_app_s rfl rfl (zgx_rowAt_r2)))) ?_
  show zm_V zT_X9_row zW_X (5, [some (.ref 0), some (.int 2), some (.int l2), some (.int l3), none], [.ref 58], (I, J)) = _
  refine Eq.trans ((zm_V_eq _ _ _).trans (show zm_step zT_X9_row zW_X (zm_V zT_X9_row zW_X) (5, [some (.ref 0), some (.int 2), some (.int l2), some (.int l3), none], [.ref 58], (I, J)) = zm_V zT_X9_row zW_X (12, [some (.ref 0), some (.int 2), some (.int l2), some (.int l3), some (.ref 58)], [], (I, J)) from rfl)) ?_
  show zm_V zT_X9_row zW_X (12, [some (.ref 0), some (.int 2), some (.int l2), some (.int l3), some (.ref 58)], [], (I, J)) = _
  refine Eq.trans ((zm_V_eq _ _ _).trans (show zm_step zT_X9_row zW_X (zm_V zT_X9_row zW_X) (12, [some (.ref 0), some (.int 2), some (.int l2), some (.int l3), some (.ref 58)], [], (I, J)) = if (l2 : Int32) < 0 then zm_V zT_X9_row zW_X (27, [some (.ref 0), some (.int 2), some (.int l2), some (.int l3), some (.ref 58)], [], (I, J)) else zm_V zT_X9_row zW_X (16, [some (.ref 0), some (.int 2), some (.int l2), some (.int l3), some (.ref 58)], [], (I, J)) from rfl)) ?_
  rw [if_neg (h2)]
  show zm_V zT_X9_row zW_X (16, [some (.ref 0), some (.int 2), some (.int l2), some (.int l3), some (.ref 58)], [], (I, J)) = _
  refine Eq.trans ((zm_V_eq _ _ _).trans (show zm_step zT_X9_row zW_X (zm_V zT_X9_row zW_X) (16, [some (.ref 0), some (.int 2), some (.int l2), some (.int l3), some (.ref 58)], [], (I, J)) = if (4 : Int32) ≤ l2 then zm_V zT_X9_row zW_X (27, [some (.ref 0), some (.int 2), some (.int l2), some (.int l3), some (.ref 58)], [], (I, J)) else zm_V zT_X9_row zW_X (21, [some (.ref 0), some (.int 2), some (.int l2), some (.int l3), some (.ref 58)], [], (I, J)) from rfl)) ?_
  rw [if_neg (h4)]
  show zm_V zT_X9_row zW_X (21, [some (.ref 0), some (.int 2), some (.int l2), some (.int l3), some (.ref 58)], [], (I, J)) = _
  refine Eq.trans ((zm_V_eq _ _ _).trans (show zm_step zT_X9_row zW_X (zm_V zT_X9_row zW_X) (21, [some (.ref 0), some (.int 2), some (.int l2), some (.int l3), some (.ref 58)], [], (I, J)) = if (l3 : Int32) ≤ 60 then zm_V zT_X9_row zW_X (30, [some (.ref 0), some (.int 2), some (.int l2), some (.int l3), some (.ref 58)], [], (I, J)) else zm_V zT_X9_row zW_X (27, [some (.ref 0), some (.int 2), some (.int l2), some (.int l3), some (.ref 58)], [], (I, J)) from rfl)) ?_
  rw [if_pos (h6)]
  show zm_V zT_X9_row zW_X (30, [some (.ref 0), some (.int 2), some (.int l2), some (.int l3), some (.ref 58)], [], (I, J)) = _
  refine Eq.trans ((zm_V_eq _ _ _).trans (show zm_step zT_X9_row zW_X (zm_V zT_X9_row zW_X) (30, [some (.ref 0), some (.int 2), some (.int l2), some (.int l3), some (.ref 58)], [], (I, J)) = if (0 : Int32) ≤ l3 then zm_V zT_X9_row zW_X (37, [some (.ref 0), some (.int 2), some (.int l2), some (.int l3), some (.ref 58)], [], (I, J)) else zm_V zT_X9_row zW_X (34, [some (.ref 0), some (.int 2), some (.int l2), some (.int l3), some (.ref 58)], [], (I, J)) from rfl)) ?_
  rw [if_pos (h0)]
  show zm_V zT_X9_row zW_X (37, [some (.ref 0), some (.int 2), some (.int l2), some (.int l3), some (.ref 58)], [], (I, J)) = _
  refine Eq.trans ((zm_V_eq _ _ _).trans ((show zm_step zT_X9_row zW_X (zm_V zT_X9_row zW_X) (37, [some (.ref 0), some (.int 2), some (.int l2), some (.int l3), some (.ref 58)], [], (I, J)) = zm_app (3, some 7, false, [(0, 2)], zF_X7_start) zW_X [.ref 58, .int l2, .int l3] (I, J) (fun v N => zm_V zT_X9_row zW_X (44, [some (.ref 0), some (.int 2), some (.int l2), some (.int l3), some (.ref 58)], v.toList ++ [], N)) from rfl).trans (zm_app_l (bs := [(58, 2)]) rfl rfl rfl rfl rfl rfl (hN)))) ?_
  show zm_V zT_X9_row zW_X (44, [some (.ref 0), some (.int 2), some (.int l2), some (.int l3), some (.ref 58)], [], ((zm_mrg [(58, 2)] (I, J) N).1, (zm_mrg [(58, 2)] (I, J) N).2)) = _
  refine Eq.trans ((zm_V_eq _ _ _).trans (show zm_step zT_X9_row zW_X (zm_V zT_X9_row zW_X) (44, [some (.ref 0), some (.int 2), some (.int l2), some (.int l3), some (.ref 58)], [], ((zm_mrg [(58, 2)] (I, J) N).1, (zm_mrg [(58, 2)] (I, J) N).2)) = some (some (.int 0), ((zm_mrg [(58, 2)] (I, J) N).1, (zm_mrg [(58, 2)] (I, J) N).2)) from rfl)) ?_
  rfl
set_option maxRecDepth 20000 in
theorem zpx_row_60a {l2 : Int32} (h2 : l2 < 0) (l3 : Int32) : zF_X9_row zW_X [.ref 0, .int 3, .int l2, .int l3] (I, J) = some (some (.int (-2)), (I, J)) := by
  show zm_V zT_X9_row zW_X (0, [some (.ref 0), some (.int 3), some (.int l2), some (.int l3), none], [], (I, J)) = _
  refine Eq.trans ((zm_V_eq _ _ _).trans ((show zm_step zT_X9_row zW_X (zm_V zT_X9_row zW_X) (0, [some (.ref 0), some (.int 3), some (.int l2), some (.int l3), none], [], (I, J)) = zm_app (2, some 9, true, [], zF_X9_rowAt) zW_X [.ref 0, .int 3] (I, J) (fun v N => zm_V zT_X9_row zW_X (5, [some (.ref 0), some (.int 3), some (.int l2), some (.int l3), none], v.toList ++ [], N)) from rfl).trans (zm_app_s rfl rfl (zgx_rowAt_r3)))) ?_
  show zm_V zT_X9_row zW_X (5, [some (.ref 0), some (.int 3), some (.int l2), some (.int l3), none], [.ref 60], (I, J)) = _
  refine Eq.trans ((zm_V_eq _ _ _).trans (show zm_step zT_X9_row zW_X (zm_V zT_X9_row zW_X) (5, [some (.ref 0), some (.int 3), some (.int l2), some (.int l3), none], [.ref 60], (I, J)) = zm_V zT_X9_row zW_X (12, [some (.ref 0), some (.int 3), some (.int l2), some (.int l3), some (.ref 60)], [], (I, J)) from rfl)) ?_
  show zm_V zT_X9_row zW_X (12, [some (.ref 0), some (.int 3), some (.int l2), some (.int l3), some (.ref 60)], [], (I, J)) = _
  refine Eq.trans ((zm_V_eq _ _ _).trans (show zm_step zT_X9_row zW_X (zm_V zT_X9_row zW_X) (12, [some (.ref 0), some (.int 3), some (.int l2), some (.int l3), some (.ref 60)], [], (I, J)) = if (l2 : Int32) < 0 then zm_V zT_X9_row zW_X (27, [some (.ref 0), some (.int 3), some (.int l2), some (.int l3), some (.ref 60)], [], (I, J)) else zm_V zT_X9_row zW_X (16, [some (.ref 0), some (.int 3), some (.int l2), some (.int l3), some (.ref 60)], [], (I, J)) from rfl)) ?_
  rw [if_pos (h2)]
  show zm_V zT_X9_row zW_X (27, [some (.ref 0), some (.int 3), some (.int l2), some (.int l3), some (.ref 60)], [], (I, J)) = _
  refine Eq.trans ((zm_V_eq _ _ _).trans (show zm_step zT_X9_row zW_X (zm_V zT_X9_row zW_X) (27, [some (.ref 0), some (.int 3), some (.int l2), some (.int l3), some (.ref 60)], [], (I, J)) = some (some (.int (-2)), (I, J)) from rfl)) ?_
  rfl
set_option maxRecDepth 20000 in
theorem zpx_row_60b {l2 : Int32} (h2 : ¬ l2 < 0) (h4 : 4 ≤ l2) (l3 : Int32) : zF_X9_row zW_X [.ref 0, .int 3, .int l2, .int l3] (I, J) = some (some (.int (-2)), (I, J)) := by
  show zm_V zT_X9_row zW_X (0, [some (.ref 0), some (.int 3), some (.int l2), some (.int l3), none], [], (I, J)) = _
  refine Eq.trans ((zm_V_eq _ _ _).trans ((show zm_step zT_X9_row zW_X (zm_V zT_X9_row zW_X) (0, [some (.ref 0), some (.int 3), some (.int l2), some (.int l3), none], [], (I, J)) = zm_app (2, some 9, true, [], zF_X9_rowAt) zW_X [.ref 0, .int 3] (I, J) (fun v N => zm_V zT_X9_row zW_X (5, [some (.ref 0), some (.int 3), some (.int l2), some (.int l3), none], v.toList ++ [], N)) from rfl).trans (zm_app_s rfl rfl (zgx_rowAt_r3)))) ?_
  show zm_V zT_X9_row zW_X (5, [some (.ref 0), some (.int 3), some (.int l2), some (.int l3), none], [.ref 60], (I, J)) = _
  refine Eq.trans ((zm_V_eq _ _ _).trans (show zm_step zT_X9_row zW_X (zm_V zT_X9_row zW_X) (5, [some (.ref 0), some (.int 3), some (.int l2), some (.int l3), none], [.ref 60], (I, J)) = zm_V zT_X9_row zW_X (12, [some (.ref 0), some (.int 3), some (.int l2), some (.int l3), some (.ref 60)], [], (I, J)) from rfl)) ?_
  show zm_V zT_X9_row zW_X (12, [some (.ref 0), some (.int 3), some (.int l2), some (.int l3), some (.ref 60)], [], (I, J)) = _
  refine Eq.trans ((zm_V_eq _ _ _).trans (show zm_step zT_X9_row zW_X (zm_V zT_X9_row zW_X) (12, [some (.ref 0), some (.int 3), some (.int l2), some (.int l3), some (.ref 60)], [], (I, J)) = if (l2 : Int32) < 0 then zm_V zT_X9_row zW_X (27, [some (.ref 0), some (.int 3), some (.int l2), some (.int l3), some (.ref 60)], [], (I, J)) else zm_V zT_X9_row zW_X (16, [some (.ref 0), some (.int 3), some (.int l2), some (.int l3), some (.ref 60)], [], (I, J)) from rfl)) ?_
  rw [if_neg (h2)]
  show zm_V zT_X9_row zW_X (16, [some (.ref 0), some (.int 3), some (.int l2), some (.int l3), some (.ref 60)], [], (I, J)) = _
  refine Eq.trans ((zm_V_eq _ _ _).trans (show zm_step zT_X9_row zW_X (zm_V zT_X9_row zW_X) (16, [some (.ref 0), some (.int 3), some (.int l2), some (.int l3), some (.ref 60)], [], (I, J)) = if (4 : Int32) ≤ l2 then zm_V zT_X9_row zW_X (27, [some (.ref 0), some (.int 3), some (.int l2), some (.int l3), some (.ref 60)], [], (I, J)) else zm_V zT_X9_row zW_X (21, [some (.ref 0), some (.int 3), some (.int l2), some (.int l3), some (.ref 60)], [], (I, J)) from rfl)) ?_
  rw [if_pos (h4)]
  show zm_V zT_X9_row zW_X (27, [some (.ref 0), some (.int 3), some (.int l2), some (.int l3), some (.ref 60)], [], (I, J)) = _
  refine Eq.trans ((zm_V_eq _ _ _).trans (show zm_step zT_X9_row zW_X (zm_V zT_X9_row zW_X) (27, [some (.ref 0), some (.int 3), some (.int l2), some (.int l3), some (.ref 60)], [], (I, J)) = some (some (.int (-2)), (I, J)) from rfl)) ?_
  rfl
set_option maxRecDepth 20000 in
theorem zpx_row_60c {l2 : Int32} (h2 : ¬ l2 < 0) (h4 : ¬ 4 ≤ l2) {l3 : Int32} (h6 : ¬ l3 ≤ 60) : zF_X9_row zW_X [.ref 0, .int 3, .int l2, .int l3] (I, J) = some (some (.int (-2)), (I, J)) := by
  show zm_V zT_X9_row zW_X (0, [some (.ref 0), some (.int 3), some (.int l2), some (.int l3), none], [], (I, J)) = _
  refine Eq.trans ((zm_V_eq _ _ _).trans ((show zm_step zT_X9_row zW_X (zm_V zT_X9_row zW_X) (0, [some (.ref 0), some (.int 3), some (.int l2), some (.int l3), none], [], (I, J)) = zm_app (2, some 9, true, [], zF_X9_rowAt) zW_X [.ref 0, .int 3] (I, J) (fun v N => zm_V zT_X9_row zW_X (5, [some (.ref 0), some (.int 3), some (.int l2), some (.int l3), none], v.toList ++ [], N)) from rfl).trans (zm_app_s rfl rfl (zgx_rowAt_r3)))) ?_
  show zm_V zT_X9_row zW_X (5, [some (.ref 0), some (.int 3), some (.int l2), some (.int l3), none], [.ref 60], (I, J)) = _
  refine Eq.trans ((zm_V_eq _ _ _).trans (show zm_step zT_X9_row zW_X (zm_V zT_X9_row zW_X) (5, [some (.ref 0), some (.int 3), some (.int l2), some (.int l3), none], [.ref 60], (I, J)) = zm_V zT_X9_row zW_X (12, [some (.ref 0), some (.int 3), some (.int l2), some (.int l3), some (.ref 60)], [], (I, J)) from rfl)) ?_
  show zm_V zT_X9_row zW_X (12, [some (.ref 0), some (.int 3), some (.int l2), some (.int l3), some (.ref 60)], [], (I, J)) = _
  refine Eq.trans ((zm_V_eq _ _ _).trans (show zm_step zT_X9_row zW_X (zm_V zT_X9_row zW_X) (12, [some (.ref 0), some (.int 3), some (.int l2), some (.int l3), some (.ref 60)], [], (I, J)) = if (l2 : Int32) < 0 then zm_V zT_X9_row zW_X (27, [some (.ref 0), some (.int 3), some (.int l2), some (.int l3), some (.ref 60)], [], (I, J)) else zm_V zT_X9_row zW_X (16, [some (.ref 0), some (.int 3), some (.int l2), some (.int l3), some (.ref 60)], [], (I, J)) from rfl)) ?_
  rw [if_neg (h2)]
  show zm_V zT_X9_row zW_X (16, [some (.ref 0), some (.int 3), some (.int l2), some (.int l3), some (.ref 60)], [], (I, J)) = _
  refine Eq.trans ((zm_V_eq _ _ _).trans (show zm_step zT_X9_row zW_X (zm_V zT_X9_row zW_X) (16, [some (.ref 0), some (.int 3), some (.int l2), some (.int l3), some (.ref 60)], [], (I, J)) = if (4 : Int32) ≤ l2 then zm_V zT_X9_row zW_X (27, [some (.ref 0), some (.int 3), some (.int l2), some (.int l3), some (.ref 60)], [], (I, J)) else zm_V zT_X9_row zW_X (21, [some (.ref 0), some (.int 3), some (.int l2), some (.int l3), some (.ref 60)], [], (I, J)) from rfl)) ?_
  rw [if_neg (h4)]
  show zm_V zT_X9_row zW_X (21, [some (.ref 0), some (.int 3), some (.int l2), some (.int l3), some (.ref 60)], [], (I, J)) = _
  refine Eq.trans ((zm_V_eq _ _ _).trans (show zm_step zT_X9_row zW_X (zm_V zT_X9_row zW_X) (21, [some (.ref 0), some (.int 3), some (.int l2), some (.int l3), some (.ref 60)], [], (I, J)) = if (l3 : Int32) ≤ 60 then zm_V zT_X9_row zW_X (30, [some (.ref 0), some (.int 3), some (.int l2), some (.int l3), some (.ref 60)], [], (I, J)) else zm_V zT_X9_row zW_X (27, [some (.ref 0), some (.int 3), some (.int l2), some (.int l3), some (.ref 60)], [], (I, J)) from rfl)) ?_
  rw [if_neg (h6)]
  show zm_V zT_X9_row zW_X (27, [some (.ref 0), some (.int 3), some (.int l2), some (.int l3), some (.ref 60)], [], (I, J)) = _
  refine Eq.trans ((zm_V_eq _ _ _).trans (show zm_step zT_X9_row zW_X (zm_V zT_X9_row zW_X) (27, [some (.ref 0), some (.int 3), some (.int l2), some (.int l3), some (.ref 60)], [], (I, J)) = some (some (.int (-2)), (I, J)) from rfl)) ?_
  rfl
set_option maxRecDepth 20000 in
theorem zpx_row_60d {l2 : Int32} (h2 : ¬ l2 < 0) (h4 : ¬ 4 ≤ l2) {l3 : Int32} (h6 : l3 ≤ 60) (h0 : ¬ 0 ≤ l3) : zF_X9_row zW_X [.ref 0, .int 3, .int l2, .int l3] (I, J) = some (some (.int (-3)), (I, J)) := by
  show zm_V zT_X9_row zW_X (0, [some (.ref 0), some (.int 3), some (.int l2), some (.int l3), none], [], (I, J)) = _
  refine Eq.trans ((zm_V_eq _ _ _).trans ((show zm_step zT_X9_row zW_X (zm_V zT_X9_row zW_X) (0, [some (.ref 0), some (.int 3), some (.int l2), some (.int l3), none], [], (I, J)) = zm_app (2, some 9, true, [], zF_X9_rowAt) zW_X [.ref 0, .int 3] (I, J) (fun v N => zm_V zT_X9_row zW_X (5, [some (.ref 0), some (.int 3), some (.int l2), some (.int l3), none], v.toList ++ [], N)) from rfl).trans (zm_app_s rfl rfl (zgx_rowAt_r3)))) ?_
  show zm_V zT_X9_row zW_X (5, [some (.ref 0), some (.int 3), some (.int l2), some (.int l3), none], [.ref 60], (I, J)) = _
  refine Eq.trans ((zm_V_eq _ _ _).trans (show zm_step zT_X9_row zW_X (zm_V zT_X9_row zW_X) (5, [some (.ref 0), some (.int 3), some (.int l2), some (.int l3), none], [.ref 60], (I, J)) = zm_V zT_X9_row zW_X (12, [some (.ref 0), some (.int 3), some (.int l2), some (.int l3), some (.ref 60)], [], (I, J)) from rfl)) ?_
  show zm_V zT_X9_row zW_X (12, [some (.ref 0), some (.int 3), some (.int l2), some (.int l3), some (.ref 60)], [], (I, J)) = _
  refine Eq.trans ((zm_V_eq _ _ _).trans (show zm_step zT_X9_row zW_X (zm_V zT_X9_row zW_X) (12, [some (.ref 0), some (.int 3), some (.int l2), some (.int l3), some (.ref 60)], [], (I, J)) = if (l2 : Int32) < 0 then zm_V zT_X9_row zW_X (27, [some (.ref 0), some (.int 3), some (.int l2), some (.int l3), some (.ref 60)], [], (I, J)) else zm_V zT_X9_row zW_X (16, [some (.ref 0), some (.int 3), some (.int l2), some (.int l3), some (.ref 60)], [], (I, J)) from rfl)) ?_
  rw [if_neg (h2)]
  show zm_V zT_X9_row zW_X (16, [some (.ref 0), some (.int 3), some (.int l2), some (.int l3), some (.ref 60)], [], (I, J)) = _
  refine Eq.trans ((zm_V_eq _ _ _).trans (show zm_step zT_X9_row zW_X (zm_V zT_X9_row zW_X) (16, [some (.ref 0), some (.int 3), some (.int l2), some (.int l3), some (.ref 60)], [], (I, J)) = if (4 : Int32) ≤ l2 then zm_V zT_X9_row zW_X (27, [some (.ref 0), some (.int 3), some (.int l2), some (.int l3), some (.ref 60)], [], (I, J)) else zm_V zT_X9_row zW_X (21, [some (.ref 0), some (.int 3), some (.int l2), some (.int l3), some (.ref 60)], [], (I, J)) from rfl)) ?_
  rw [if_neg (h4)]
  show zm_V zT_X9_row zW_X (21, [some (.ref 0), some (.int 3), some (.int l2), some (.int l3), some (.ref 60)], [], (I, J)) = _
  refine Eq.trans ((zm_V_eq _ _ _).trans (show zm_step zT_X9_row zW_X (zm_V zT_X9_row zW_X) (21, [some (.ref 0), some (.int 3), some (.int l2), some (.int l3), some (.ref 60)], [], (I, J)) = if (l3 : Int32) ≤ 60 then zm_V zT_X9_row zW_X (30, [some (.ref 0), some (.int 3), some (.int l2), some (.int l3), some (.ref 60)], [], (I, J)) else zm_V zT_X9_row zW_X (27, [some (.ref 0), some (.int 3), some (.int l2), some (.int l3), some (.ref 60)], [], (I, J)) from rfl)) ?_
  rw [if_pos (h6)]
  show zm_V zT_X9_row zW_X (30, [some (.ref 0), some (.int 3), some (.int l2), some (.int l3), some (.ref 60)], [], (I, J)) = _
  refine Eq.trans ((zm_V_eq _ _ _).trans (show zm_step zT_X9_row zW_X (zm_V zT_X9_row zW_X) (30, [some (.ref 0), some (.int 3), some (.int l2), some (.int l3), some (.ref 60)], [], (I, J)) = if (0 : Int32) ≤ l3 then zm_V zT_X9_row zW_X (37, [some (.ref 0), some (.int 3), some (.int l2), some (.int l3), some (.ref 60)], [], (I, J)) else zm_V zT_X9_row zW_X (34, [some (.ref 0), some (.int 3), some (.int l2), some (.int l3), some (.ref 60)], [], (I, J)) from rfl)) ?_
  rw [if_neg (h0)]
  show zm_V zT_X9_row zW_X (34, [some (.ref 0), some (.int 3), some (.int l2), some (.int l3), some (.ref 60)], [], (I, J)) = _
  refine Eq.trans ((zm_V_eq _ _ _).trans (show zm_step zT_X9_row zW_X (zm_V zT_X9_row zW_X) (34, [some (.ref 0), some (.int 3), some (.int l2), some (.int l3), some (.ref 60)], [], (I, J)) = some (some (.int (-3)), (I, J)) from rfl)) ?_
  rfl
set_option maxRecDepth 20000 in
theorem zpx_row_60e {l2 : Int32} (h2 : ¬ l2 < 0) (h4 : ¬ 4 ≤ l2) {l3 : Int32} (h6 : l3 ≤ 60) (h0 : 0 ≤ l3) {N : zm_I} (hN : zF_X7_start zW_R [.ref 0, .int l2, .int l3] (zm_sub2 [(60, 2)] (I, J)) = some (none, N)) : zF_X9_row zW_X [.ref 0, .int 3, .int l2, .int l3] (I, J) = some (some (.int 0), (zm_mrg [(60, 2)] (I, J) N)) := by
  show zm_V zT_X9_row zW_X (0, [some (.ref 0), some (.int 3), some (.int l2), some (.int l3), none], [], (I, J)) = _
  refine Eq.trans ((zm_V_eq _ _ _).trans ((show zm_step zT_X9_row zW_X (zm_V zT_X9_row zW_X) (0, [some (.ref 0), some (.int 3), some (.int l2), some (.int l3), none], [], (I, J)) = zm_app (2, some 9, true, [], zF_X9_rowAt) zW_X [.ref 0, .int 3] (I, J) (fun v N => zm_V zT_X9_row zW_X (5, [some (.ref 0), some (.int 3), some (.int l2), some (.int l3), none], v.toList ++ [], N)) from rfl).trans (zm_app_s rfl rfl (zgx_rowAt_r3)))) ?_
  show zm_V zT_X9_row zW_X (5, [some (.ref 0), some (.int 3), some (.int l2), some (.int l3), none], [.ref 60], (I, J)) = _
  refine Eq.trans ((zm_V_eq _ _ _).trans (show zm_step zT_X9_row zW_X (zm_V zT_X9_row zW_X) (5, [some (.ref 0), some (.int 3), some (.int l2), some (.int l3), none], [.ref 60], (I, J)) = zm_V zT_X9_row zW_X (12, [some (.ref 0), some (.int 3), some (.int l2), some (.int l3), some (.ref 60)], [], (I, J)) from rfl)) ?_
  show zm_V zT_X9_row zW_X (12, [some (.ref 0), some (.int 3), some (.int l2), some (.int l3), some (.ref 60)], [], (I, J)) = _
  refine Eq.trans ((zm_V_eq _ _ _).trans (show zm_step zT_X9_row zW_X (zm_V zT_X9_row zW_X) (12, [some (.ref 0), some (.int 3), some (.int l2), some (.int l3), some (.ref 60)], [], (I, J)) = if (l2 : Int32) < 0 then zm_V zT_X9_row zW_X (27, [some (.ref 0), some (.int 3), some (.int l2), some (.int l3), some (.ref 60)], [], (I, J)) else zm_V zT_X9_row zW_X (16, [some (.ref 0), some (.int 3), some (.int l2), some (.int l3), some (.ref 60)], [], (I, J)) from rfl)) ?_
  rw [if_neg (h2)]
  show zm_V zT_X9_row zW_X (16, [some (.ref 0), some (.int 3), some (.int l2), some (.int l3), some (.ref 60)], [], (I, J)) = _
  refine Eq.trans ((zm_V_eq _ _ _).trans (show zm_step zT_X9_row zW_X (zm_V zT_X9_row zW_X) (16, [some (.ref 0), some (.int 3), some (.int l2), some (.int l3), some (.ref 60)], [], (I, J)) = if (4 : Int32) ≤ l2 then zm_V zT_X9_row zW_X (27, [some (.ref 0), some (.int 3), some (.int l2), some (.int l3), some (.ref 60)], [], (I, J)) else zm_V zT_X9_row zW_X (21, [some (.ref 0), some (.int 3), some (.int l2), some (.int l3), some (.ref 60)], [], (I, J)) from rfl)) ?_
  rw [if_neg (h4)]
  show zm_V zT_X9_row zW_X (21, [some (.ref 0), some (.int 3), some (.int l2), some (.int l3), some (.ref 60)], [], (I, J)) = _
  refine Eq.trans ((zm_V_eq _ _ _).trans (show zm_step zT_X9_row zW_X (zm_V zT_X9_row zW_X) (21, [some (.ref 0), some (.int 3), some (.int l2), some (.int l3), some (.ref 60)], [], (I, J)) = if (l3 : Int32) ≤ 60 then zm_V zT_X9_row zW_X (30, [some (.ref 0), some (.int 3), some (.int l2), some (.int l3), some (.ref 60)], [], (I, J)) else zm_V zT_X9_row zW_X (27, [some (.ref 0), some (.int 3), some (.int l2), some (.int l3), some (.ref 60)], [], (I, J)) from rfl)) ?_
  rw [if_pos (h6)]
  show zm_V zT_X9_row zW_X (30, [some (.ref 0), some (.int 3), some (.int l2), some (.int l3), some (.ref 60)], [], (I, J)) = _
  refine Eq.trans ((zm_V_eq _ _ _).trans (show zm_step zT_X9_row zW_X (zm_V zT_X9_row zW_X) (30, [some (.ref 0), some (.int 3), some (.int l2), some (.int l3), some (.ref 60)], [], (I, J)) = if (0 : Int32) ≤ l3 then zm_V zT_X9_row zW_X (37, [some (.ref 0), some (.int 3), some (.int l2), some (.int l3), some (.ref 60)], [], (I, J)) else zm_V zT_X9_row zW_X (34, [some (.ref 0), some (.int 3), some (.int l2), some (.int l3), some (.ref 60)], [], (I, J)) from rfl)) ?_
  rw [if_pos (h0)]
  show zm_V zT_X9_row zW_X (37, [some (.ref 0), some (.int 3), some (.int l2), some (.int l3), some (.ref 60)], [], (I, J)) = _
  refine Eq.trans ((zm_V_eq _ _ _).trans ((show zm_step zT_X9_row zW_X (zm_V zT_X9_row zW_X) (37, [some (.ref 0), some (.int 3), some (.int l2), some (.int l3), some (.ref 60)], [], (I, J)) = zm_app (3, some 7, false, [(0, 2)], zF_X7_start) zW_X [.ref 60, .int l2, .int l3] (I, J) (fun v N => zm_V zT_X9_row zW_X (44, [some (.ref 0), some (.int 3), some (.int l2), some (.int l3), some (.ref 60)], v.toList ++ [], N)) from rfl).trans (zm_app_l (bs := [(60, 2)]) rfl rfl rfl rfl rfl rfl (hN)))) ?_
  show zm_V zT_X9_row zW_X (44, [some (.ref 0), some (.int 3), some (.int l2), some (.int l3), some (.ref 60)], [], ((zm_mrg [(60, 2)] (I, J) N).1, (zm_mrg [(60, 2)] (I, J) N).2)) = _
  refine Eq.trans ((zm_V_eq _ _ _).trans (show zm_step zT_X9_row zW_X (zm_V zT_X9_row zW_X) (44, [some (.ref 0), some (.int 3), some (.int l2), some (.int l3), some (.ref 60)], [], ((zm_mrg [(60, 2)] (I, J) N).1, (zm_mrg [(60, 2)] (I, J) N).2)) = some (some (.int 0), ((zm_mrg [(60, 2)] (I, J) N).1, (zm_mrg [(60, 2)] (I, J) N).2)) from rfl)) ?_
  rfl
set_option maxRecDepth 20000 in
theorem zpm_row_n {l1 : Int32} (hn : l1 < 0 ∨ 4 ≤ l1) (l2 l3 : Int32) : zF_X10_row zW_M [.ref 0, .int l1, .int l2, .int l3] (I, J) = some (some (.int (-2)), ((zm_w I 0 0 0), J)) := by
  show zm_V zT_X10_row zW_M (0, [some (.ref 0), some (.int l1), some (.int l2), some (.int l3), none], [], (I, J)) = _
  refine Eq.trans ((zm_V_eq _ _ _).trans ((show zm_step zT_X10_row zW_M (zm_V zT_X10_row zW_M) (0, [some (.ref 0), some (.int l1), some (.int l2), some (.int l3), none], [], (I, J)) = zm_app (1, none, true, [], zF_X10_isSlot) zW_M [.int l1] ((zm_w I 0 0 0), J) (fun v N => zm_V zT_X10_row zW_M (9, [some (.ref 0), some (.int l1), some (.int l2), some (.int l3), none], v.toList ++ [], N)) from rfl).trans (zm_app_s rfl rfl (zgm_isSlot_n hn)))) ?_
  show zm_V zT_X10_row zW_M (9, [some (.ref 0), some (.int l1), some (.int l2), some (.int l3), none], [.int 0], ((zm_w I 0 0 0), J)) = _
  refine Eq.trans ((zm_V_eq _ _ _).trans (show zm_step zT_X10_row zW_M (zm_V zT_X10_row zW_M) (9, [some (.ref 0), some (.int l1), some (.int l2), some (.int l3), none], [.int 0], ((zm_w I 0 0 0), J)) = if ((0 : Int32) : Int32) = 0 then zm_V zT_X10_row zW_M (30, [some (.ref 0), some (.int l1), some (.int l2), some (.int l3), none], [], ((zm_w I 0 0 0), J)) else zm_V zT_X10_row zW_M (12, [some (.ref 0), some (.int l1), some (.int l2), some (.int l3), none], [], ((zm_w I 0 0 0), J)) from rfl)) ?_
  rw [if_pos (by decide)]
  show zm_V zT_X10_row zW_M (30, [some (.ref 0), some (.int l1), some (.int l2), some (.int l3), none], [], ((zm_w I 0 0 0), J)) = _
  refine Eq.trans ((zm_V_eq _ _ _).trans (show zm_step zT_X10_row zW_M (zm_V zT_X10_row zW_M) (30, [some (.ref 0), some (.int l1), some (.int l2), some (.int l3), none], [], ((zm_w I 0 0 0), J)) = some (some (.int (-2)), ((zm_w I 0 0 0), J)) from rfl)) ?_
  rfl
set_option maxRecDepth 20000 in
theorem zpm_row_0a {l2 : Int32} (l3 : Int32) (hq : zF_X10_in zW_M [.long (Int32.toInt64 l2), .long 0, .long (3)] ((zm_w I 0 0 0), J) = some (some (.int 0), ((zm_w I 0 0 0), J))) : zF_X10_row zW_M [.ref 0, .int 0, .int l2, .int l3] (I, J) = some (some (.int (-2)), ((zm_w I 0 0 0), J)) := by
  show zm_V zT_X10_row zW_M (0, [some (.ref 0), some (.int 0), some (.int l2), some (.int l3), none], [], (I, J)) = _
  refine Eq.trans ((zm_V_eq _ _ _).trans ((show zm_step zT_X10_row zW_M (zm_V zT_X10_row zW_M) (0, [some (.ref 0), some (.int 0), some (.int l2), some (.int l3), none], [], (I, J)) = zm_app (1, none, true, [], zF_X10_isSlot) zW_M [.int 0] ((zm_w I 0 0 0), J) (fun v N => zm_V zT_X10_row zW_M (9, [some (.ref 0), some (.int 0), some (.int l2), some (.int l3), none], v.toList ++ [], N)) from rfl).trans (zm_app_s rfl rfl (zgm_isSlot_y (by decide))))) ?_
  show zm_V zT_X10_row zW_M (9, [some (.ref 0), some (.int 0), some (.int l2), some (.int l3), none], [.int 1], ((zm_w I 0 0 0), J)) = _
  refine Eq.trans ((zm_V_eq _ _ _).trans (show zm_step zT_X10_row zW_M (zm_V zT_X10_row zW_M) (9, [some (.ref 0), some (.int 0), some (.int l2), some (.int l3), none], [.int 1], ((zm_w I 0 0 0), J)) = if ((1 : Int32) : Int32) = 0 then zm_V zT_X10_row zW_M (30, [some (.ref 0), some (.int 0), some (.int l2), some (.int l3), none], [], ((zm_w I 0 0 0), J)) else zm_V zT_X10_row zW_M (12, [some (.ref 0), some (.int 0), some (.int l2), some (.int l3), none], [], ((zm_w I 0 0 0), J)) from rfl)) ?_
  rw [if_neg (by decide)]
  show zm_V zT_X10_row zW_M (12, [some (.ref 0), some (.int 0), some (.int l2), some (.int l3), none], [], ((zm_w I 0 0 0), J)) = _
  refine Eq.trans ((zm_V_eq _ _ _).trans ((show zm_step zT_X10_row zW_M (zm_V zT_X10_row zW_M) (12, [some (.ref 0), some (.int 0), some (.int l2), some (.int l3), none], [], ((zm_w I 0 0 0), J)) = zm_app (3, none, true, [], zF_X10_in) zW_M [.long (Int32.toInt64 l2), .long 0, .long (3)] ((zm_w I 0 0 0), J) (fun v N => zm_V zT_X10_row zW_M (21, [some (.ref 0), some (.int 0), some (.int l2), some (.int l3), none], v.toList ++ [], N)) from rfl).trans (zm_app_s rfl rfl (hq)))) ?_
  show zm_V zT_X10_row zW_M (21, [some (.ref 0), some (.int 0), some (.int l2), some (.int l3), none], [.int 0], ((zm_w I 0 0 0), J)) = _
  refine Eq.trans ((zm_V_eq _ _ _).trans (show zm_step zT_X10_row zW_M (zm_V zT_X10_row zW_M) (21, [some (.ref 0), some (.int 0), some (.int l2), some (.int l3), none], [.int 0], ((zm_w I 0 0 0), J)) = if ((0 : Int32) : Int32) = 0 then zm_V zT_X10_row zW_M (30, [some (.ref 0), some (.int 0), some (.int l2), some (.int l3), none], [], ((zm_w I 0 0 0), J)) else zm_V zT_X10_row zW_M (24, [some (.ref 0), some (.int 0), some (.int l2), some (.int l3), none], [], ((zm_w I 0 0 0), J)) from rfl)) ?_
  rw [if_pos (by decide)]
  show zm_V zT_X10_row zW_M (30, [some (.ref 0), some (.int 0), some (.int l2), some (.int l3), none], [], ((zm_w I 0 0 0), J)) = _
  refine Eq.trans ((zm_V_eq _ _ _).trans (show zm_step zT_X10_row zW_M (zm_V zT_X10_row zW_M) (30, [some (.ref 0), some (.int 0), some (.int l2), some (.int l3), none], [], ((zm_w I 0 0 0), J)) = some (some (.int (-2)), ((zm_w I 0 0 0), J)) from rfl)) ?_
  rfl
set_option maxRecDepth 20000 in
theorem zpm_row_0c {l2 l3 : Int32} (h6 : ¬ l3 ≤ 60) (hq : zF_X10_in zW_M [.long (Int32.toInt64 l2), .long 0, .long (3)] ((zm_w I 0 0 0), J) = some (some (.int 1), ((zm_w I 0 0 0), J))) : zF_X10_row zW_M [.ref 0, .int 0, .int l2, .int l3] (I, J) = some (some (.int (-2)), ((zm_w I 0 0 0), J)) := by
  show zm_V zT_X10_row zW_M (0, [some (.ref 0), some (.int 0), some (.int l2), some (.int l3), none], [], (I, J)) = _
  refine Eq.trans ((zm_V_eq _ _ _).trans ((show zm_step zT_X10_row zW_M (zm_V zT_X10_row zW_M) (0, [some (.ref 0), some (.int 0), some (.int l2), some (.int l3), none], [], (I, J)) = zm_app (1, none, true, [], zF_X10_isSlot) zW_M [.int 0] ((zm_w I 0 0 0), J) (fun v N => zm_V zT_X10_row zW_M (9, [some (.ref 0), some (.int 0), some (.int l2), some (.int l3), none], v.toList ++ [], N)) from rfl).trans (zm_app_s rfl rfl (zgm_isSlot_y (by decide))))) ?_
  show zm_V zT_X10_row zW_M (9, [some (.ref 0), some (.int 0), some (.int l2), some (.int l3), none], [.int 1], ((zm_w I 0 0 0), J)) = _
  refine Eq.trans ((zm_V_eq _ _ _).trans (show zm_step zT_X10_row zW_M (zm_V zT_X10_row zW_M) (9, [some (.ref 0), some (.int 0), some (.int l2), some (.int l3), none], [.int 1], ((zm_w I 0 0 0), J)) = if ((1 : Int32) : Int32) = 0 then zm_V zT_X10_row zW_M (30, [some (.ref 0), some (.int 0), some (.int l2), some (.int l3), none], [], ((zm_w I 0 0 0), J)) else zm_V zT_X10_row zW_M (12, [some (.ref 0), some (.int 0), some (.int l2), some (.int l3), none], [], ((zm_w I 0 0 0), J)) from rfl)) ?_
  rw [if_neg (by decide)]
  show zm_V zT_X10_row zW_M (12, [some (.ref 0), some (.int 0), some (.int l2), some (.int l3), none], [], ((zm_w I 0 0 0), J)) = _
  refine Eq.trans ((zm_V_eq _ _ _).trans ((show zm_step zT_X10_row zW_M (zm_V zT_X10_row zW_M) (12, [some (.ref 0), some (.int 0), some (.int l2), some (.int l3), none], [], ((zm_w I 0 0 0), J)) = zm_app (3, none, true, [], zF_X10_in) zW_M [.long (Int32.toInt64 l2), .long 0, .long (3)] ((zm_w I 0 0 0), J) (fun v N => zm_V zT_X10_row zW_M (21, [some (.ref 0), some (.int 0), some (.int l2), some (.int l3), none], v.toList ++ [], N)) from rfl).trans (zm_app_s rfl rfl (hq)))) ?_
  show zm_V zT_X10_row zW_M (21, [some (.ref 0), some (.int 0), some (.int l2), some (.int l3), none], [.int 1], ((zm_w I 0 0 0), J)) = _
  refine Eq.trans ((zm_V_eq _ _ _).trans (show zm_step zT_X10_row zW_M (zm_V zT_X10_row zW_M) (21, [some (.ref 0), some (.int 0), some (.int l2), some (.int l3), none], [.int 1], ((zm_w I 0 0 0), J)) = if ((1 : Int32) : Int32) = 0 then zm_V zT_X10_row zW_M (30, [some (.ref 0), some (.int 0), some (.int l2), some (.int l3), none], [], ((zm_w I 0 0 0), J)) else zm_V zT_X10_row zW_M (24, [some (.ref 0), some (.int 0), some (.int l2), some (.int l3), none], [], ((zm_w I 0 0 0), J)) from rfl)) ?_
  rw [if_neg (by decide)]
  show zm_V zT_X10_row zW_M (24, [some (.ref 0), some (.int 0), some (.int l2), some (.int l3), none], [], ((zm_w I 0 0 0), J)) = _
  refine Eq.trans ((zm_V_eq _ _ _).trans (show zm_step zT_X10_row zW_M (zm_V zT_X10_row zW_M) (24, [some (.ref 0), some (.int 0), some (.int l2), some (.int l3), none], [], ((zm_w I 0 0 0), J)) = if (l3 : Int32) ≤ 60 then zm_V zT_X10_row zW_M (33, [some (.ref 0), some (.int 0), some (.int l2), some (.int l3), none], [], ((zm_w I 0 0 0), J)) else zm_V zT_X10_row zW_M (30, [some (.ref 0), some (.int 0), some (.int l2), some (.int l3), none], [], ((zm_w I 0 0 0), J)) from rfl)) ?_
  rw [if_neg (h6)]
  show zm_V zT_X10_row zW_M (30, [some (.ref 0), some (.int 0), some (.int l2), some (.int l3), none], [], ((zm_w I 0 0 0), J)) = _
  refine Eq.trans ((zm_V_eq _ _ _).trans (show zm_step zT_X10_row zW_M (zm_V zT_X10_row zW_M) (30, [some (.ref 0), some (.int 0), some (.int l2), some (.int l3), none], [], ((zm_w I 0 0 0), J)) = some (some (.int (-2)), ((zm_w I 0 0 0), J)) from rfl)) ?_
  rfl
set_option maxRecDepth 20000 in
theorem zpm_row_0d {l2 l3 : Int32} (h6 : l3 ≤ 60) (h0 : ¬ 0 ≤ l3) (hq : zF_X10_in zW_M [.long (Int32.toInt64 l2), .long 0, .long (3)] ((zm_w I 0 0 0), J) = some (some (.int 1), ((zm_w I 0 0 0), J))) : zF_X10_row zW_M [.ref 0, .int 0, .int l2, .int l3] (I, J) = some (some (.int (-3)), ((zm_w I 0 0 0), J)) := by
  show zm_V zT_X10_row zW_M (0, [some (.ref 0), some (.int 0), some (.int l2), some (.int l3), none], [], (I, J)) = _
  refine Eq.trans ((zm_V_eq _ _ _).trans ((show zm_step zT_X10_row zW_M (zm_V zT_X10_row zW_M) (0, [some (.ref 0), some (.int 0), some (.int l2), some (.int l3), none], [], (I, J)) = zm_app (1, none, true, [], zF_X10_isSlot) zW_M [.int 0] ((zm_w I 0 0 0), J) (fun v N => zm_V zT_X10_row zW_M (9, [some (.ref 0), some (.int 0), some (.int l2), some (.int l3), none], v.toList ++ [], N)) from rfl).trans (zm_app_s rfl rfl (zgm_isSlot_y (by decide))))) ?_
  show zm_V zT_X10_row zW_M (9, [some (.ref 0), some (.int 0), some (.int l2), some (.int l3), none], [.int 1], ((zm_w I 0 0 0), J)) = _
  refine Eq.trans ((zm_V_eq _ _ _).trans (show zm_step zT_X10_row zW_M (zm_V zT_X10_row zW_M) (9, [some (.ref 0), some (.int 0), some (.int l2), some (.int l3), none], [.int 1], ((zm_w I 0 0 0), J)) = if ((1 : Int32) : Int32) = 0 then zm_V zT_X10_row zW_M (30, [some (.ref 0), some (.int 0), some (.int l2), some (.int l3), none], [], ((zm_w I 0 0 0), J)) else zm_V zT_X10_row zW_M (12, [some (.ref 0), some (.int 0), some (.int l2), some (.int l3), none], [], ((zm_w I 0 0 0), J)) from rfl)) ?_
  rw [if_neg (by decide)]
  show zm_V zT_X10_row zW_M (12, [some (.ref 0), some (.int 0), some (.int l2), some (.int l3), none], [], ((zm_w I 0 0 0), J)) = _
  refine Eq.trans ((zm_V_eq _ _ _).trans ((show zm_step zT_X10_row zW_M (zm_V zT_X10_row zW_M) (12, [some (.ref 0), some (.int 0), some (.int l2), some (.int l3), none], [], ((zm_w I 0 0 0), J)) = zm_app (3, none, true, [], zF_X10_in) zW_M [.long (Int32.toInt64 l2), .long 0, .long (3)] ((zm_w I 0 0 0), J) (fun v N => zm_V zT_X10_row zW_M (21, [some (.ref 0), some (.int 0), some (.int l2), some (.int l3), none], v.toList ++ [], N)) from rfl).trans (zm_app_s rfl rfl (hq)))) ?_
  show zm_V zT_X10_row zW_M (21, [some (.ref 0), some (.int 0), some (.int l2), some (.int l3), none], [.int 1], ((zm_w I 0 0 0), J)) = _
  refine Eq.trans ((zm_V_eq _ _ _).trans (show zm_step zT_X10_row zW_M (zm_V zT_X10_row zW_M) (21, [some (.ref 0), some (.int 0), some (.int l2), some (.int l3), none], [.int 1], ((zm_w I 0 0 0), J)) = if ((1 : Int32) : Int32) = 0 then zm_V zT_X10_row zW_M (30, [some (.ref 0), some (.int 0), some (.int l2), some (.int l3), none], [], ((zm_w I 0 0 0), J)) else zm_V zT_X10_row zW_M (24, [some (.ref 0), some (.int 0), some (.int l2), some (.int l3), none], [], ((zm_w I 0 0 0), J)) from rfl)) ?_
  rw [if_neg (by decide)]
  show zm_V zT_X10_row zW_M (24, [some (.ref 0), some (.int 0), some (.int l2), some (.int l3), none], [], ((zm_w I 0 0 0), J)) = _
  refine Eq.trans ((zm_V_eq _ _ _).trans (show zm_step zT_X10_row zW_M (zm_V zT_X10_row zW_M) (24, [some (.ref 0), some (.int 0), some (.int l2), some (.int l3), none], [], ((zm_w I 0 0 0), J)) = if (l3 : Int32) ≤ 60 then zm_V zT_X10_row zW_M (33, [some (.ref 0), some (.int 0), some (.int l2), some (.int l3), none], [], ((zm_w I 0 0 0), J)) else zm_V zT_X10_row zW_M (30, [some (.ref 0), some (.int 0), some (.int l2), some (.int l3), none], [], ((zm_w I 0 0 0), J)) from rfl)) ?_
  rw [if_pos (h6)]
  show zm_V zT_X10_row zW_M (33, [some (.ref 0), some (.int 0), some (.int l2), some (.int l3), none], [], ((zm_w I 0 0 0), J)) = _
  refine Eq.trans ((zm_V_eq _ _ _).trans (show zm_step zT_X10_row zW_M (zm_V zT_X10_row zW_M) (33, [some (.ref 0), some (.int 0), some (.int l2), some (.int l3), none], [], ((zm_w I 0 0 0), J)) = if (0 : Int32) ≤ l3 then zm_V zT_X10_row zW_M (40, [some (.ref 0), some (.int 0), some (.int l2), some (.int l3), none], [], ((zm_w I 0 0 0), J)) else zm_V zT_X10_row zW_M (37, [some (.ref 0), some (.int 0), some (.int l2), some (.int l3), none], [], ((zm_w I 0 0 0), J)) from rfl)) ?_
  rw [if_neg (h0)]
  show zm_V zT_X10_row zW_M (37, [some (.ref 0), some (.int 0), some (.int l2), some (.int l3), none], [], ((zm_w I 0 0 0), J)) = _
  refine Eq.trans ((zm_V_eq _ _ _).trans (show zm_step zT_X10_row zW_M (zm_V zT_X10_row zW_M) (37, [some (.ref 0), some (.int 0), some (.int l2), some (.int l3), none], [], ((zm_w I 0 0 0), J)) = some (some (.int (-3)), ((zm_w I 0 0 0), J)) from rfl)) ?_
  rfl
set_option maxRecDepth 20000 in
theorem zpm_row_1a {l2 : Int32} (l3 : Int32) (hq : zF_X10_in zW_M [.long (Int32.toInt64 l2), .long 0, .long (3)] ((zm_w I 0 0 0), J) = some (some (.int 0), ((zm_w I 0 0 0), J))) : zF_X10_row zW_M [.ref 0, .int 1, .int l2, .int l3] (I, J) = some (some (.int (-2)), ((zm_w I 0 0 0), J)) := by
  show zm_V zT_X10_row zW_M (0, [some (.ref 0), some (.int 1), some (.int l2), some (.int l3), none], [], (I, J)) = _
  refine Eq.trans ((zm_V_eq _ _ _).trans ((show zm_step zT_X10_row zW_M (zm_V zT_X10_row zW_M) (0, [some (.ref 0), some (.int 1), some (.int l2), some (.int l3), none], [], (I, J)) = zm_app (1, none, true, [], zF_X10_isSlot) zW_M [.int 1] ((zm_w I 0 0 0), J) (fun v N => zm_V zT_X10_row zW_M (9, [some (.ref 0), some (.int 1), some (.int l2), some (.int l3), none], v.toList ++ [], N)) from rfl).trans (zm_app_s rfl rfl (zgm_isSlot_y (by decide))))) ?_
  show zm_V zT_X10_row zW_M (9, [some (.ref 0), some (.int 1), some (.int l2), some (.int l3), none], [.int 1], ((zm_w I 0 0 0), J)) = _
  refine Eq.trans ((zm_V_eq _ _ _).trans (show zm_step zT_X10_row zW_M (zm_V zT_X10_row zW_M) (9, [some (.ref 0), some (.int 1), some (.int l2), some (.int l3), none], [.int 1], ((zm_w I 0 0 0), J)) = if ((1 : Int32) : Int32) = 0 then zm_V zT_X10_row zW_M (30, [some (.ref 0), some (.int 1), some (.int l2), some (.int l3), none], [], ((zm_w I 0 0 0), J)) else zm_V zT_X10_row zW_M (12, [some (.ref 0), some (.int 1), some (.int l2), some (.int l3), none], [], ((zm_w I 0 0 0), J)) from rfl)) ?_
  rw [if_neg (by decide)]
  show zm_V zT_X10_row zW_M (12, [some (.ref 0), some (.int 1), some (.int l2), some (.int l3), none], [], ((zm_w I 0 0 0), J)) = _
  refine Eq.trans ((zm_V_eq _ _ _).trans ((show zm_step zT_X10_row zW_M (zm_V zT_X10_row zW_M) (12, [some (.ref 0), some (.int 1), some (.int l2), some (.int l3), none], [], ((zm_w I 0 0 0), J)) = zm_app (3, none, true, [], zF_X10_in) zW_M [.long (Int32.toInt64 l2), .long 0, .long (3)] ((zm_w I 0 0 0), J) (fun v N => zm_V zT_X10_row zW_M (21, [some (.ref 0), some (.int 1), some (.int l2), some (.int l3), none], v.toList ++ [], N)) from rfl).trans (zm_app_s rfl rfl (hq)))) ?_
  show zm_V zT_X10_row zW_M (21, [some (.ref 0), some (.int 1), some (.int l2), some (.int l3), none], [.int 0], ((zm_w I 0 0 0), J)) = _
  refine Eq.trans ((zm_V_eq _ _ _).trans (show zm_step zT_X10_row zW_M (zm_V zT_X10_row zW_M) (21, [some (.ref 0), some (.int 1), some (.int l2), some (.int l3), none], [.int 0], ((zm_w I 0 0 0), J)) = if ((0 : Int32) : Int32) = 0 then zm_V zT_X10_row zW_M (30, [some (.ref 0), some (.int 1), some (.int l2), some (.int l3), none], [], ((zm_w I 0 0 0), J)) else zm_V zT_X10_row zW_M (24, [some (.ref 0), some (.int 1), some (.int l2), some (.int l3), none], [], ((zm_w I 0 0 0), J)) from rfl)) ?_
  rw [if_pos (by decide)]
  show zm_V zT_X10_row zW_M (30, [some (.ref 0), some (.int 1), some (.int l2), some (.int l3), none], [], ((zm_w I 0 0 0), J)) = _
  refine Eq.trans ((zm_V_eq _ _ _).trans (show zm_step zT_X10_row zW_M (zm_V zT_X10_row zW_M) (30, [some (.ref 0), some (.int 1), some (.int l2), some (.int l3), none], [], ((zm_w I 0 0 0), J)) = some (some (.int (-2)), ((zm_w I 0 0 0), J)) from rfl)) ?_
  rfl
set_option maxRecDepth 20000 in
theorem zpm_row_1c {l2 l3 : Int32} (h6 : ¬ l3 ≤ 60) (hq : zF_X10_in zW_M [.long (Int32.toInt64 l2), .long 0, .long (3)] ((zm_w I 0 0 0), J) = some (some (.int 1), ((zm_w I 0 0 0), J))) : zF_X10_row zW_M [.ref 0, .int 1, .int l2, .int l3] (I, J) = some (some (.int (-2)), ((zm_w I 0 0 0), J)) := by
  show zm_V zT_X10_row zW_M (0, [some (.ref 0), some (.int 1), some (.int l2), some (.int l3), none], [], (I, J)) = _
  refine Eq.trans ((zm_V_eq _ _ _).trans ((show zm_step zT_X10_row zW_M (zm_V zT_X10_row zW_M) (0, [some (.ref 0), some (.int 1), some (.int l2), some (.int l3), none], [], (I, J)) = zm_app (1, none, true, [], zF_X10_isSlot) zW_M [.int 1] ((zm_w I 0 0 0), J) (fun v N => zm_V zT_X10_row zW_M (9, [some (.ref 0), some (.int 1), some (.int l2), some (.int l3), none], v.toList ++ [], N)) from rfl).trans (zm_app_s rfl rfl (zgm_isSlot_y (by decide))))) ?_
  show zm_V zT_X10_row zW_M (9, [some (.ref 0), some (.int 1), some (.int l2), some (.int l3), none], [.int 1], ((zm_w I 0 0 0), J)) = _
  refine Eq.trans ((zm_V_eq _ _ _).trans (show zm_step zT_X10_row zW_M (zm_V zT_X10_row zW_M) (9, [some (.ref 0), some (.int 1), some (.int l2), some (.int l3), none], [.int 1], ((zm_w I 0 0 0), J)) = if ((1 : Int32) : Int32) = 0 then zm_V zT_X10_row zW_M (30, [some (.ref 0), some (.int 1), some (.int l2), some (.int l3), none], [], ((zm_w I 0 0 0), J)) else zm_V zT_X10_row zW_M (12, [some (.ref 0), some (.int 1), some (.int l2), some (.int l3), none], [], ((zm_w I 0 0 0), J)) from rfl)) ?_
  rw [if_neg (by decide)]
  show zm_V zT_X10_row zW_M (12, [some (.ref 0), some (.int 1), some (.int l2), some (.int l3), none], [], ((zm_w I 0 0 0), J)) = _
  refine Eq.trans ((zm_V_eq _ _ _).trans ((show zm_step zT_X10_row zW_M (zm_V zT_X10_row zW_M) (12, [some (.ref 0), some (.int 1), some (.int l2), some (.int l3), none], [], ((zm_w I 0 0 0), J)) = zm_app (3, none, true, [], zF_X10_in) zW_M [.long (Int32.toInt64 l2), .long 0, .long (3)] ((zm_w I 0 0 0), J) (fun v N => zm_V zT_X10_row zW_M (21, [some (.ref 0), some (.int 1), some (.int l2), some (.int l3), none], v.toList ++ [], N)) from rfl).trans (zm_app_s rfl rfl (hq)))) ?_
  show zm_V zT_X10_row zW_M (21, [some (.ref 0), some (.int 1), some (.int l2), some (.int l3), none], [.int 1], ((zm_w I 0 0 0), J)) = _
  refine Eq.trans ((zm_V_eq _ _ _).trans (show zm_step zT_X10_row zW_M (zm_V zT_X10_row zW_M) (21, [some (.ref 0), some (.int 1), some (.int l2), some (.int l3), none], [.int 1], ((zm_w I 0 0 0), J)) = if ((1 : Int32) : Int32) = 0 then zm_V zT_X10_row zW_M (30, [some (.ref 0), some (.int 1), some (.int l2), some (.int l3), none], [], ((zm_w I 0 0 0), J)) else zm_V zT_X10_row zW_M (24, [some (.ref 0), some (.int 1), some (.int l2), some (.int l3), none], [], ((zm_w I 0 0 0), J)) from rfl)) ?_
  rw [if_neg (by decide)]
  show zm_V zT_X10_row zW_M (24, [some (.ref 0), some (.int 1), some (.int l2), some (.int l3), none], [], ((zm_w I 0 0 0), J)) = _
  refine Eq.trans ((zm_V_eq _ _ _).trans (show zm_step zT_X10_row zW_M (zm_V zT_X10_row zW_M) (24, [some (.ref 0), some (.int 1), some (.int l2), some (.int l3), none], [], ((zm_w I 0 0 0), J)) = if (l3 : Int32) ≤ 60 then zm_V zT_X10_row zW_M (33, [some (.ref 0), some (.int 1), some (.int l2), some (.int l3), none], [], ((zm_w I 0 0 0), J)) else zm_V zT_X10_row zW_M (30, [some (.ref 0), some (.int 1), some (.int l2), some (.int l3), none], [], ((zm_w I 0 0 0), J)) from rfl)) ?_
  rw [if_neg (h6)]
  show zm_V zT_X10_row zW_M (30, [some (.ref 0), some (.int 1), some (.int l2), some (.int l3), none], [], ((zm_w I 0 0 0), J)) = _
  refine Eq.trans ((zm_V_eq _ _ _).trans (show zm_step zT_X10_row zW_M (zm_V zT_X10_row zW_M) (30, [some (.ref 0), some (.int 1), some (.int l2), some (.int l3), none], [], ((zm_w I 0 0 0), J)) = some (some (.int (-2)), ((zm_w I 0 0 0), J)) from rfl)) ?_
  rfl
set_option maxRecDepth 20000 in
theorem zpm_row_1d {l2 l3 : Int32} (h6 : l3 ≤ 60) (h0 : ¬ 0 ≤ l3) (hq : zF_X10_in zW_M [.long (Int32.toInt64 l2), .long 0, .long (3)] ((zm_w I 0 0 0), J) = some (some (.int 1), ((zm_w I 0 0 0), J))) : zF_X10_row zW_M [.ref 0, .int 1, .int l2, .int l3] (I, J) = some (some (.int (-3)), ((zm_w I 0 0 0), J)) := by
  show zm_V zT_X10_row zW_M (0, [some (.ref 0), some (.int 1), some (.int l2), some (.int l3), none], [], (I, J)) = _
  refine Eq.trans ((zm_V_eq _ _ _).trans ((show zm_step zT_X10_row zW_M (zm_V zT_X10_row zW_M) (0, [some (.ref 0), some (.int 1), some (.int l2), some (.int l3), none], [], (I, J)) = zm_app (1, none, true, [], zF_X10_isSlot) zW_M [.int 1] ((zm_w I 0 0 0), J) (fun v N => zm_V zT_X10_row zW_M (9, [some (.ref 0), some (.int 1), some (.int l2), some (.int l3), none], v.toList ++ [], N)) from rfl).trans (zm_app_s rfl rfl (zgm_isSlot_y (by decide))))) ?_
  show zm_V zT_X10_row zW_M (9, [some (.ref 0), some (.int 1), some (.int l2), some (.int l3), none], [.int 1], ((zm_w I 0 0 0), J)) = _
  refine Eq.trans ((zm_V_eq _ _ _).trans (show zm_step zT_X10_row zW_M (zm_V zT_X10_row zW_M) (9, [some (.ref 0), some (.int 1), some (.int l2), some (.int l3), none], [.int 1], ((zm_w I 0 0 0), J)) = if ((1 : Int32) : Int32) = 0 then zm_V zT_X10_row zW_M (30, [some (.ref 0), some (.int 1), some (.int l2), some (.int l3), none], [], ((zm_w I 0 0 0), J)) else zm_V zT_X10_row zW_M (12, [some (.ref 0), some (.int 1), some (.int l2), some (.int l3), none], [], ((zm_w I 0 0 0), J)) from rfl)) ?_
  rw [if_neg (by decide)]
  show zm_V zT_X10_row zW_M (12, [some (.ref 0), some (.int 1), some (.int l2), some (.int l3), none], [], ((zm_w I 0 0 0), J)) = _
  refine Eq.trans ((zm_V_eq _ _ _).trans ((show zm_step zT_X10_row zW_M (zm_V zT_X10_row zW_M) (12, [some (.ref 0), some (.int 1), some (.int l2), some (.int l3), none], [], ((zm_w I 0 0 0), J)) = zm_app (3, none, true, [], zF_X10_in) zW_M [.long (Int32.toInt64 l2), .long 0, .long (3)] ((zm_w I 0 0 0), J) (fun v N => zm_V zT_X10_row zW_M (21, [some (.ref 0), some (.int 1), some (.int l2), some (.int l3), none], v.toList ++ [], N)) from rfl).trans (zm_app_s rfl rfl (hq)))) ?_
  show zm_V zT_X10_row zW_M (21, [some (.ref 0), some (.int 1), some (.int l2), some (.int l3), none], [.int 1], ((zm_w I 0 0 0), J)) = _
  refine Eq.trans ((zm_V_eq _ _ _).trans (show zm_step zT_X10_row zW_M (zm_V zT_X10_row zW_M) (21, [some (.ref 0), some (.int 1), some (.int l2), some (.int l3), none], [.int 1], ((zm_w I 0 0 0), J)) = if ((1 : Int32) : Int32) = 0 then zm_V zT_X10_row zW_M (30, [some (.ref 0), some (.int 1), some (.int l2), some (.int l3), none], [], ((zm_w I 0 0 0), J)) else zm_V zT_X10_row zW_M (24, [some (.ref 0), some (.int 1), some (.int l2), some (.int l3), none], [], ((zm_w I 0 0 0), J)) from rfl)) ?_
  rw [if_neg (by decide)]
  show zm_V zT_X10_row zW_M (24, [some (.ref 0), some (.int 1), some (.int l2), some (.int l3), none], [], ((zm_w I 0 0 0), J)) = _
  refine Eq.trans ((zm_V_eq _ _ _).trans (show zm_step zT_X10_row zW_M (zm_V zT_X10_row zW_M) (24, [some (.ref 0), some (.int 1), some (.int l2), some (.int l3), none], [], ((zm_w I 0 0 0), J)) = if (l3 : Int32) ≤ 60 then zm_V zT_X10_row zW_M (33, [some (.ref 0), some (.int 1), some (.int l2), some (.int l3), none], [], ((zm_w I 0 0 0), J)) else zm_V zT_X10_row zW_M (30, [some (.ref 0), some (.int 1), some (.int l2), some (.int l3), none], [], ((zm_w I 0 0 0), J)) from rfl)) ?_
  rw [if_pos (h6)]
  show zm_V zT_X10_row zW_M (33, [some (.ref 0), some (.int 1), some (.int l2), some (.int l3), none], [], ((zm_w I 0 0 0), J)) = _
  refine Eq.trans ((zm_V_eq _ _ _).trans (show zm_step zT_X10_row zW_M (zm_V zT_X10_row zW_M) (33, [some (.ref 0), some (.int 1), some (.int l2), some (.int l3), none], [], ((zm_w I 0 0 0), J)) = if (0 : Int32) ≤ l3 then zm_V zT_X10_row zW_M (40, [some (.ref 0), some (.int 1), some (.int l2), some (.int l3), none], [], ((zm_w I 0 0 0), J)) else zm_V zT_X10_row zW_M (37, [some (.ref 0), some (.int 1), some (.int l2), some (.int l3), none], [], ((zm_w I 0 0 0), J)) from rfl)) ?_
  rw [if_neg (h0)]
  show zm_V zT_X10_row zW_M (37, [some (.ref 0), some (.int 1), some (.int l2), some (.int l3), none], [], ((zm_w I 0 0 0), J)) = _
  refine Eq.trans ((zm_V_eq _ _ _).trans (show zm_step zT_X10_row zW_M (zm_V zT_X10_row zW_M) (37, [some (.ref 0), some (.int 1), some (.int l2), some (.int l3), none], [], ((zm_w I 0 0 0), J)) = some (some (.int (-3)), ((zm_w I 0 0 0), J)) from rfl)) ?_
  rfl
set_option maxRecDepth 20000 in
theorem zpm_row_2a {l2 : Int32} (l3 : Int32) (hq : zF_X10_in zW_M [.long (Int32.toInt64 l2), .long 0, .long (3)] ((zm_w I 0 0 0), J) = some (some (.int 0), ((zm_w I 0 0 0), J))) : zF_X10_row zW_M [.ref 0, .int 2, .int l2, .int l3] (I, J) = some (some (.int (-2)), ((zm_w I 0 0 0), J)) := by
  show zm_V zT_X10_row zW_M (0, [some (.ref 0), some (.int 2), some (.int l2), some (.int l3), none], [], (I, J)) = _
  refine Eq.trans ((zm_V_eq _ _ _).trans ((show zm_step zT_X10_row zW_M (zm_V zT_X10_row zW_M) (0, [some (.ref 0), some (.int 2), some (.int l2), some (.int l3), none], [], (I, J)) = zm_app (1, none, true, [], zF_X10_isSlot) zW_M [.int 2] ((zm_w I 0 0 0), J) (fun v N => zm_V zT_X10_row zW_M (9, [some (.ref 0), some (.int 2), some (.int l2), some (.int l3), none], v.toList ++ [], N)) from rfl).trans (zm_app_s rfl rfl (zgm_isSlot_y (by decide))))) ?_
  show zm_V zT_X10_row zW_M (9, [some (.ref 0), some (.int 2), some (.int l2), some (.int l3), none], [.int 1], ((zm_w I 0 0 0), J)) = _
  refine Eq.trans ((zm_V_eq _ _ _).trans (show zm_step zT_X10_row zW_M (zm_V zT_X10_row zW_M) (9, [some (.ref 0), some (.int 2), some (.int l2), some (.int l3), none], [.int 1], ((zm_w I 0 0 0), J)) = if ((1 : Int32) : Int32) = 0 then zm_V zT_X10_row zW_M (30, [some (.ref 0), some (.int 2), some (.int l2), some (.int l3), none], [], ((zm_w I 0 0 0), J)) else zm_V zT_X10_row zW_M (12, [some (.ref 0), some (.int 2), some (.int l2), some (.int l3), none], [], ((zm_w I 0 0 0), J)) from rfl)) ?_
  rw [if_neg (by decide)]
  show zm_V zT_X10_row zW_M (12, [some (.ref 0), some (.int 2), some (.int l2), some (.int l3), none], [], ((zm_w I 0 0 0), J)) = _
  refine Eq.trans ((zm_V_eq _ _ _).trans ((show zm_step zT_X10_row zW_M (zm_V zT_X10_row zW_M) (12, [some (.ref 0), some (.int 2), some (.int l2), some (.int l3), none], [], ((zm_w I 0 0 0), J)) = zm_app (3, none, true, [], zF_X10_in) zW_M [.long (Int32.toInt64 l2), .long 0, .long (3)] ((zm_w I 0 0 0), J) (fun v N => zm_V zT_X10_row zW_M (21, [some (.ref 0), some (.int 2), some (.int l2), some (.int l3), none], v.toList ++ [], N)) from rfl).trans (zm_app_s rfl rfl (hq)))) ?_
  show zm_V zT_X10_row zW_M (21, [some (.ref 0), some (.int 2), some (.int l2), some (.int l3), none], [.int 0], ((zm_w I 0 0 0), J)) = _
  refine Eq.trans ((zm_V_eq _ _ _).trans (show zm_step zT_X10_row zW_M (zm_V zT_X10_row zW_M) (21, [some (.ref 0), some (.int 2), some (.int l2), some (.int l3), none], [.int 0], ((zm_w I 0 0 0), J)) = if ((0 : Int32) : Int32) = 0 then zm_V zT_X10_row zW_M (30, [some (.ref 0), some (.int 2), some (.int l2), some (.int l3), none], [], ((zm_w I 0 0 0), J)) else zm_V zT_X10_row zW_M (24, [some (.ref 0), some (.int 2), some (.int l2), some (.int l3), none], [], ((zm_w I 0 0 0), J)) from rfl)) ?_
  rw [if_pos (by decide)]
  show zm_V zT_X10_row zW_M (30, [some (.ref 0), some (.int 2), some (.int l2), some (.int l3), none], [], ((zm_w I 0 0 0), J)) = _
  refine Eq.trans ((zm_V_eq _ _ _).trans (show zm_step zT_X10_row zW_M (zm_V zT_X10_row zW_M) (30, [some (.ref 0), some (.int 2), some (.int l2), some (.int l3), none], [], ((zm_w I 0 0 0), J)) = some (some (.int (-2)), ((zm_w I 0 0 0), J)) from rfl)) ?_
  rfl
set_option maxRecDepth 20000 in
theorem zpm_row_2c {l2 l3 : Int32} (h6 : ¬ l3 ≤ 60) (hq : zF_X10_in zW_M [.long (Int32.toInt64 l2), .long 0, .long (3)] ((zm_w I 0 0 0), J) = some (some (.int 1), ((zm_w I 0 0 0), J))) : zF_X10_row zW_M [.ref 0, .int 2, .int l2, .int l3] (I, J) = some (some (.int (-2)), ((zm_w I 0 0 0), J)) := by
  show zm_V zT_X10_row zW_M (0, [some (.ref 0), some (.int 2), some (.int l2), some (.int l3), none], [], (I, J)) = _
  refine Eq.trans ((zm_V_eq _ _ _).trans ((show zm_step zT_X10_row zW_M (zm_V zT_X10_row zW_M) (0, [some (.ref 0), some (.int 2), some (.int l2), some (.int l3), none], [], (I, J)) = zm_app (1, none, true, [], zF_X10_isSlot) zW_M [.int 2] ((zm_w I 0 0 0), J) (fun v N => zm_V zT_X10_row zW_M (9, [some (.ref 0), some (.int 2), some (.int l2), some (.int l3), none], v.toList ++ [], N)) from rfl).trans (zm_app_s rfl rfl (zgm_isSlot_y (by decide))))) ?_
  show zm_V zT_X10_row zW_M (9, [some (.ref 0), some (.int 2), some (.int l2), some (.int l3), none], [.int 1], ((zm_w I 0 0 0), J)) = _
  refine Eq.trans ((zm_V_eq _ _ _).trans (show zm_step zT_X10_row zW_M (zm_V zT_X10_row zW_M) (9, [some (.ref 0), some (.int 2), some (.int l2), some (.int l3), none], [.int 1], ((zm_w I 0 0 0), J)) = if ((1 : Int32) : Int32) = 0 then zm_V zT_X10_row zW_M (30, [some (.ref 0), some (.int 2), some (.int l2), some (.int l3), none], [], ((zm_w I 0 0 0), J)) else zm_V zT_X10_row zW_M (12, [some (.ref 0), some (.int 2), some (.int l2), some (.int l3), none], [], ((zm_w I 0 0 0), J)) from rfl)) ?_
  rw [if_neg (by decide)]
  show zm_V zT_X10_row zW_M (12, [some (.ref 0), some (.int 2), some (.int l2), some (.int l3), none], [], ((zm_w I 0 0 0), J)) = _
  refine Eq.trans ((zm_V_eq _ _ _).trans ((show zm_step zT_X10_row zW_M (zm_V zT_X10_row zW_M) (12, [some (.ref 0), some (.int 2), some (.int l2), some (.int l3), none], [], ((zm_w I 0 0 0), J)) = zm_app (3, none, true, [], zF_X10_in) zW_M [.long (Int32.toInt64 l2), .long 0, .long (3)] ((zm_w I 0 0 0), J) (fun v N => zm_V zT_X10_row zW_M (21, [some (.ref 0), some (.int 2), some (.int l2), some (.int l3), none], v.toList ++ [], N)) from rfl).trans (zm_app_s rfl rfl (hq)))) ?_
  show zm_V zT_X10_row zW_M (21, [some (.ref 0), some (.int 2), some (.int l2), some (.int l3), none], [.int 1], ((zm_w I 0 0 0), J)) = _
  refine Eq.trans ((zm_V_eq _ _ _).trans (show zm_step zT_X10_row zW_M (zm_V zT_X10_row zW_M) (21, [some (.ref 0), some (.int 2), some (.int l2), some (.int l3), none], [.int 1], ((zm_w I 0 0 0), J)) = if ((1 : Int32) : Int32) = 0 then zm_V zT_X10_row zW_M (30, [some (.ref 0), some (.int 2), some (.int l2), some (.int l3), none], [], ((zm_w I 0 0 0), J)) else zm_V zT_X10_row zW_M (24, [some (.ref 0), some (.int 2), some (.int l2), some (.int l3), none], [], ((zm_w I 0 0 0), J)) from rfl)) ?_
  rw [if_neg (by decide)]
  show zm_V zT_X10_row zW_M (24, [some (.ref 0), some (.int 2), some (.int l2), some (.int l3), none], [], ((zm_w I 0 0 0), J)) = _
  refine Eq.trans ((zm_V_eq _ _ _).trans (show zm_step zT_X10_row zW_M (zm_V zT_X10_row zW_M) (24, [some (.ref 0), some (.int 2), some (.int l2), some (.int l3), none], [], ((zm_w I 0 0 0), J)) = if (l3 : Int32) ≤ 60 then zm_V zT_X10_row zW_M (33, [some (.ref 0), some (.int 2), some (.int l2), some (.int l3), none], [], ((zm_w I 0 0 0), J)) else zm_V zT_X10_row zW_M (30, [some (.ref 0), some (.int 2), some (.int l2), some (.int l3), none], [], ((zm_w I 0 0 0), J)) from rfl)) ?_
  rw [if_neg (h6)]
  show zm_V zT_X10_row zW_M (30, [some (.ref 0), some (.int 2), some (.int l2), some (.int l3), none], [], ((zm_w I 0 0 0), J)) = _
  refine Eq.trans ((zm_V_eq _ _ _).trans (show zm_step zT_X10_row zW_M (zm_V zT_X10_row zW_M) (30, [some (.ref 0), some (.int 2), some (.int l2), some (.int l3), none], [], ((zm_w I 0 0 0), J)) = some (some (.int (-2)), ((zm_w I 0 0 0), J)) from rfl)) ?_
  rfl
set_option maxRecDepth 20000 in
theorem zpm_row_2d {l2 l3 : Int32} (h6 : l3 ≤ 60) (h0 : ¬ 0 ≤ l3) (hq : zF_X10_in zW_M [.long (Int32.toInt64 l2), .long 0, .long (3)] ((zm_w I 0 0 0), J) = some (some (.int 1), ((zm_w I 0 0 0), J))) : zF_X10_row zW_M [.ref 0, .int 2, .int l2, .int l3] (I, J) = some (some (.int (-3)), ((zm_w I 0 0 0), J)) := by
  show zm_V zT_X10_row zW_M (0, [some (.ref 0), some (.int 2), some (.int l2), some (.int l3), none], [], (I, J)) = _
  refine Eq.trans ((zm_V_eq _ _ _).trans ((show zm_step zT_X10_row zW_M (zm_V zT_X10_row zW_M) (0, [some (.ref 0), some (.int 2), some (.int l2), some (.int l3), none], [], (I, J)) = zm_app (1, none, true, [], zF_X10_isSlot) zW_M [.int 2] ((zm_w I 0 0 0), J) (fun v N => zm_V zT_X10_row zW_M (9, [some (.ref 0), some (.int 2), some (.int l2), some (.int l3), none], v.toList ++ [], N)) from rfl).trans (zm_app_s rfl rfl (zgm_isSlot_y (by decide))))) ?_
  show zm_V zT_X10_row zW_M (9, [some (.ref 0), some (.int 2), some (.int l2), some (.int l3), none], [.int 1], ((zm_w I 0 0 0), J)) = _
  refine Eq.trans ((zm_V_eq _ _ _).trans (show zm_step zT_X10_row zW_M (zm_V zT_X10_row zW_M) (9, [some (.ref 0), some (.int 2), some (.int l2), some (.int l3), none], [.int 1], ((zm_w I 0 0 0), J)) = if ((1 : Int32) : Int32) = 0 then zm_V zT_X10_row zW_M (30, [some (.ref 0), some (.int 2), some (.int l2), some (.int l3), none], [], ((zm_w I 0 0 0), J)) else zm_V zT_X10_row zW_M (12, [some (.ref 0), some (.int 2), some (.int l2), some (.int l3), none], [], ((zm_w I 0 0 0), J)) from rfl)) ?_
  rw [if_neg (by decide)]
  show zm_V zT_X10_row zW_M (12, [some (.ref 0), some (.int 2), some (.int l2), some (.int l3), none], [], ((zm_w I 0 0 0), J)) = _
  refine Eq.trans ((zm_V_eq _ _ _).trans ((show zm_step zT_X10_row zW_M (zm_V zT_X10_row zW_M) (12, [some (.ref 0), some (.int 2), some (.int l2), some (.int l3), none], [], ((zm_w I 0 0 0), J)) = zm_app (3, none, true, [], zF_X10_in) zW_M [.long (Int32.toInt64 l2), .long 0, .long (3)] ((zm_w I 0 0 0), J) (fun v N => zm_V zT_X10_row zW_M (21, [some (.ref 0), some (.int 2), some (.int l2), some (.int l3), none], v.toList ++ [], N)) from rfl).trans (zm_app_s rfl rfl (hq)))) ?_
  show zm_V zT_X10_row zW_M (21, [some (.ref 0), some (.int 2), some (.int l2), some (.int l3), none], [.int 1], ((zm_w I 0 0 0), J)) = _
  refine Eq.trans ((zm_V_eq _ _ _).trans (show zm_step zT_X10_row zW_M (zm_V zT_X10_row zW_M) (21, [some (.ref 0), some (.int 2), some (.int l2), some (.int l3), none], [.int 1], ((zm_w I 0 0 0), J)) = if ((1 : Int32) : Int32) = 0 then zm_V zT_X10_row zW_M (30, [some (.ref 0), some (.int 2), some (.int l2), some (.int l3), none], [], ((zm_w I 0 0 0), J)) else zm_V zT_X10_row zW_M (24, [some (.ref 0), some (.int 2), some (.int l2), some (.int l3), none], [], ((zm_w I 0 0 0), J)) from rfl)) ?_
  rw [if_neg (by decide)]
  show zm_V zT_X10_row zW_M (24, [some (.ref 0), some (.int 2), some (.int l2), some (.int l3), none], [], ((zm_w I 0 0 0), J)) = _
  refine Eq.trans ((zm_V_eq _ _ _).trans (show zm_step zT_X10_row zW_M (zm_V zT_X10_row zW_M) (24, [some (.ref 0), some (.int 2), some (.int l2), some (.int l3), none], [], ((zm_w I 0 0 0), J)) = if (l3 : Int32) ≤ 60 then zm_V zT_X10_row zW_M (33, [some (.ref 0), some (.int 2), some (.int l2), some (.int l3), none], [], ((zm_w I 0 0 0), J)) else zm_V zT_X10_row zW_M (30, [some (.ref 0), some (.int 2), some (.int l2), some (.int l3), none], [], ((zm_w I 0 0 0), J)) from rfl)) ?_
  rw [if_pos (h6)]
  show zm_V zT_X10_row zW_M (33, [some (.ref 0), some (.int 2), some (.int l2), some (.int l3), none], [], ((zm_w I 0 0 0), J)) = _
  refine Eq.trans ((zm_V_eq _ _ _).trans (show zm_step zT_X10_row zW_M (zm_V zT_X10_row zW_M) (33, [some (.ref 0), some (.int 2), some (.int l2), some (.int l3), none], [], ((zm_w I 0 0 0), J)) = if (0 : Int32) ≤ l3 then zm_V zT_X10_row zW_M (40, [some (.ref 0), some (.int 2), some (.int l2), some (.int l3), none], [], ((zm_w I 0 0 0), J)) else zm_V zT_X10_row zW_M (37, [some (.ref 0), some (.int 2), some (.int l2), some (.int l3), none], [], ((zm_w I 0 0 0), J)) from rfl)) ?_
  rw [if_neg (h0)]
  show zm_V zT_X10_row zW_M (37, [some (.ref 0), some (.int 2), some (.int l2), some (.int l3), none], [], ((zm_w I 0 0 0), J)) = _
  refine Eq.trans ((zm_V_eq _ _ _).trans (show zm_step zT_X10_row zW_M (zm_V zT_X10_row zW_M) (37, [some (.ref 0), some (.int 2), some (.int l2), some (.int l3), none], [], ((zm_w I 0 0 0), J)) = some (some (.int (-3)), ((zm_w I 0 0 0), J)) from rfl)) ?_
  rfl
set_option maxRecDepth 20000 in
theorem zpm_row_3a {l2 : Int32} (l3 : Int32) (hq : zF_X10_in zW_M [.long (Int32.toInt64 l2), .long 0, .long (3)] ((zm_w I 0 0 0), J) = some (some (.int 0), ((zm_w I 0 0 0), J))) : zF_X10_row zW_M [.ref 0, .int 3, .int l2, .int l3] (I, J) = some (some (.int (-2)), ((zm_w I 0 0 0), J)) := by
  show zm_V zT_X10_row zW_M (0, [some (.ref 0), some (.int 3), some (.int l2), some (.int l3), none], [], (I, J)) = _
  refine Eq.trans ((zm_V_eq _ _ _).trans ((show zm_step zT_X10_row zW_M (zm_V zT_X10_row zW_M) (0, [some (.ref 0), some (.int 3), some (.int l2), some (.int l3), none], [], (I, J)) = zm_app (1, none, true, [], zF_X10_isSlot) zW_M [.int 3] ((zm_w I 0 0 0), J) (fun v N => zm_V zT_X10_row zW_M (9, [some (.ref 0), some (.int 3), some (.int l2), some (.int l3), none], v.toList ++ [], N)) from rfl).trans (zm_app_s rfl rfl (zgm_isSlot_y (by decide))))) ?_
  show zm_V zT_X10_row zW_M (9, [some (.ref 0), some (.int 3), some (.int l2), some (.int l3), none], [.int 1], ((zm_w I 0 0 0), J)) = _
  refine Eq.trans ((zm_V_eq _ _ _).trans (show zm_step zT_X10_row zW_M (zm_V zT_X10_row zW_M) (9, [some (.ref 0), some (.int 3), some (.int l2), some (.int l3), none], [.int 1], ((zm_w I 0 0 0), J)) = if ((1 : Int32) : Int32) = 0 then zm_V zT_X10_row zW_M (30, [some (.ref 0), some (.int 3), some (.int l2), some (.int l3), none], [], ((zm_w I 0 0 0), J)) else zm_V zT_X10_row zW_M (12, [some (.ref 0), some (.int 3), some (.int l2), some (.int l3), none], [], ((zm_w I 0 0 0), J)) from rfl)) ?_
  rw [if_neg (by decide)]
  show zm_V zT_X10_row zW_M (12, [some (.ref 0), some (.int 3), some (.int l2), some (.int l3), none], [], ((zm_w I 0 0 0), J)) = _
  refine Eq.trans ((zm_V_eq _ _ _).trans ((show zm_step zT_X10_row zW_M (zm_V zT_X10_row zW_M) (12, [some (.ref 0), some (.int 3), some (.int l2), some (.int l3), none], [], ((zm_w I 0 0 0), J)) = zm_app (3, none, true, [], zF_X10_in) zW_M [.long (Int32.toInt64 l2), .long 0, .long (3)] ((zm_w I 0 0 0), J) (fun v N => zm_V zT_X10_row zW_M (21, [some (.ref 0), some (.int 3), some (.int l2), some (.int l3), none], v.toList ++ [], N)) from rfl).trans (zm_app_s rfl rfl (hq)))) ?_
  show zm_V zT_X10_row zW_M (21, [some (.ref 0), some (.int 3), some (.int l2), some (.int l3), none], [.int 0], ((zm_w I 0 0 0), J)) = _
  refine Eq.trans ((zm_V_eq _ _ _).trans (show zm_step zT_X10_row zW_M (zm_V zT_X10_row zW_M) (21, [some (.ref 0), some (.int 3), some (.int l2), some (.int l3), none], [.int 0], ((zm_w I 0 0 0), J)) = if ((0 : Int32) : Int32) = 0 then zm_V zT_X10_row zW_M (30, [some (.ref 0), some (.int 3), some (.int l2), some (.int l3), none], [], ((zm_w I 0 0 0), J)) else zm_V zT_X10_row zW_M (24, [some (.ref 0), some (.int 3), some (.int l2), some (.int l3), none], [], ((zm_w I 0 0 0), J)) from rfl)) ?_
  rw [if_pos (by decide)]
  show zm_V zT_X10_row zW_M (30, [some (.ref 0), some (.int 3), some (.int l2), some (.int l3), none], [], ((zm_w I 0 0 0), J)) = _
  refine Eq.trans ((zm_V_eq _ _ _).trans (show zm_step zT_X10_row zW_M (zm_V zT_X10_row zW_M) (30, [some (.ref 0), some (.int 3), some (.int l2), some (.int l3), none], [], ((zm_w I 0 0 0), J)) = some (some (.int (-2)), ((zm_w I 0 0 0), J)) from rfl)) ?_
  rfl
set_option maxRecDepth 20000 in
theorem zpm_row_3c {l2 l3 : Int32} (h6 : ¬ l3 ≤ 60) (hq : zF_X10_in zW_M [.long (Int32.toInt64 l2), .long 0, .long (3)] ((zm_w I 0 0 0), J) = some (some (.int 1), ((zm_w I 0 0 0), J))) : zF_X10_row zW_M [.ref 0, .int 3, .int l2, .int l3] (I, J) = some (some (.int (-2)), ((zm_w I 0 0 0), J)) := by
  show zm_V zT_X10_row zW_M (0, [some (.ref 0), some (.int 3), some (.int l2), some (.int l3), none], [], (I, J)) = _
  refine Eq.trans ((zm_V_eq _ _ _).trans ((show zm_step zT_X10_row zW_M (zm_V zT_X10_row zW_M) (0, [some (.ref 0), some (.int 3), some (.int l2), some (.int l3), none], [], (I, J)) = zm_app (1, none, true, [], zF_X10_isSlot) zW_M [.int 3] ((zm_w I 0 0 0), J) (fun v N => zm_V zT_X10_row zW_M (9, [some (.ref 0), some (.int 3), some (.int l2), some (.int l3), none], v.toList ++ [], N)) from rfl).trans (zm_app_s rfl rfl (zgm_isSlot_y (by decide))))) ?_
  show zm_V zT_X10_row zW_M (9, [some (.ref 0), some (.int 3), some (.int l2), some (.int l3), none], [.int 1], ((zm_w I 0 0 0), J)) = _
  refine Eq.trans ((zm_V_eq _ _ _).trans (show zm_step zT_X10_row zW_M (zm_V zT_X10_row zW_M) (9, [some (.ref 0), some (.int 3), some (.int l2), some (.int l3), none], [.int 1], ((zm_w I 0 0 0), J)) = if ((1 : Int32) : Int32) = 0 then zm_V zT_X10_row zW_M (30, [some (.ref 0), some (.int 3), some (.int l2), some (.int l3), none], [], ((zm_w I 0 0 0), J)) else zm_V zT_X10_row zW_M (12, [some (.ref 0), some (.int 3), some (.int l2), some (.int l3), none], [], ((zm_w I 0 0 0), J)) from rfl)) ?_
  rw [if_neg (by decide)]
  show zm_V zT_X10_row zW_M (12, [some (.ref 0), some (.int 3), some (.int l2), some (.int l3), none], [], ((zm_w I 0 0 0), J)) = _
  refine Eq.trans ((zm_V_eq _ _ _).trans ((show zm_step zT_X10_row zW_M (zm_V zT_X10_row zW_M) (12, [some (.ref 0), some (.int 3), some (.int l2), some (.int l3), none], [], ((zm_w I 0 0 0), J)) = zm_app (3, none, true, [], zF_X10_in) zW_M [.long (Int32.toInt64 l2), .long 0, .long (3)] ((zm_w I 0 0 0), J) (fun v N => zm_V zT_X10_row zW_M (21, [some (.ref 0), some (.int 3), some (.int l2), some (.int l3), none], v.toList ++ [], N)) from rfl).trans (zm_app_s rfl rfl (hq)))) ?_
  show zm_V zT_X10_row zW_M (21, [some (.ref 0), some (.int 3), some (.int l2), some (.int l3), none], [.int 1], ((zm_w I 0 0 0), J)) = _
  refine Eq.trans ((zm_V_eq _ _ _).trans (show zm_step zT_X10_row zW_M (zm_V zT_X10_row zW_M) (21, [some (.ref 0), some (.int 3), some (.int l2), some (.int l3), none], [.int 1], ((zm_w I 0 0 0), J)) = if ((1 : Int32) : Int32) = 0 then zm_V zT_X10_row zW_M (30, [some (.ref 0), some (.int 3), some (.int l2), some (.int l3), none], [], ((zm_w I 0 0 0), J)) else zm_V zT_X10_row zW_M (24, [some (.ref 0), some (.int 3), some (.int l2), some (.int l3), none], [], ((zm_w I 0 0 0), J)) from rfl)) ?_
  rw [if_neg (by decide)]
  show zm_V zT_X10_row zW_M (24, [some (.ref 0), some (.int 3), some (.int l2), some (.int l3), none], [], ((zm_w I 0 0 0), J)) = _
  refine Eq.trans ((zm_V_eq _ _ _).trans (show zm_step zT_X10_row zW_M (zm_V zT_X10_row zW_M) (24, [some (.ref 0), some (.int 3), some (.int l2), some (.int l3), none], [], ((zm_w I 0 0 0), J)) = if (l3 : Int32) ≤ 60 then zm_V zT_X10_row zW_M (33, [some (.ref 0), some (.int 3), some (.int l2), some (.int l3), none], [], ((zm_w I 0 0 0), J)) else zm_V zT_X10_row zW_M (30, [some (.ref 0), some (.int 3), some (.int l2), some (.int l3), none], [], ((zm_w I 0 0 0), J)) from rfl)) ?_
  rw [if_neg (h6)]
  show zm_V zT_X10_row zW_M (30, [some (.ref 0), some (.int 3), some (.int l2), some (.int l3), none], [], ((zm_w I 0 0 0), J)) = _
  refine Eq.trans ((zm_V_eq _ _ _).trans (show zm_step zT_X10_row zW_M (zm_V zT_X10_row zW_M) (30, [some (.ref 0), some (.int 3), some (.int l2), some (.int l3), none], [], ((zm_w I 0 0 0), J)) = some (some (.int (-2)), ((zm_w I 0 0 0), J)) from rfl)) ?_
  rfl
set_option maxRecDepth 20000 in
theorem zpm_row_3d {l2 l3 : Int32} (h6 : l3 ≤ 60) (h0 : ¬ 0 ≤ l3) (hq : zF_X10_in zW_M [.long (Int32.toInt64 l2), .long 0, .long (3)] ((zm_w I 0 0 0), J) = some (some (.int 1), ((zm_w I 0 0 0), J))) : zF_X10_row zW_M [.ref 0, .int 3, .int l2, .int l3] (I, J) = some (some (.int (-3)), ((zm_w I 0 0 0), J)) := by
  show zm_V zT_X10_row zW_M (0, [some (.ref 0), some (.int 3), some (.int l2), some (.int l3), none], [], (I, J)) = _
  refine Eq.trans ((zm_V_eq _ _ _).trans ((show zm_step zT_X10_row zW_M (zm_V zT_X10_row zW_M) (0, [some (.ref 0), some (.int 3), some (.int l2), some (.int l3), none], [], (I, J)) = zm_app (1, none, true, [], zF_X10_isSlot) zW_M [.int 3] ((zm_w I 0 0 0), J) (fun v N => zm_V zT_X10_row zW_M (9, [some (.ref 0), some (.int 3), some (.int l2), some (.int l3), none], v.toList ++ [], N)) from rfl).trans (zm_app_s rfl rfl (zgm_isSlot_y (by decide))))) ?_
  show zm_V zT_X10_row zW_M (9, [some (.ref 0), some (.int 3), some (.int l2), some (.int l3), none], [.int 1], ((zm_w I 0 0 0), J)) = _
  refine Eq.trans ((zm_V_eq _ _ _).trans (show zm_step zT_X10_row zW_M (zm_V zT_X10_row zW_M) (9, [some (.ref 0), some (.int 3), some (.int l2), some (.int l3), none], [.int 1], ((zm_w I 0 0 0), J)) = if ((1 : Int32) : Int32) = 0 then zm_V zT_X10_row zW_M (30, [some (.ref 0), some (.int 3), some (.int l2), some (.int l3), none], [], ((zm_w I 0 0 0), J)) else zm_V zT_X10_row zW_M (12, [some (.ref 0), some (.int 3), some (.int l2), some (.int l3), none], [], ((zm_w I 0 0 0), J)) from rfl)) ?_
  rw [if_neg (by decide)]
  show zm_V zT_X10_row zW_M (12, [some (.ref 0), some (.int 3), some (.int l2), some (.int l3), none], [], ((zm_w I 0 0 0), J)) = _
  refine Eq.trans ((zm_V_eq _ _ _).trans ((show zm_step zT_X10_row zW_M (zm_V zT_X10_row zW_M) (12, [some (.ref 0), some (.int 3), some (.int l2), some (.int l3), none], [], ((zm_w I 0 0 0), J)) = zm_app (3, none, true, [], zF_X10_in) zW_M [.long (Int32.toInt64 l2), .long 0, .long (3)] ((zm_w I 0 0 0), J) (fun v N => zm_V zT_X10_row zW_M (21, [some (.ref 0), some (.int 3), some (.int l2), some (.int l3), none], v.toList ++ [], N)) from rfl).trans (zm_app_s rfl rfl (hq)))) ?_
  show zm_V zT_X10_row zW_M (21, [some (.ref 0), some (.int 3), some (.int l2), some (.int l3), none], [.int 1], ((zm_w I 0 0 0), J)) = _
  refine Eq.trans ((zm_V_eq _ _ _).trans (show zm_step zT_X10_row zW_M (zm_V zT_X10_row zW_M) (21, [some (.ref 0), some (.int 3), some (.int l2), some (.int l3), none], [.int 1], ((zm_w I 0 0 0), J)) = if ((1 : Int32) : Int32) = 0 then zm_V zT_X10_row zW_M (30, [some (.ref 0), some (.int 3), some (.int l2), some (.int l3), none], [], ((zm_w I 0 0 0), J)) else zm_V zT_X10_row zW_M (24, [some (.ref 0), some (.int 3), some (.int l2), some (.int l3), none], [], ((zm_w I 0 0 0), J)) from rfl)) ?_
  rw [if_neg (by decide)]
  show zm_V zT_X10_row zW_M (24, [some (.ref 0), some (.int 3), some (.int l2), some (.int l3), none], [], ((zm_w I 0 0 0), J)) = _
  refine Eq.trans ((zm_V_eq _ _ _).trans (show zm_step zT_X10_row zW_M (zm_V zT_X10_row zW_M) (24, [some (.ref 0), some (.int 3), some (.int l2), some (.int l3), none], [], ((zm_w I 0 0 0), J)) = if (l3 : Int32) ≤ 60 then zm_V zT_X10_row zW_M (33, [some (.ref 0), some (.int 3), some (.int l2), some (.int l3), none], [], ((zm_w I 0 0 0), J)) else zm_V zT_X10_row zW_M (30, [some (.ref 0), some (.int 3), some (.int l2), some (.int l3), none], [], ((zm_w I 0 0 0), J)) from rfl)) ?_
  rw [if_pos (h6)]
  show zm_V zT_X10_row zW_M (33, [some (.ref 0), some (.int 3), some (.int l2), some (.int l3), none], [], ((zm_w I 0 0 0), J)) = _
  refine Eq.trans ((zm_V_eq _ _ _).trans (show zm_step zT_X10_row zW_M (zm_V zT_X10_row zW_M) (33, [some (.ref 0), some (.int 3), some (.int l2), some (.int l3), none], [], ((zm_w I 0 0 0), J)) = if (0 : Int32) ≤ l3 then zm_V zT_X10_row zW_M (40, [some (.ref 0), some (.int 3), some (.int l2), some (.int l3), none], [], ((zm_w I 0 0 0), J)) else zm_V zT_X10_row zW_M (37, [some (.ref 0), some (.int 3), some (.int l2), some (.int l3), none], [], ((zm_w I 0 0 0), J)) from rfl)) ?_
  rw [if_neg (h0)]
  show zm_V zT_X10_row zW_M (37, [some (.ref 0), some (.int 3), some (.int l2), some (.int l3), none], [], ((zm_w I 0 0 0), J)) = _
  refine Eq.trans ((zm_V_eq _ _ _).trans (show zm_step zT_X10_row zW_M (zm_V zT_X10_row zW_M) (37, [some (.ref 0), some (.int 3), some (.int l2), some (.int l3), none], [], ((zm_w I 0 0 0), J)) = some (some (.int (-3)), ((zm_w I 0 0 0), J)) from rfl)) ?_
  rfl
theorem zpm_row57 (I : Nat → Nat → Int32) {j : Nat} (hj : j < 4) (l2 : Int32) {l3 : Int32} (h6 : l3 ≤ 60) : ∀ (d m : Nat) (J : Nat → Nat → Int64), m + d = 60 → ∃ N : zm_I, zv_X10_row_M_57 I J (Int32.ofNat j) l2 l3 (Int32.ofNat m) = some (some (.int 0), N)
  | 0, m, J, h => by
    have hm : m = 60 := by omega
    subst hm
    rw [zq_X10_row_M_57, if_pos (show l3 ≤ Int32.ofNat 60 from h6), zq_X10_row_M_82]
    exact ⟨_, rfl⟩
  | d + 1, m, J, h => by
    have hm : m < 60 := by omega
    rw [zq_X10_row_M_57]
    by_cases hq : l3 ≤ Int32.ofNat m
    · rw [if_pos hq, zq_X10_row_M_82]
      exact ⟨_, rfl⟩
    · rw [if_neg hq, zq_X10_row_M_63, if_neg (zi_of240 j hj m hm), zi_ofn m hm]
      exact zpm_row57 I hj l2 h6 d (m + 1) _ (by omega)
theorem zi_slot : ∀ j, j < 4 → ¬ (Int32.ofNat j < 0 ∨ 4 ≤ Int32.toNatClampNeg (Int32.ofNat j)) := by decide
theorem zpm_row_e {j : Nat} (hj : j < 4) {l2 l3 : Int32} (h6 : l3 ≤ 60) (h0 : 0 ≤ l3) (hs : zF_X10_isSlot zW_M [.int (Int32.ofNat j)] ((zm_w I 0 0 0), J) = some (some (.int 1), ((zm_w I 0 0 0), J))) (hq : zF_X10_in zW_M [.long (Int32.toInt64 l2), .long 0, .long (3)] ((zm_w I 0 0 0), J) = some (some (.int 1), ((zm_w I 0 0 0), J))) : ∃ N : zm_I, zF_X10_row zW_M [.ref 0, .int (Int32.ofNat j), .int l2, .int l3] (I, J) = some (some (.int 0), N) := by
  rw [zf_X10_row_M, zc_X10_row_M_0 _ _ _ _ _ hs, zq_X10_row_M_9, if_neg (by decide), zc_X10_row_M_12 _ _ _ _ _ hq, zq_X10_row_M_21, if_neg (by decide), zq_X10_row_M_24, if_pos h6, zq_X10_row_M_33, if_pos h0, zq_X10_row_M_40, if_neg (zi_slot j hj), if_neg (zi_slot j hj)]
  exact zpm_row57 _ hj l2 h6 60 0 J rfl
end ZYW
theorem zo_row {I : Nat → Nat → Int32} {J : Nat → Nat → Int64} (hX : zy_X I J) (l1 l2 l3 : Int32) : ∃ (v : Int32) (N : zm_I), zF_X9_row zW_X [.ref 0, .int l1, .int l2, .int l3] (I, J) = some (some (.int v), N) ∧ ∀ (I' : Nat → Nat → Int32) (J' : Nat → Nat → Int64), zy_M I' J' → ∃ N' : zm_I, zF_X10_row zW_M [.ref 0, .int l1, .int l2, .int l3] (I', J') = some (some (.int v), N') := by
  by_cases hn : l1 < 0 ∨ 4 ≤ l1
  · exact ⟨_, _, zpx_row_n hn l2 l3, fun _ _ _ => ⟨_, zpm_row_n hn l2 l3⟩⟩
  · have hi := fun (I : Nat → Nat → Int32) (J : Nat → Nat → Int64) => zgm_in32 (I := I) (J := J) l2 0 3 (B := 0) (C := 3) (by decide) (by decide)
    have hz := zi_four (fun q => hn (Or.inl q)) (fun q => hn (Or.inr q))
    by_cases h2 : l2 < 0
    · simp only [if_pos h2] at hi
      rcases hz with rfl | rfl | rfl | rfl
      · exact ⟨_, _, zpx_row_54a h2 l3, fun _ _ _ => ⟨_, zpm_row_0a l3 (hi _ _)⟩⟩
      · exact ⟨_, _, zpx_row_56a h2 l3, fun _ _ _ => ⟨_, zpm_row_1a l3 (hi _ _)⟩⟩
      · exact ⟨_, _, zpx_row_58a h2 l3, fun _ _ _ => ⟨_, zpm_row_2a l3 (hi _ _)⟩⟩
      · exact ⟨_, _, zpx_row_60a h2 l3, fun _ _ _ => ⟨_, zpm_row_3a l3 (hi _ _)⟩⟩
    · by_cases h4 : 4 ≤ l2
      · simp only [if_neg h2, if_pos (zi_3.mpr h4)] at hi
        rcases hz with rfl | rfl | rfl | rfl
        · exact ⟨_, _, zpx_row_54b h2 h4 l3, fun _ _ _ => ⟨_, zpm_row_0a l3 (hi _ _)⟩⟩
        · exact ⟨_, _, zpx_row_56b h2 h4 l3, fun _ _ _ => ⟨_, zpm_row_1a l3 (hi _ _)⟩⟩
        · exact ⟨_, _, zpx_row_58b h2 h4 l3, fun _ _ _ => ⟨_, zpm_row_2a l3 (hi _ _)⟩⟩
        · exact ⟨_, _, zpx_row_60b h2 h4 l3, fun _ _ _ => ⟨_, zpm_row_3a l3 (hi _ _)⟩⟩
      · simp only [if_neg h2, if_neg (fun q => h4 (zi_3.mp q))] at hi
        by_cases h6 : l3 ≤ 60
        · by_cases h0 : 0 ≤ l3
          · rcases hz with rfl | rfl | rfl | rfl
            · obtain ⟨N, hN⟩ := zp_start (zm_sub2 [(54, 2)] (I, J)).1 (zm_sub2 [(54, 2)] (I, J)).2 l2 l3
              exact ⟨_, _, zpx_row_54e h2 h4 h6 h0 hN, fun I' J' _ => zpm_row_e (j := 0) (by decide) h6 h0 (zgm_isSlot_y (by decide)) (hi _ _)⟩
            · obtain ⟨N, hN⟩ := zp_start (zm_sub2 [(56, 2)] (I, J)).1 (zm_sub2 [(56, 2)] (I, J)).2 l2 l3
              exact ⟨_, _, zpx_row_56e h2 h4 h6 h0 hN, fun I' J' _ => zpm_row_e (j := 1) (by decide) h6 h0 (zgm_isSlot_y (by decide)) (hi _ _)⟩
            · obtain ⟨N, hN⟩ := zp_start (zm_sub2 [(58, 2)] (I, J)).1 (zm_sub2 [(58, 2)] (I, J)).2 l2 l3
              exact ⟨_, _, zpx_row_58e h2 h4 h6 h0 hN, fun I' J' _ => zpm_row_e (j := 2) (by decide) h6 h0 (zgm_isSlot_y (by decide)) (hi _ _)⟩
            · obtain ⟨N, hN⟩ := zp_start (zm_sub2 [(60, 2)] (I, J)).1 (zm_sub2 [(60, 2)] (I, J)).2 l2 l3
              exact ⟨_, _, zpx_row_60e h2 h4 h6 h0 hN, fun I' J' _ => zpm_row_e (j := 3) (by decide) h6 h0 (zgm_isSlot_y (by decide)) (hi _ _)⟩
          · rcases hz with rfl | rfl | rfl | rfl
            · exact ⟨_, _, zpx_row_54d h2 h4 h6 h0, fun _ _ _ => ⟨_, zpm_row_0d h6 h0 (hi _ _)⟩⟩
            · exact ⟨_, _, zpx_row_56d h2 h4 h6 h0, fun _ _ _ => ⟨_, zpm_row_1d h6 h0 (hi _ _)⟩⟩
            · exact ⟨_, _, zpx_row_58d h2 h4 h6 h0, fun _ _ _ => ⟨_, zpm_row_2d h6 h0 (hi _ _)⟩⟩
            · exact ⟨_, _, zpx_row_60d h2 h4 h6 h0, fun _ _ _ => ⟨_, zpm_row_3d h6 h0 (hi _ _)⟩⟩
        · rcases hz with rfl | rfl | rfl | rfl
          · exact ⟨_, _, zpx_row_54c h2 h4 h6, fun _ _ _ => ⟨_, zpm_row_0c h6 (hi _ _)⟩⟩
          · exact ⟨_, _, zpx_row_56c h2 h4 h6, fun _ _ _ => ⟨_, zpm_row_1c h6 (hi _ _)⟩⟩
          · exact ⟨_, _, zpx_row_58c h2 h4 h6, fun _ _ _ => ⟨_, zpm_row_2c h6 (hi _ _)⟩⟩
          · exact ⟨_, _, zpx_row_60c h2 h4 h6, fun _ _ _ => ⟨_, zpm_row_3c h6 (hi _ _)⟩⟩
