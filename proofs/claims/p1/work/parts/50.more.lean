/-! A FRESH OBJECT: the reference, where it asks for more (printed by program, wip/gen/gen50.py) -/
theorem zi_lt (a b : Int32) : Int32.toInt64 a < Int32.toInt64 b ↔ a < b := by rw [Int64.lt_iff_toInt_lt, Int32.lt_iff_toInt_lt, Int32.toInt_toInt64, Int32.toInt_toInt64]
theorem zi_3 {l : Int32} : 3 < l ↔ 4 ≤ l := by
  rw [Int32.lt_iff_toInt_lt, Int32.le_iff_toInt_le]
  have e3 : (3 : Int32).toInt = 3 := by decide
  have e4 : (4 : Int32).toInt = 4 := by decide
  omega
theorem zi_2 {l : Int32} : 2 < l ↔ 3 ≤ l := by
  rw [Int32.lt_iff_toInt_lt, Int32.le_iff_toInt_le]
  have e3 : (3 : Int32).toInt = 3 := by decide
  have e4 : (2 : Int32).toInt = 2 := by decide
  omega
section ZYN
variable {I : Nat → Nat → Int32} {J : Nat → Nat → Int64}
theorem zgm_in32 (a b c : Int32) {B C : Int64} (hB : B = Int32.toInt64 b) (hC : C = Int32.toInt64 c) : zF_X10_in zW_M [.long (Int32.toInt64 a), .long B, .long C] (I, J) = some (some (.int (if a < b then 0 else if c < a then 0 else 1)), (I, J)) := by
  subst hB hC
  rw [zgm_in]
  simp only [zi_lt]
theorem zgm_isSlot_n {l : Int32} (h : l < 0 ∨ 4 ≤ l) : zF_X10_isSlot zW_M [.int l] (I, J) = some (some (.int 0), (I, J)) := by
  have hi := zgm_in32 (I := I) (J := J) l 0 3 (B := 0) (C := 3) (by decide) (by decide)
  have e : (if l < 0 then (0 : Int32) else if 3 < l then 0 else 1) = 0 := by
    by_cases h0 : l < 0
    · rw [if_pos h0]
    · rw [if_neg h0, if_pos (zi_3.mpr (h.resolve_left h0))]
  rw [e] at hi
  rw [zf_X10_isSlot_M, zc_X10_isSlot_M_0 _ _ _ hi, zq_X10_isSlot_M_9, if_pos (Or.inl rfl)]
theorem zgm_isSlot_y {l : Int32} (h : ¬ (l < 0 ∨ 4 ≤ l)) : zF_X10_isSlot zW_M [.int l] (I, J) = some (some (.int 1), (I, J)) := by
  have hi := zgm_in32 (I := I) (J := J) l 0 3 (B := 0) (C := 3) (by decide) (by decide)
  rw [if_neg (fun q => h (Or.inl q)), if_neg (fun q => h (Or.inr (zi_3.mp q)))] at hi
  rw [zf_X10_isSlot_M, zc_X10_isSlot_M_0 _ _ _ hi, zq_X10_isSlot_M_9, if_pos (Or.inr rfl)]
set_option maxRecDepth 20000 in
theorem zgm_whyNotSeen_n {l1 : Int32} (hn : l1 < 0 ∨ 4 ≤ l1) : zF_X10_whyNotSeen zW_M [.ref 0, .int l1] (I, J) = some (some (.int (-2)), (I, J)) := by
  show zm_V zT_X10_whyNotSeen zW_M (0, [some (.ref 0), some (.int l1), none, none], [], (I, J)) = _
  refine Eq.trans ((zm_V_eq _ _ _).trans ((show zm_step zT_X10_whyNotSeen zW_M (zm_V zT_X10_whyNotSeen zW_M) (0, [some (.ref 0), some (.int l1), none, none], [], (I, J)) = zm_app (1, none, true, [], zF_X10_isSlot) zW_M [.int l1] (I, J) (fun v N => zm_V zT_X10_whyNotSeen zW_M (4, [some (.ref 0), some (.int l1), none, none], v.toList ++ [], N)) from rfl).trans (zm_app_s rfl rfl (zgm_isSlot_n hn)))) ?_
  show zm_V zT_X10_whyNotSeen zW_M (4, [some (.ref 0), some (.int l1), none, none], [.int 0], (I, J)) = _
  refine Eq.trans ((zm_V_eq _ _ _).trans (show zm_step zT_X10_whyNotSeen zW_M (zm_V zT_X10_whyNotSeen zW_M) (4, [some (.ref 0), some (.int l1), none, none], [.int 0], (I, J)) = if ((0 : Int32) : Int32) = 0 then zm_V zT_X10_whyNotSeen zW_M (14, [some (.ref 0), some (.int l1), none, none], [], (I, J)) else zm_V zT_X10_whyNotSeen zW_M (7, [some (.ref 0), some (.int l1), none, none], [], (I, J)) from rfl)) ?_
  rw [if_pos (by decide)]
  show zm_V zT_X10_whyNotSeen zW_M (14, [some (.ref 0), some (.int l1), none, none], [], (I, J)) = _
  refine Eq.trans ((zm_V_eq _ _ _).trans (show zm_step zT_X10_whyNotSeen zW_M (zm_V zT_X10_whyNotSeen zW_M) (14, [some (.ref 0), some (.int l1), none, none], [], (I, J)) = some (some (.int (-2)), (I, J)) from rfl)) ?_
  rfl
set_option maxRecDepth 20000 in
theorem zgm_whyNotSeen_y (h : zy_M I J) {l1 : Int32} (hn : ¬ (l1 < 0 ∨ 4 ≤ l1)) : zF_X10_whyNotSeen zW_M [.ref 0, .int l1] (I, J) = some (some (.int (-2)), (I, J)) := by
  show zm_V zT_X10_whyNotSeen zW_M (0, [some (.ref 0), some (.int l1), none, none], [], (I, J)) = _
  refine Eq.trans ((zm_V_eq _ _ _).trans ((show zm_step zT_X10_whyNotSeen zW_M (zm_V zT_X10_whyNotSeen zW_M) (0, [some (.ref 0), some (.int l1), none, none], [], (I, J)) = zm_app (1, none, true, [], zF_X10_isSlot) zW_M [.int l1] (I, J) (fun v N => zm_V zT_X10_whyNotSeen zW_M (4, [some (.ref 0), some (.int l1), none, none], v.toList ++ [], N)) from rfl).trans (zm_app_s rfl rfl (zgm_isSlot_y hn)))) ?_
  show zm_V zT_X10_whyNotSeen zW_M (4, [some (.ref 0), some (.int l1), none, none], [.int 1], (I, J)) = _
  refine Eq.trans ((zm_V_eq _ _ _).trans (show zm_step zT_X10_whyNotSeen zW_M (zm_V zT_X10_whyNotSeen zW_M) (4, [some (.ref 0), some (.int l1), none, none], [.int 1], (I, J)) = if ((1 : Int32) : Int32) = 0 then zm_V zT_X10_whyNotSeen zW_M (14, [some (.ref 0), some (.int l1), none, none], [], (I, J)) else zm_V zT_X10_whyNotSeen zW_M (7, [some (.ref 0), some (.int l1), none, none], [], (I, J)) from rfl)) ?_
  rw [if_neg (by decide)]
  show zm_V zT_X10_whyNotSeen zW_M (7, [some (.ref 0), some (.int l1), none, none], [], (I, J)) = _
  refine Eq.trans ((zm_V_eq _ _ _).trans ((show zm_step zT_X10_whyNotSeen zW_M (zm_V zT_X10_whyNotSeen zW_M) (7, [some (.ref 0), some (.int l1), none, none], [], (I, J)) = zm_app (1, some 10, true, [], zF_X10_isBench) zW_M [.ref 0] (I, J) (fun v N => zm_V zT_X10_whyNotSeen zW_M (11, [some (.ref 0), some (.int l1), none, none], v.toList ++ [], N)) from rfl).trans (zm_app_s rfl rfl (zgm_isBench h)))) ?_
  show zm_V zT_X10_whyNotSeen zW_M (11, [some (.ref 0), some (.int l1), none, none], [.int 0], (I, J)) = _
  refine Eq.trans ((zm_V_eq _ _ _).trans (show zm_step zT_X10_whyNotSeen zW_M (zm_V zT_X10_whyNotSeen zW_M) (11, [some (.ref 0), some (.int l1), none, none], [.int 0], (I, J)) = if ((0 : Int32) : Int32) = 0 then zm_V zT_X10_whyNotSeen zW_M (14, [some (.ref 0), some (.int l1), none, none], [], (I, J)) else zm_V zT_X10_whyNotSeen zW_M (17, [some (.ref 0), some (.int l1), none, none], [], (I, J)) from rfl)) ?_
  rw [if_pos (by decide)]
  show zm_V zT_X10_whyNotSeen zW_M (14, [some (.ref 0), some (.int l1), none, none], [], (I, J)) = _
  refine Eq.trans ((zm_V_eq _ _ _).trans (show zm_step zT_X10_whyNotSeen zW_M (zm_V zT_X10_whyNotSeen zW_M) (14, [some (.ref 0), some (.int l1), none, none], [], (I, J)) = some (some (.int (-2)), (I, J)) from rfl)) ?_
  rfl
theorem zgm_whyNotSeen (h : zy_M I J) (l1 : Int32) : zF_X10_whyNotSeen zW_M [.ref 0, .int l1] (I, J) = some (some (.int (-2)), (I, J)) := by
  by_cases hn : l1 < 0 ∨ 4 ≤ l1
  · exact zgm_whyNotSeen_n hn
  · exact zgm_whyNotSeen_y h hn
set_option maxRecDepth 20000 in
theorem zgm_whyNotMarks_n {l1 : Int32} (hn : l1 < 0 ∨ 4 ≤ l1) : zF_X10_whyNotMarks zW_M [.ref 0, .int l1] (I, J) = some (some (.int (-2)), (I, J)) := by
  show zm_V zT_X10_whyNotMarks zW_M (0, [some (.ref 0), some (.int l1), none], [], (I, J)) = _
  refine Eq.trans ((zm_V_eq _ _ _).trans ((show zm_step zT_X10_whyNotMarks zW_M (zm_V zT_X10_whyNotMarks zW_M) (0, [some (.ref 0), some (.int l1), none], [], (I, J)) = zm_app (1, none, true, [], zF_X10_isSlot) zW_M [.int l1] (I, J) (fun v N => zm_V zT_X10_whyNotMarks zW_M (4, [some (.ref 0), some (.int l1), none], v.toList ++ [], N)) from rfl).trans (zm_app_s rfl rfl (zgm_isSlot_n hn)))) ?_
  show zm_V zT_X10_whyNotMarks zW_M (4, [some (.ref 0), some (.int l1), none], [.int 0], (I, J)) = _
  refine Eq.trans ((zm_V_eq _ _ _).trans (show zm_step zT_X10_whyNotMarks zW_M (zm_V zT_X10_whyNotMarks zW_M) (4, [some (.ref 0), some (.int l1), none], [.int 0], (I, J)) = if ((0 : Int32) : Int32) = 0 then zm_V zT_X10_whyNotMarks zW_M (14, [some (.ref 0), some (.int l1), none], [], (I, J)) else zm_V zT_X10_whyNotMarks zW_M (7, [some (.ref 0), some (.int l1), none], [], (I, J)) from rfl)) ?_
  rw [if_pos (by decide)]
  show zm_V zT_X10_whyNotMarks zW_M (14, [some (.ref 0), some (.int l1), none], [], (I, J)) = _
  refine Eq.trans ((zm_V_eq _ _ _).trans (show zm_step zT_X10_whyNotMarks zW_M (zm_V zT_X10_whyNotMarks zW_M) (14, [some (.ref 0), some (.int l1), none], [], (I, J)) = some (some (.int (-2)), (I, J)) from rfl)) ?_
  rfl
set_option maxRecDepth 20000 in
theorem zgm_whyNotMarks_y (h : zy_M I J) {l1 : Int32} (hn : ¬ (l1 < 0 ∨ 4 ≤ l1)) : zF_X10_whyNotMarks zW_M [.ref 0, .int l1] (I, J) = some (some (.int (-2)), (I, J)) := by
  show zm_V zT_X10_whyNotMarks zW_M (0, [some (.ref 0), some (.int l1), none], [], (I, J)) = _
  refine Eq.trans ((zm_V_eq _ _ _).trans ((show zm_step zT_X10_whyNotMarks zW_M (zm_V zT_X10_whyNotMarks zW_M) (0, [some (.ref 0), some (.int l1), none], [], (I, J)) = zm_app (1, none, true, [], zF_X10_isSlot) zW_M [.int l1] (I, J) (fun v N => zm_V zT_X10_whyNotMarks zW_M (4, [some (.ref 0), some (.int l1), none], v.toList ++ [], N)) from rfl).trans (zm_app_s rfl rfl (zgm_isSlot_y hn)))) ?_
  show zm_V zT_X10_whyNotMarks zW_M (4, [some (.ref 0), some (.int l1), none], [.int 1], (I, J)) = _
  refine Eq.trans ((zm_V_eq _ _ _).trans (show zm_step zT_X10_whyNotMarks zW_M (zm_V zT_X10_whyNotMarks zW_M) (4, [some (.ref 0), some (.int l1), none], [.int 1], (I, J)) = if ((1 : Int32) : Int32) = 0 then zm_V zT_X10_whyNotMarks zW_M (14, [some (.ref 0), some (.int l1), none], [], (I, J)) else zm_V zT_X10_whyNotMarks zW_M (7, [some (.ref 0), some (.int l1), none], [], (I, J)) from rfl)) ?_
  rw [if_neg (by decide)]
  show zm_V zT_X10_whyNotMarks zW_M (7, [some (.ref 0), some (.int l1), none], [], (I, J)) = _
  refine Eq.trans ((zm_V_eq _ _ _).trans ((show zm_step zT_X10_whyNotMarks zW_M (zm_V zT_X10_whyNotMarks zW_M) (7, [some (.ref 0), some (.int l1), none], [], (I, J)) = zm_app (1, some 10, true, [], zF_X10_isBench) zW_M [.ref 0] (I, J) (fun v N => zm_V zT_X10_whyNotMarks zW_M (11, [some (.ref 0), some (.int l1), none], v.toList ++ [], N)) from rfl).trans (zm_app_s rfl rfl (zgm_isBench h)))) ?_
  show zm_V zT_X10_whyNotMarks zW_M (11, [some (.ref 0), some (.int l1), none], [.int 0], (I, J)) = _
  refine Eq.trans ((zm_V_eq _ _ _).trans (show zm_step zT_X10_whyNotMarks zW_M (zm_V zT_X10_whyNotMarks zW_M) (11, [some (.ref 0), some (.int l1), none], [.int 0], (I, J)) = if ((0 : Int32) : Int32) = 0 then zm_V zT_X10_whyNotMarks zW_M (14, [some (.ref 0), some (.int l1), none], [], (I, J)) else zm_V zT_X10_whyNotMarks zW_M (17, [some (.ref 0), some (.int l1), none], [], (I, J)) from rfl)) ?_
  rw [if_pos (by decide)]
  show zm_V zT_X10_whyNotMarks zW_M (14, [some (.ref 0), some (.int l1), none], [], (I, J)) = _
  refine Eq.trans ((zm_V_eq _ _ _).trans (show zm_step zT_X10_whyNotMarks zW_M (zm_V zT_X10_whyNotMarks zW_M) (14, [some (.ref 0), some (.int l1), none], [], (I, J)) = some (some (.int (-2)), (I, J)) from rfl)) ?_
  rfl
theorem zgm_whyNotMarks (h : zy_M I J) (l1 : Int32) : zF_X10_whyNotMarks zW_M [.ref 0, .int l1] (I, J) = some (some (.int (-2)), (I, J)) := by
  by_cases hn : l1 < 0 ∨ 4 ≤ l1
  · exact zgm_whyNotMarks_n hn
  · exact zgm_whyNotMarks_y h hn
set_option maxRecDepth 20000 in
theorem zgm_whyNotSat (h : zy_M I J) (l1 l2 : Int32) : zF_X10_whyNotSat zW_M [.ref 0, .int l1, .int l2] (I, J) = some (some (.int (-2)), (I, J)) := by
  show zm_V zT_X10_whyNotSat zW_M (0, [some (.ref 0), some (.int l1), some (.int l2)], [], (I, J)) = _
  refine Eq.trans ((zm_V_eq _ _ _).trans ((show zm_step zT_X10_whyNotSat zW_M (zm_V zT_X10_whyNotSat zW_M) (0, [some (.ref 0), some (.int l1), some (.int l2)], [], (I, J)) = zm_app (2, some 10, true, [], zF_X10_isCaller) zW_M [.ref 0, .long (Int32.toInt64 l2)] (I, J) (fun v N => zm_V zT_X10_whyNotSat zW_M (6, [some (.ref 0), some (.int l1), some (.int l2)], v.toList ++ [], N)) from rfl).trans (zm_app_s rfl rfl (zgm_isCaller h _)))) ?_
  show zm_V zT_X10_whyNotSat zW_M (6, [some (.ref 0), some (.int l1), some (.int l2)], [.int 0], (I, J)) = _
  refine Eq.trans ((zm_V_eq _ _ _).trans (show zm_step zT_X10_whyNotSat zW_M (zm_V zT_X10_whyNotSat zW_M) (6, [some (.ref 0), some (.int l1), some (.int l2)], [.int 0], (I, J)) = if ((0 : Int32) : Int32) = 0 then zm_V zT_X10_whyNotSat zW_M (17, [some (.ref 0), some (.int l1), some (.int l2)], [], (I, J)) else zm_V zT_X10_whyNotSat zW_M (9, [some (.ref 0), some (.int l1), some (.int l2)], [], (I, J)) from rfl)) ?_
  rw [if_pos (by decide)]
  show zm_V zT_X10_whyNotSat zW_M (17, [some (.ref 0), some (.int l1), some (.int l2)], [], (I, J)) = _
  refine Eq.trans ((zm_V_eq _ _ _).trans (show zm_step zT_X10_whyNotSat zW_M (zm_V zT_X10_whyNotSat zW_M) (17, [some (.ref 0), some (.int l1), some (.int l2)], [], (I, J)) = zm_V zT_X10_whyNotSat zW_M (19, [some (.ref 0), some (.int l1), some (.int l2)], [.int (-2)], (I, J)) from rfl)) ?_
  show zm_V zT_X10_whyNotSat zW_M (19, [some (.ref 0), some (.int l1), some (.int l2)], [.int (-2)], (I, J)) = _
  refine Eq.trans ((zm_V_eq _ _ _).trans (show zm_step zT_X10_whyNotSat zW_M (zm_V zT_X10_whyNotSat zW_M) (19, [some (.ref 0), some (.int l1), some (.int l2)], [.int (-2)], (I, J)) = some (some (.int (-2)), (I, J)) from rfl)) ?_
  rfl
set_option maxRecDepth 20000 in
theorem zpm_laws (h : zy_M I J) (l1 : Int32) : zF_X10_laws zW_M [.ref 0, .int l1] (I, J) = some (some (.int (-2)), ((zm_w I 0 0 0), J)) := by
  show zm_V zT_X10_laws zW_M (0, [some (.ref 0), some (.int l1), none, none, none], [], (I, J)) = _
  refine Eq.trans ((zm_V_eq _ _ _).trans ((show zm_step zT_X10_laws zW_M (zm_V zT_X10_laws zW_M) (0, [some (.ref 0), some (.int l1), none, none, none], [], (I, J)) = zm_app (2, some 10, true, [], zF_X10_whyNotSeen) zW_M [.ref 0, .int l1] ((zm_w I 0 0 0), J) (fun v N => zm_V zT_X10_laws zW_M (10, [some (.ref 0), some (.int l1), none, none, none], v.toList ++ [], N)) from rfl).trans (zm_app_s rfl rfl (zgm_whyNotSeen (zy_M_t h) l1)))) ?_
  show zm_V zT_X10_laws zW_M (10, [some (.ref 0), some (.int l1), none, none, none], [.int ((-2) : Int32)], ((zm_w I 0 0 0), J)) = _
  refine Eq.trans ((zm_V_eq _ _ _).trans (show zm_step zT_X10_laws zW_M (zm_V zT_X10_laws zW_M) (10, [some (.ref 0), some (.int l1), none, none, none], [.int ((-2) : Int32)], ((zm_w I 0 0 0), J)) = if (((-2) : Int32) : Int32) = 0 then zm_V zT_X10_laws zW_M (17, [some (.ref 0), some (.int l1), some (.int ((-2) : Int32)), none, none], [], ((zm_w I 0 0 0), J)) else zm_V zT_X10_laws zW_M (15, [some (.ref 0), some (.int l1), some (.int ((-2) : Int32)), none, none], [], ((zm_w I 0 0 0), J)) from rfl)) ?_
  rw [if_neg (by decide)]
  show zm_V zT_X10_laws zW_M (15, [some (.ref 0), some (.int l1), some (.int ((-2) : Int32)), none, none], [], ((zm_w I 0 0 0), J)) = _
  refine Eq.trans ((zm_V_eq _ _ _).trans (show zm_step zT_X10_laws zW_M (zm_V zT_X10_laws zW_M) (15, [some (.ref 0), some (.int l1), some (.int ((-2) : Int32)), none, none], [], ((zm_w I 0 0 0), J)) = some (some (.int ((-2) : Int32)), ((zm_w I 0 0 0), J)) from rfl)) ?_
  rfl
set_option maxRecDepth 20000 in
theorem zpm_sat (h : zy_M I J) (l1 l2 : Int32) : zF_X10_sat zW_M [.ref 0, .int l1, .int l2] (I, J) = some (some (.int (-2)), ((zm_w I 0 0 0), J)) := by
  show zm_V zT_X10_sat zW_M (0, [some (.ref 0), some (.int l1), some (.int l2), none], [], (I, J)) = _
  refine Eq.trans ((zm_V_eq _ _ _).trans ((show zm_step zT_X10_sat zW_M (zm_V zT_X10_sat zW_M) (0, [some (.ref 0), some (.int l1), some (.int l2), none], [], (I, J)) = zm_app (3, some 10, true, [], zF_X10_whyNotSat) zW_M [.ref 0, .int l1, .int l2] ((zm_w I 0 0 0), J) (fun v N => zm_V zT_X10_sat zW_M (11, [some (.ref 0), some (.int l1), some (.int l2), none], v.toList ++ [], N)) from rfl).trans (zm_app_s rfl rfl (zgm_whyNotSat (zy_M_t h) l1 l2)))) ?_
  show zm_V zT_X10_sat zW_M (11, [some (.ref 0), some (.int l1), some (.int l2), none], [.int ((-2) : Int32)], ((zm_w I 0 0 0), J)) = _
  refine Eq.trans ((zm_V_eq _ _ _).trans (show zm_step zT_X10_sat zW_M (zm_V zT_X10_sat zW_M) (11, [some (.ref 0), some (.int l1), some (.int l2), none], [.int ((-2) : Int32)], ((zm_w I 0 0 0), J)) = if (((-2) : Int32) : Int32) = 0 then zm_V zT_X10_sat zW_M (20, [some (.ref 0), some (.int l1), some (.int l2), some (.int ((-2) : Int32))], [], ((zm_w I 0 0 0), J)) else zm_V zT_X10_sat zW_M (16, [some (.ref 0), some (.int l1), some (.int l2), some (.int ((-2) : Int32))], [], ((zm_w I 0 0 0), J)) from rfl)) ?_
  rw [if_neg (by decide)]
  show zm_V zT_X10_sat zW_M (16, [some (.ref 0), some (.int l1), some (.int l2), some (.int ((-2) : Int32))], [], ((zm_w I 0 0 0), J)) = _
  refine Eq.trans ((zm_V_eq _ _ _).trans (show zm_step zT_X10_sat zW_M (zm_V zT_X10_sat zW_M) (16, [some (.ref 0), some (.int l1), some (.int l2), some (.int ((-2) : Int32))], [], ((zm_w I 0 0 0), J)) = zm_V zT_X10_sat zW_M (26, [some (.ref 0), some (.int l1), some (.int l2), some (.int ((-2) : Int32))], [.int ((-2) : Int32)], ((zm_w I 0 0 0), J)) from rfl)) ?_
  show zm_V zT_X10_sat zW_M (26, [some (.ref 0), some (.int l1), some (.int l2), some (.int ((-2) : Int32))], [.int ((-2) : Int32)], ((zm_w I 0 0 0), J)) = _
  refine Eq.trans ((zm_V_eq _ _ _).trans (show zm_step zT_X10_sat zW_M (zm_V zT_X10_sat zW_M) (26, [some (.ref 0), some (.int l1), some (.int l2), some (.int ((-2) : Int32))], [.int ((-2) : Int32)], ((zm_w I 0 0 0), J)) = some (some (.int ((-2) : Int32)), ((zm_w I 0 0 0), J)) from rfl)) ?_
  rfl
set_option maxRecDepth 20000 in
theorem zpm_ask (h : zy_M I J) (l1 l2 : Int32) : zF_X10_ask zW_M [.ref 0, .int l1, .int l2] (I, J) = some (some (.int (-2)), ((zm_w I 0 0 0), J)) := by
  show zm_V zT_X10_ask zW_M (0, [some (.ref 0), some (.int l1), some (.int l2), none, none, none, none, none, none], [], (I, J)) = _
  refine Eq.trans ((zm_V_eq _ _ _).trans ((show zm_step zT_X10_ask zW_M (zm_V zT_X10_ask zW_M) (0, [some (.ref 0), some (.int l1), some (.int l2), none, none, none, none, none, none], [], (I, J)) = zm_app (3, some 10, true, [], zF_X10_whyNotSat) zW_M [.ref 0, .int l1, .int l2] ((zm_w I 0 0 0), J) (fun v N => zm_V zT_X10_ask zW_M (11, [some (.ref 0), some (.int l1), some (.int l2), none, none, none, none, none, none], v.toList ++ [], N)) from rfl).trans (zm_app_s rfl rfl (zgm_whyNotSat (zy_M_t h) l1 l2)))) ?_
  show zm_V zT_X10_ask zW_M (11, [some (.ref 0), some (.int l1), some (.int l2), none, none, none, none, none, none], [.int ((-2) : Int32)], ((zm_w I 0 0 0), J)) = _
  refine Eq.trans ((zm_V_eq _ _ _).trans (show zm_step zT_X10_ask zW_M (zm_V zT_X10_ask zW_M) (11, [some (.ref 0), some (.int l1), some (.int l2), none, none, none, none, none, none], [.int ((-2) : Int32)], ((zm_w I 0 0 0), J)) = if (((-2) : Int32) : Int32) = 0 then zm_V zT_X10_ask zW_M (18, [some (.ref 0), some (.int l1), some (.int l2), some (.int ((-2) : Int32)), none, none, none, none, none], [], ((zm_w I 0 0 0), J)) else zm_V zT_X10_ask zW_M (16, [some (.ref 0), some (.int l1), some (.int l2), some (.int ((-2) : Int32)), none, none, none, none, none], [], ((zm_w I 0 0 0), J)) from rfl)) ?_
  rw [if_neg (by decide)]
  show zm_V zT_X10_ask zW_M (16, [some (.ref 0), some (.int l1), some (.int l2), some (.int ((-2) : Int32)), none, none, none, none, none], [], ((zm_w I 0 0 0), J)) = _
  refine Eq.trans ((zm_V_eq _ _ _).trans (show zm_step zT_X10_ask zW_M (zm_V zT_X10_ask zW_M) (16, [some (.ref 0), some (.int l1), some (.int l2), some (.int ((-2) : Int32)), none, none, none, none, none], [], ((zm_w I 0 0 0), J)) = some (some (.int ((-2) : Int32)), ((zm_w I 0 0 0), J)) from rfl)) ?_
  rfl
set_option maxRecDepth 20000 in
theorem zpm_marks (h : zy_M I J) (l1 : Int32) : zF_X10_marks zW_M [.ref 0, .int l1] (I, J) = some (some (.int (-2)), ((zm_w I 0 0 0), J)) := by
  show zm_V zT_X10_marks zW_M (0, [some (.ref 0), some (.int l1), none], [], (I, J)) = _
  refine Eq.trans ((zm_V_eq _ _ _).trans ((show zm_step zT_X10_marks zW_M (zm_V zT_X10_marks zW_M) (0, [some (.ref 0), some (.int l1), none], [], (I, J)) = zm_app (2, some 10, true, [], zF_X10_whyNotMarks) zW_M [.ref 0, .int l1] ((zm_w I 0 0 0), J) (fun v N => zm_V zT_X10_marks zW_M (10, [some (.ref 0), some (.int l1), none], v.toList ++ [], N)) from rfl).trans (zm_app_s rfl rfl (zgm_whyNotMarks (zy_M_t h) l1)))) ?_
  show zm_V zT_X10_marks zW_M (10, [some (.ref 0), some (.int l1), none], [.int ((-2) : Int32)], ((zm_w I 0 0 0), J)) = _
  refine Eq.trans ((zm_V_eq _ _ _).trans (show zm_step zT_X10_marks zW_M (zm_V zT_X10_marks zW_M) (10, [some (.ref 0), some (.int l1), none], [.int ((-2) : Int32)], ((zm_w I 0 0 0), J)) = if (((-2) : Int32) : Int32) = 0 then zm_V zT_X10_marks zW_M (19, [some (.ref 0), some (.int l1), some (.int ((-2) : Int32))], [], ((zm_w I 0 0 0), J)) else zm_V zT_X10_marks zW_M (15, [some (.ref 0), some (.int l1), some (.int ((-2) : Int32))], [], ((zm_w I 0 0 0), J)) from rfl)) ?_
  rw [if_neg (by decide)]
  show zm_V zT_X10_marks zW_M (15, [some (.ref 0), some (.int l1), some (.int ((-2) : Int32))], [], ((zm_w I 0 0 0), J)) = _
  refine Eq.trans ((zm_V_eq _ _ _).trans (show zm_step zT_X10_marks zW_M (zm_V zT_X10_marks zW_M) (15, [some (.ref 0), some (.int l1), some (.int ((-2) : Int32))], [], ((zm_w I 0 0 0), J)) = zm_V zT_X10_marks zW_M (33, [some (.ref 0), some (.int l1), some (.int ((-2) : Int32))], [.int ((-2) : Int32)], ((zm_w I 0 0 0), J)) from rfl)) ?_
  show zm_V zT_X10_marks zW_M (33, [some (.ref 0), some (.int l1), some (.int ((-2) : Int32))], [.int ((-2) : Int32)], ((zm_w I 0 0 0), J)) = _
  refine Eq.trans ((zm_V_eq _ _ _).trans (show zm_step zT_X10_marks zW_M (zm_V zT_X10_marks zW_M) (33, [some (.ref 0), some (.int l1), some (.int ((-2) : Int32))], [.int ((-2) : Int32)], ((zm_w I 0 0 0), J)) = some (some (.int ((-2) : Int32)), ((zm_w I 0 0 0), J)) from rfl)) ?_
  rfl
set_option maxRecDepth 20000 in
theorem zpm_mark (h : zy_M I J) (l1 l2 : Int32) : zF_X10_mark zW_M [.ref 0, .int l1, .int l2] (I, J) = some (some (.int (-2)), ((zm_w I 0 0 0), J)) := by
  show zm_V zT_X10_mark zW_M (0, [some (.ref 0), some (.int l1), some (.int l2), none], [], (I, J)) = _
  refine Eq.trans ((zm_V_eq _ _ _).trans ((show zm_step zT_X10_mark zW_M (zm_V zT_X10_mark zW_M) (0, [some (.ref 0), some (.int l1), some (.int l2), none], [], (I, J)) = zm_app (2, some 10, true, [], zF_X10_whyNotMarks) zW_M [.ref 0, .int l1] ((zm_w I 0 0 0), J) (fun v N => zm_V zT_X10_mark zW_M (10, [some (.ref 0), some (.int l1), some (.int l2), none], v.toList ++ [], N)) from rfl).trans (zm_app_s rfl rfl (zgm_whyNotMarks (zy_M_t h) l1)))) ?_
  show zm_V zT_X10_mark zW_M (10, [some (.ref 0), some (.int l1), some (.int l2), none], [.int ((-2) : Int32)], ((zm_w I 0 0 0), J)) = _
  refine Eq.trans ((zm_V_eq _ _ _).trans (show zm_step zT_X10_mark zW_M (zm_V zT_X10_mark zW_M) (10, [some (.ref 0), some (.int l1), some (.int l2), none], [.int ((-2) : Int32)], ((zm_w I 0 0 0), J)) = if (((-2) : Int32) : Int32) = 0 then zm_V zT_X10_mark zW_M (19, [some (.ref 0), some (.int l1), some (.int l2), some (.int ((-2) : Int32))], [], ((zm_w I 0 0 0), J)) else zm_V zT_X10_mark zW_M (15, [some (.ref 0), some (.int l1), some (.int l2), some (.int ((-2) : Int32))], [], ((zm_w I 0 0 0), J)) from rfl)) ?_
  rw [if_neg (by decide)]
  show zm_V zT_X10_mark zW_M (15, [some (.ref 0), some (.int l1), some (.int l2), some (.int ((-2) : Int32))], [], ((zm_w I 0 0 0), J)) = _
  refine Eq.trans ((zm_V_eq _ _ _).trans (show zm_step zT_X10_mark zW_M (zm_V zT_X10_mark zW_M) (15, [some (.ref 0), some (.int l1), some (.int l2), some (.int ((-2) : Int32))], [], ((zm_w I 0 0 0), J)) = zm_V zT_X10_mark zW_M (50, [some (.ref 0), some (.int l1), some (.int l2), some (.int ((-2) : Int32))], [.int ((-2) : Int32)], ((zm_w I 0 0 0), J)) from rfl)) ?_
  show zm_V zT_X10_mark zW_M (50, [some (.ref 0), some (.int l1), some (.int l2), some (.int ((-2) : Int32))], [.int ((-2) : Int32)], ((zm_w I 0 0 0), J)) = _
  refine Eq.trans ((zm_V_eq _ _ _).trans (show zm_step zT_X10_mark zW_M (zm_V zT_X10_mark zW_M) (50, [some (.ref 0), some (.int l1), some (.int l2), some (.int ((-2) : Int32))], [.int ((-2) : Int32)], ((zm_w I 0 0 0), J)) = some (some (.int ((-2) : Int32)), ((zm_w I 0 0 0), J)) from rfl)) ?_
  rfl
set_option maxRecDepth 20000 in
theorem zpm_under_n (h : zy_M I J) (l1 l2 : Int32) (hq : zF_X10_in zW_M [.long (Int32.toInt64 l2), .long 0, .long (9)] ((zm_w I 0 0 0), J) = some (some (.int 0), ((zm_w I 0 0 0), J))) : zF_X10_under zW_M [.ref 0, .int l1, .int l2] (I, J) = some (some (.int (-2)), ((zm_w I 0 0 0), J)) := by
  show zm_V zT_X10_under zW_M (0, [some (.ref 0), some (.int l1), some (.int l2), none, none, none, none], [], (I, J)) = _
  refine Eq.trans ((zm_V_eq _ _ _).trans ((show zm_step zT_X10_under zW_M (zm_V zT_X10_under zW_M) (0, [some (.ref 0), some (.int l1), some (.int l2), none, none, none, none], [], (I, J)) = zm_app (3, none, true, [], zF_X10_in) zW_M [.long (Int32.toInt64 l2), .long 0, .long (9)] ((zm_w I 0 0 0), J) (fun v N => zm_V zT_X10_under zW_M (14, [some (.ref 0), some (.int l1), some (.int l2), none, none, none, none], v.toList ++ [], N)) from rfl).trans (zm_app_s rfl rfl (hq)))) ?_
  show zm_V zT_X10_under zW_M (14, [some (.ref 0), some (.int l1), some (.int l2), none, none, none, none], [.int 0], ((zm_w I 0 0 0), J)) = _
  refine Eq.trans ((zm_V_eq _ _ _).trans (show zm_step zT_X10_under zW_M (zm_V zT_X10_under zW_M) (14, [some (.ref 0), some (.int l1), some (.int l2), none, none, none, none], [.int 0], ((zm_w I 0 0 0), J)) = if ((0 : Int32) : Int32) = 0 then zm_V zT_X10_under zW_M (25, [some (.ref 0), some (.int l1), some (.int l2), none, none, none, none], [], ((zm_w I 0 0 0), J)) else zm_V zT_X10_under zW_M (17, [some (.ref 0), some (.int l1), some (.int l2), none, none, none, none], [], ((zm_w I 0 0 0), J)) from rfl)) ?_
  rw [if_pos (by decide)]
  show zm_V zT_X10_under zW_M (25, [some (.ref 0), some (.int l1), some (.int l2), none, none, none, none], [], ((zm_w I 0 0 0), J)) = _
  refine Eq.trans ((zm_V_eq _ _ _).trans (show zm_step zT_X10_under zW_M (zm_V zT_X10_under zW_M) (25, [some (.ref 0), some (.int l1), some (.int l2), none, none, none, none], [], ((zm_w I 0 0 0), J)) = zm_V zT_X10_under zW_M (27, [some (.ref 0), some (.int l1), some (.int l2), none, none, none, none], [.int (-2)], ((zm_w I 0 0 0), J)) from rfl)) ?_
  show zm_V zT_X10_under zW_M (27, [some (.ref 0), some (.int l1), some (.int l2), none, none, none, none], [.int (-2)], ((zm_w I 0 0 0), J)) = _
  refine Eq.trans ((zm_V_eq _ _ _).trans (show zm_step zT_X10_under zW_M (zm_V zT_X10_under zW_M) (27, [some (.ref 0), some (.int l1), some (.int l2), none, none, none, none], [.int (-2)], ((zm_w I 0 0 0), J)) = if ((-2) : Int32) = 0 then zm_V zT_X10_under zW_M (34, [some (.ref 0), some (.int l1), some (.int l2), some (.int (-2)), none, none, none], [], ((zm_w I 0 0 0), J)) else zm_V zT_X10_under zW_M (32, [some (.ref 0), some (.int l1), some (.int l2), some (.int (-2)), none, none, none], [], ((zm_w I 0 0 0), J)) from rfl)) ?_
  rw [if_neg (by decide)]
  show zm_V zT_X10_under zW_M (32, [some (.ref 0), some (.int l1), some (.int l2), some (.int (-2)), none, none, none], [], ((zm_w I 0 0 0), J)) = _
  refine Eq.trans ((zm_V_eq _ _ _).trans (show zm_step zT_X10_under zW_M (zm_V zT_X10_under zW_M) (32, [some (.ref 0), some (.int l1), some (.int l2), some (.int (-2)), none, none, none], [], ((zm_w I 0 0 0), J)) = some (some (.int (-2)), ((zm_w I 0 0 0), J)) from rfl)) ?_
  rfl
set_option maxRecDepth 20000 in
theorem zpm_under_y (h : zy_M I J) (l1 l2 : Int32) (hq : zF_X10_in zW_M [.long (Int32.toInt64 l2), .long 0, .long (9)] ((zm_w I 0 0 0), J) = some (some (.int 1), ((zm_w I 0 0 0), J))) : zF_X10_under zW_M [.ref 0, .int l1, .int l2] (I, J) = some (some (.int (-2)), ((zm_w I 0 0 0), J)) := by
  show zm_V zT_X10_under zW_M (0, [some (.ref 0), some (.int l1), some (.int l2), none, none, none, none], [], (I, J)) = _
  refine Eq.trans ((zm_V_eq _ _ _).trans ((show zm_step zT_X10_under zW_M (zm_V zT_X10_under zW_M) (0, [some (.ref 0), some (.int l1), some (.int l2), none, none, none, none], [], (I, J)) = zm_app (3, none, true, [], zF_X10_in) zW_M [.long (Int32.toInt64 l2), .long 0, .long (9)] ((zm_w I 0 0 0), J) (fun v N => zm_V zT_X10_under zW_M (14, [some (.ref 0), some (.int l1), some (.int l2), none, none, none, none], v.toList ++ [], N)) from rfl).trans (zm_app_s rfl rfl (hq)))) ?_
  show zm_V zT_X10_under zW_M (14, [some (.ref 0), some (.int l1), some (.int l2), none, none, none, none], [.int 1], ((zm_w I 0 0 0), J)) = _
  refine Eq.trans ((zm_V_eq _ _ _).trans (show zm_step zT_X10_under zW_M (zm_V zT_X10_under zW_M) (14, [some (.ref 0), some (.int l1), some (.int l2), none, none, none, none], [.int 1], ((zm_w I 0 0 0), J)) = if ((1 : Int32) : Int32) = 0 then zm_V zT_X10_under zW_M (25, [some (.ref 0), some (.int l1), some (.int l2), none, none, none, none], [], ((zm_w I 0 0 0), J)) else zm_V zT_X10_under zW_M (17, [some (.ref 0), some (.int l1), some (.int l2), none, none, none, none], [], ((zm_w I 0 0 0), J)) from rfl)) ?_
  rw [if_neg (by decide)]
  show zm_V zT_X10_under zW_M (17, [some (.ref 0), some (.int l1), some (.int l2), none, none, none, none], [], ((zm_w I 0 0 0), J)) = _
  refine Eq.trans ((zm_V_eq _ _ _).trans ((show zm_step zT_X10_under zW_M (zm_V zT_X10_under zW_M) (17, [some (.ref 0), some (.int l1), some (.int l2), none, none, none, none], [], ((zm_w I 0 0 0), J)) = zm_app (2, some 10, true, [], zF_X10_whyNotMarks) zW_M [.ref 0, .int l1] ((zm_w I 0 0 0), J) (fun v N => zm_V zT_X10_under zW_M (22, [some (.ref 0), some (.int l1), some (.int l2), none, none, none, none], v.toList ++ [], N)) from rfl).trans (zm_app_s rfl rfl (zgm_whyNotMarks (zy_M_t h) l1)))) ?_
  show zm_V zT_X10_under zW_M (22, [some (.ref 0), some (.int l1), some (.int l2), none, none, none, none], [.int ((-2) : Int32)], ((zm_w I 0 0 0), J)) = _
  refine Eq.trans ((zm_V_eq _ _ _).trans (show zm_step zT_X10_under zW_M (zm_V zT_X10_under zW_M) (22, [some (.ref 0), some (.int l1), some (.int l2), none, none, none, none], [.int ((-2) : Int32)], ((zm_w I 0 0 0), J)) = zm_V zT_X10_under zW_M (27, [some (.ref 0), some (.int l1), some (.int l2), none, none, none, none], [.int ((-2) : Int32)], ((zm_w I 0 0 0), J)) from rfl)) ?_
  show zm_V zT_X10_under zW_M (27, [some (.ref 0), some (.int l1), some (.int l2), none, none, none, none], [.int ((-2) : Int32)], ((zm_w I 0 0 0), J)) = _
  refine Eq.trans ((zm_V_eq _ _ _).trans (show zm_step zT_X10_under zW_M (zm_V zT_X10_under zW_M) (27, [some (.ref 0), some (.int l1), some (.int l2), none, none, none, none], [.int ((-2) : Int32)], ((zm_w I 0 0 0), J)) = if (((-2) : Int32) : Int32) = 0 then zm_V zT_X10_under zW_M (34, [some (.ref 0), some (.int l1), some (.int l2), some (.int ((-2) : Int32)), none, none, none], [], ((zm_w I 0 0 0), J)) else zm_V zT_X10_under zW_M (32, [some (.ref 0), some (.int l1), some (.int l2), some (.int ((-2) : Int32)), none, none, none], [], ((zm_w I 0 0 0), J)) from rfl)) ?_
  rw [if_neg (by decide)]
  show zm_V zT_X10_under zW_M (32, [some (.ref 0), some (.int l1), some (.int l2), some (.int ((-2) : Int32)), none, none, none], [], ((zm_w I 0 0 0), J)) = _
  refine Eq.trans ((zm_V_eq _ _ _).trans (show zm_step zT_X10_under zW_M (zm_V zT_X10_under zW_M) (32, [some (.ref 0), some (.int l1), some (.int l2), some (.int ((-2) : Int32)), none, none, none], [], ((zm_w I 0 0 0), J)) = some (some (.int ((-2) : Int32)), ((zm_w I 0 0 0), J)) from rfl)) ?_
  rfl
theorem zpm_under (h : zy_M I J) (l1 l2 : Int32) : zF_X10_under zW_M [.ref 0, .int l1, .int l2] (I, J) = some (some (.int (-2)), ((zm_w I 0 0 0), J)) := by
  have hi := zgm_in32 (I := zm_w I 0 0 0) (J := J) l2 0 9 (B := 0) (C := 9) (by decide) (by decide)
  by_cases h0 : l2 < 0
  · rw [if_pos h0] at hi
    exact zpm_under_n h l1 l2 hi
  · rw [if_neg h0] at hi
    by_cases h9 : 9 < l2
    · rw [if_pos h9] at hi
      exact zpm_under_n h l1 l2 hi
    · rw [if_neg h9] at hi
      exact zpm_under_y h l1 l2 hi
theorem zgm_isSeed (l : Int32) : ∃ r : Int32, (r = 0 ∨ r = 1) ∧ zF_X10_isSeed zW_M [.int l] (I, J) = some (some (.int r), (I, J)) := by
  have hi := zgm_in (I := I) (J := J) (Int32.toInt64 l) 0 2000000000
  have hr : ∀ r : Int32, (r = 0 ∨ r = 1) → zF_X10_in zW_M [.long (Int32.toInt64 l), .long 0, .long (2000000000)] (I, J) = some (some (.int r), (I, J)) → zF_X10_isSeed zW_M [.int l] (I, J) = some (some (.int r), (I, J)) := fun r h1 h2 => by
    rw [zf_X10_isSeed_M, zc_X10_isSeed_M_0 _ _ _ h2, zq_X10_isSeed_M_9, if_pos h1]
  by_cases h0 : Int32.toInt64 l < 0
  · rw [if_pos h0] at hi
    exact ⟨0, Or.inl rfl, hr 0 (Or.inl rfl) hi⟩
  · rw [if_neg h0] at hi
    by_cases h9 : (2000000000 : Int64) < Int32.toInt64 l
    · rw [if_pos h9] at hi
      exact ⟨0, Or.inl rfl, hr 0 (Or.inl rfl) hi⟩
    · rw [if_neg h9] at hi
      exact ⟨1, Or.inr rfl, hr 1 (Or.inr rfl) hi⟩
set_option maxRecDepth 20000 in
theorem zpm_luck_0 (l1 l2 l3 : Int32) (hs : zF_X10_isSeed zW_M [.int l1] ((zm_w I 0 0 0), J) = some (some (.int 0), ((zm_w I 0 0 0), J))) : zF_X10_luck zW_M [.ref 0, .int l1, .int l2, .int l3] (I, J) = some (some (.int (-2)), ((zm_w I 0 0 0), J)) := by
  show zm_V zT_X10_luck zW_M (0, [some (.ref 0), some (.int l1), some (.int l2), some (.int l3), none, none], [], (I, J)) = _
  refine Eq.trans ((zm_V_eq _ _ _).trans ((show zm_step zT_X10_luck zW_M (zm_V zT_X10_luck zW_M) (0, [some (.ref 0), some (.int l1), some (.int l2), some (.int l3), none, none], [], (I, J)) = zm_app (1, none, true, [], zF_X10_isSeed) zW_M [.int l1] ((zm_w I 0 0 0), J) (fun v N => zm_V zT_X10_luck zW_M (9, [some (.ref 0), some (.int l1), some (.int l2), some (.int l3), none, none], v.toList ++ [], N)) from rfl).trans (zm_app_s rfl rfl (hs)))) ?_
  show zm_V zT_X10_luck zW_M (9, [some (.ref 0), some (.int l1), some (.int l2), some (.int l3), none, none], [.int 0], ((zm_w I 0 0 0), J)) = _
  refine Eq.trans ((zm_V_eq _ _ _).trans (show zm_step zT_X10_luck zW_M (zm_V zT_X10_luck zW_M) (9, [some (.ref 0), some (.int l1), some (.int l2), some (.int l3), none, none], [.int 0], ((zm_w I 0 0 0), J)) = if ((0 : Int32) : Int32) = 0 then zm_V zT_X10_luck zW_M (33, [some (.ref 0), some (.int l1), some (.int l2), some (.int l3), none, none], [], ((zm_w I 0 0 0), J)) else zm_V zT_X10_luck zW_M (12, [some (.ref 0), some (.int l1), some (.int l2), some (.int l3), none, none], [], ((zm_w I 0 0 0), J)) from rfl)) ?_
  rw [if_pos (by decide)]
  show zm_V zT_X10_luck zW_M (33, [some (.ref 0), some (.int l1), some (.int l2), some (.int l3), none, none], [], ((zm_w I 0 0 0), J)) = _
  refine Eq.trans ((zm_V_eq _ _ _).trans (show zm_step zT_X10_luck zW_M (zm_V zT_X10_luck zW_M) (33, [some (.ref 0), some (.int l1), some (.int l2), some (.int l3), none, none], [], ((zm_w I 0 0 0), J)) = some (some (.int (-2)), ((zm_w I 0 0 0), J)) from rfl)) ?_
  rfl
set_option maxRecDepth 20000 in
theorem zpm_luck_1 (l1 l2 l3 : Int32) (hs : zF_X10_isSeed zW_M [.int l1] ((zm_w I 0 0 0), J) = some (some (.int 1), ((zm_w I 0 0 0), J))) (hq : zF_X10_in zW_M [.long (Int32.toInt64 l2), .long 1, .long (20)] ((zm_w I 0 0 0), J) = some (some (.int 0), ((zm_w I 0 0 0), J))) : zF_X10_luck zW_M [.ref 0, .int l1, .int l2, .int l3] (I, J) = some (some (.int (-2)), ((zm_w I 0 0 0), J)) := by
  show zm_V zT_X10_luck zW_M (0, [some (.ref 0), some (.int l1), some (.int l2), some (.int l3), none, none], [], (I, J)) = _
  refine Eq.trans ((zm_V_eq _ _ _).trans ((show zm_step zT_X10_luck zW_M (zm_V zT_X10_luck zW_M) (0, [some (.ref 0), some (.int l1), some (.int l2), some (.int l3), none, none], [], (I, J)) = zm_app (1, none, true, [], zF_X10_isSeed) zW_M [.int l1] ((zm_w I 0 0 0), J) (fun v N => zm_V zT_X10_luck zW_M (9, [some (.ref 0), some (.int l1), some (.int l2), some (.int l3), none, none], v.toList ++ [], N)) from rfl).trans (zm_app_s rfl rfl (hs)))) ?_
  show zm_V zT_X10_luck zW_M (9, [some (.ref 0), some (.int l1), some (.int l2), some (.int l3), none, none], [.int 1], ((zm_w I 0 0 0), J)) = _
  refine Eq.trans ((zm_V_eq _ _ _).trans (show zm_step zT_X10_luck zW_M (zm_V zT_X10_luck zW_M) (9, [some (.ref 0), some (.int l1), some (.int l2), some (.int l3), none, none], [.int 1], ((zm_w I 0 0 0), J)) = if ((1 : Int32) : Int32) = 0 then zm_V zT_X10_luck zW_M (33, [some (.ref 0), some (.int l1), some (.int l2), some (.int l3), none, none], [], ((zm_w I 0 0 0), J)) else zm_V zT_X10_luck zW_M (12, [some (.ref 0), some (.int l1), some (.int l2), some (.int l3), none, none], [], ((zm_w I 0 0 0), J)) from rfl)) ?_
  rw [if_neg (by decide)]
  show zm_V zT_X10_luck zW_M (12, [some (.ref 0), some (.int l1), some (.int l2), some (.int l3), none, none], [], ((zm_w I 0 0 0), J)) = _
  refine Eq.trans ((zm_V_eq _ _ _).trans ((show zm_step zT_X10_luck zW_M (zm_V zT_X10_luck zW_M) (12, [some (.ref 0), some (.int l1), some (.int l2), some (.int l3), none, none], [], ((zm_w I 0 0 0), J)) = zm_app (3, none, true, [], zF_X10_in) zW_M [.long (Int32.toInt64 l2), .long 1, .long (20)] ((zm_w I 0 0 0), J) (fun v N => zm_V zT_X10_luck zW_M (21, [some (.ref 0), some (.int l1), some (.int l2), some (.int l3), none, none], v.toList ++ [], N)) from rfl).trans (zm_app_s rfl rfl (hq)))) ?_
  show zm_V zT_X10_luck zW_M (21, [some (.ref 0), some (.int l1), some (.int l2), some (.int l3), none, none], [.int 0], ((zm_w I 0 0 0), J)) = _
  refine Eq.trans ((zm_V_eq _ _ _).trans (show zm_step zT_X10_luck zW_M (zm_V zT_X10_luck zW_M) (21, [some (.ref 0), some (.int l1), some (.int l2), some (.int l3), none, none], [.int 0], ((zm_w I 0 0 0), J)) = if ((0 : Int32) : Int32) = 0 then zm_V zT_X10_luck zW_M (33, [some (.ref 0), some (.int l1), some (.int l2), some (.int l3), none, none], [], ((zm_w I 0 0 0), J)) else zm_V zT_X10_luck zW_M (24, [some (.ref 0), some (.int l1), some (.int l2), some (.int l3), none, none], [], ((zm_w I 0 0 0), J)) from rfl)) ?_
  rw [if_pos (by decide)]
  show zm_V zT_X10_luck zW_M (33, [some (.ref 0), some (.int l1), some (.int l2), some (.int l3), none, none], [], ((zm_w I 0 0 0), J)) = _
  refine Eq.trans ((zm_V_eq _ _ _).trans (show zm_step zT_X10_luck zW_M (zm_V zT_X10_luck zW_M) (33, [some (.ref 0), some (.int l1), some (.int l2), some (.int l3), none, none], [], ((zm_w I 0 0 0), J)) = some (some (.int (-2)), ((zm_w I 0 0 0), J)) from rfl)) ?_
  rfl
set_option maxRecDepth 20000 in
theorem zpm_luck_2 (h : zy_M I J) (l1 l2 l3 : Int32) (hs : zF_X10_isSeed zW_M [.int l1] ((zm_w I 0 0 0), J) = some (some (.int 1), ((zm_w I 0 0 0), J))) (hq : zF_X10_in zW_M [.long (Int32.toInt64 l2), .long 1, .long (20)] ((zm_w I 0 0 0), J) = some (some (.int 1), ((zm_w I 0 0 0), J))) : zF_X10_luck zW_M [.ref 0, .int l1, .int l2, .int l3] (I, J) = some (some (.int (-2)), ((zm_w I 0 0 0), J)) := by
  show zm_V zT_X10_luck zW_M (0, [some (.ref 0), some (.int l1), some (.int l2), some (.int l3), none, none], [], (I, J)) = _
  refine Eq.trans ((zm_V_eq _ _ _).trans ((show zm_step zT_X10_luck zW_M (zm_V zT_X10_luck zW_M) (0, [some (.ref 0), some (.int l1), some (.int l2), some (.int l3), none, none], [], (I, J)) = zm_app (1, none, true, [], zF_X10_isSeed) zW_M [.int l1] ((zm_w I 0 0 0), J) (fun v N => zm_V zT_X10_luck zW_M (9, [some (.ref 0), some (.int l1), some (.int l2), some (.int l3), none, none], v.toList ++ [], N)) from rfl).trans (zm_app_s rfl rfl (hs)))) ?_
  show zm_V zT_X10_luck zW_M (9, [some (.ref 0), some (.int l1), some (.int l2), some (.int l3), none, none], [.int 1], ((zm_w I 0 0 0), J)) = _
  refine Eq.trans ((zm_V_eq _ _ _).trans (show zm_step zT_X10_luck zW_M (zm_V zT_X10_luck zW_M) (9, [some (.ref 0), some (.int l1), some (.int l2), some (.int l3), none, none], [.int 1], ((zm_w I 0 0 0), J)) = if ((1 : Int32) : Int32) = 0 then zm_V zT_X10_luck zW_M (33, [some (.ref 0), some (.int l1), some (.int l2), some (.int l3), none, none], [], ((zm_w I 0 0 0), J)) else zm_V zT_X10_luck zW_M (12, [some (.ref 0), some (.int l1), some (.int l2), some (.int l3), none, none], [], ((zm_w I 0 0 0), J)) from rfl)) ?_
  rw [if_neg (by decide)]
  show zm_V zT_X10_luck zW_M (12, [some (.ref 0), some (.int l1), some (.int l2), some (.int l3), none, none], [], ((zm_w I 0 0 0), J)) = _
  refine Eq.trans ((zm_V_eq _ _ _).trans ((show zm_step zT_X10_luck zW_M (zm_V zT_X10_luck zW_M) (12, [some (.ref 0), some (.int l1), some (.int l2), some (.int l3), none, none], [], ((zm_w I 0 0 0), J)) = zm_app (3, none, true, [], zF_X10_in) zW_M [.long (Int32.toInt64 l2), .long 1, .long (20)] ((zm_w I 0 0 0), J) (fun v N => zm_V zT_X10_luck zW_M (21, [some (.ref 0), some (.int l1), some (.int l2), some (.int l3), none, none], v.toList ++ [], N)) from rfl).trans (zm_app_s rfl rfl (hq)))) ?_
  show zm_V zT_X10_luck zW_M (21, [some (.ref 0), some (.int l1), some (.int l2), some (.int l3), none, none], [.int 1], ((zm_w I 0 0 0), J)) = _
  refine Eq.trans ((zm_V_eq _ _ _).trans (show zm_step zT_X10_luck zW_M (zm_V zT_X10_luck zW_M) (21, [some (.ref 0), some (.int l1), some (.int l2), some (.int l3), none, none], [.int 1], ((zm_w I 0 0 0), J)) = if ((1 : Int32) : Int32) = 0 then zm_V zT_X10_luck zW_M (33, [some (.ref 0), some (.int l1), some (.int l2), some (.int l3), none, none], [], ((zm_w I 0 0 0), J)) else zm_V zT_X10_luck zW_M (24, [some (.ref 0), some (.int l1), some (.int l2), some (.int l3), none, none], [], ((zm_w I 0 0 0), J)) from rfl)) ?_
  rw [if_neg (by decide)]
  show zm_V zT_X10_luck zW_M (24, [some (.ref 0), some (.int l1), some (.int l2), some (.int l3), none, none], [], ((zm_w I 0 0 0), J)) = _
  refine Eq.trans ((zm_V_eq _ _ _).trans ((show zm_step zT_X10_luck zW_M (zm_V zT_X10_luck zW_M) (24, [some (.ref 0), some (.int l1), some (.int l2), some (.int l3), none, none], [], ((zm_w I 0 0 0), J)) = zm_app (2, some 10, true, [], zF_X10_isCaller) zW_M [.ref 0, .long (Int32.toInt64 l3)] ((zm_w I 0 0 0), J) (fun v N => zm_V zT_X10_luck zW_M (30, [some (.ref 0), some (.int l1), some (.int l2), some (.int l3), none, none], v.toList ++ [], N)) from rfl).trans (zm_app_s rfl rfl (zgm_isCaller (zy_M_t h) _)))) ?_
  show zm_V zT_X10_luck zW_M (30, [some (.ref 0), some (.int l1), some (.int l2), some (.int l3), none, none], [.int 0], ((zm_w I 0 0 0), J)) = _
  refine Eq.trans ((zm_V_eq _ _ _).trans (show zm_step zT_X10_luck zW_M (zm_V zT_X10_luck zW_M) (30, [some (.ref 0), some (.int l1), some (.int l2), some (.int l3), none, none], [.int 0], ((zm_w I 0 0 0), J)) = if ((0 : Int32) : Int32) = 0 then zm_V zT_X10_luck zW_M (33, [some (.ref 0), some (.int l1), some (.int l2), some (.int l3), none, none], [], ((zm_w I 0 0 0), J)) else zm_V zT_X10_luck zW_M (36, [some (.ref 0), some (.int l1), some (.int l2), some (.int l3), none, none], [], ((zm_w I 0 0 0), J)) from rfl)) ?_
  rw [if_pos (by decide)]
  show zm_V zT_X10_luck zW_M (33, [some (.ref 0), some (.int l1), some (.int l2), some (.int l3), none, none], [], ((zm_w I 0 0 0), J)) = _
  refine Eq.trans ((zm_V_eq _ _ _).trans (show zm_step zT_X10_luck zW_M (zm_V zT_X10_luck zW_M) (33, [some (.ref 0), some (.int l1), some (.int l2), some (.int l3), none, none], [], ((zm_w I 0 0 0), J)) = some (some (.int (-2)), ((zm_w I 0 0 0), J)) from rfl)) ?_
  rfl
theorem zpm_luck (h : zy_M I J) (l1 l2 l3 : Int32) : zF_X10_luck zW_M [.ref 0, .int l1, .int l2, .int l3] (I, J) = some (some (.int (-2)), ((zm_w I 0 0 0), J)) := by
  obtain ⟨r, hr, hs⟩ := zgm_isSeed (I := zm_w I 0 0 0) (J := J) l1
  rcases hr with rfl | rfl
  · exact zpm_luck_0 l1 l2 l3 hs
  · have hi := zgm_in32 (I := zm_w I 0 0 0) (J := J) l2 1 20 (B := 1) (C := 20) (by decide) (by decide)
    by_cases h0 : l2 < 1
    · rw [if_pos h0] at hi
      exact zpm_luck_1 l1 l2 l3 hs hi
    · rw [if_neg h0] at hi
      by_cases h9 : 20 < l2
      · rw [if_pos h9] at hi
        exact zpm_luck_1 l1 l2 l3 hs hi
      · rw [if_neg h9] at hi
        exact zpm_luck_2 h l1 l2 l3 hs hi
set_option maxRecDepth 20000 in
theorem zpm_write_n {l1 : Int32} (hn : l1 < 0 ∨ 4 ≤ l1) (l2 : Int32) (l3 : Int64) : zF_X10_write zW_M [.ref 0, .int l1, .int l2, .long l3] (I, J) = some (some (.int (-2)), ((zm_w I 0 0 0), J)) := by
  show zm_V zT_X10_write zW_M (0, [some (.ref 0), some (.int l1), some (.int l2), some (.long l3), none], [], (I, J)) = _
  refine Eq.trans ((zm_V_eq _ _ _).trans ((show zm_step zT_X10_write zW_M (zm_V zT_X10_write zW_M) (0, [some (.ref 0), some (.int l1), some (.int l2), some (.long l3), none], [], (I, J)) = zm_app (1, none, true, [], zF_X10_isSlot) zW_M [.int l1] ((zm_w I 0 0 0), J) (fun v N => zm_V zT_X10_write zW_M (9, [some (.ref 0), some (.int l1), some (.int l2), some (.long l3), none], v.toList ++ [], N)) from rfl).trans (zm_app_s rfl rfl (zgm_isSlot_n hn)))) ?_
  show zm_V zT_X10_write zW_M (9, [some (.ref 0), some (.int l1), some (.int l2), some (.long l3), none], [.int 0], ((zm_w I 0 0 0), J)) = _
  refine Eq.trans ((zm_V_eq _ _ _).trans (show zm_step zT_X10_write zW_M (zm_V zT_X10_write zW_M) (9, [some (.ref 0), some (.int l1), some (.int l2), some (.long l3), none], [.int 0], ((zm_w I 0 0 0), J)) = if ((0 : Int32) : Int32) = 0 then zm_V zT_X10_write zW_M (12, [some (.ref 0), some (.int l1), some (.int l2), some (.long l3), none], [], ((zm_w I 0 0 0), J)) else zm_V zT_X10_write zW_M (15, [some (.ref 0), some (.int l1), some (.int l2), some (.long l3), none], [], ((zm_w I 0 0 0), J)) from rfl)) ?_
  rw [if_pos (by decide)]
  show zm_V zT_X10_write zW_M (12, [some (.ref 0), some (.int l1), some (.int l2), some (.long l3), none], [], ((zm_w I 0 0 0), J)) = _
  refine Eq.trans ((zm_V_eq _ _ _).trans (show zm_step zT_X10_write zW_M (zm_V zT_X10_write zW_M) (12, [some (.ref 0), some (.int l1), some (.int l2), some (.long l3), none], [], ((zm_w I 0 0 0), J)) = some (some (.int (-2)), ((zm_w I 0 0 0), J)) from rfl)) ?_
  rfl
set_option maxRecDepth 20000 in
theorem zpm_write_0 (h : zy_M I J) (l2 : Int32) (l3 : Int64) : zF_X10_write zW_M [.ref 0, .int 0, .int l2, .long l3] (I, J) = some (some (.int (-6)), ((zm_w I 0 0 0), J)) := by
  show zm_V zT_X10_write zW_M (0, [some (.ref 0), some (.int 0), some (.int l2), some (.long l3), none], [], (I, J)) = _
  refine Eq.trans ((zm_V_eq _ _ _).trans ((show zm_step zT_X10_write zW_M (zm_V zT_X10_write zW_M) (0, [some (.ref 0), some (.int 0), some (.int l2), some (.long l3), none], [], (I, J)) = zm_app (1, none, true, [], zF_X10_isSlot) zW_M [.int 0] ((zm_w I 0 0 0), J) (fun v N => zm_V zT_X10_write zW_M (9, [some (.ref 0), some (.int 0), some (.int l2), some (.long l3), none], v.toList ++ [], N)) from rfl).trans (zm_app_s rfl rfl (zgm_isSlot_y (by decide))))) ?_
  show zm_V zT_X10_write zW_M (9, [some (.ref 0), some (.int 0), some (.int l2), some (.long l3), none], [.int 1], ((zm_w I 0 0 0), J)) = _
  refine Eq.trans ((zm_V_eq _ _ _).trans (show zm_step zT_X10_write zW_M (zm_V zT_X10_write zW_M) (9, [some (.ref 0), some (.int 0), some (.int l2), some (.long l3), none], [.int 1], ((zm_w I 0 0 0), J)) = if ((1 : Int32) : Int32) = 0 then zm_V zT_X10_write zW_M (12, [some (.ref 0), some (.int 0), some (.int l2), some (.long l3), none], [], ((zm_w I 0 0 0), J)) else zm_V zT_X10_write zW_M (15, [some (.ref 0), some (.int 0), some (.int l2), some (.long l3), none], [], ((zm_w I 0 0 0), J)) from rfl)) ?_
  rw [if_neg (by decide)]
  show zm_V zT_X10_write zW_M (15, [some (.ref 0), some (.int 0), some (.int l2), some (.long l3), none], [], ((zm_w I 0 0 0), J)) = _
  refine Eq.trans ((zm_V_eq _ _ _).trans (show zm_step zT_X10_write zW_M (zm_V zT_X10_write zW_M) (15, [some (.ref 0), some (.int 0), some (.int l2), some (.long l3), none], [], ((zm_w I 0 0 0), J)) = if (0 : Int32) < 0 ∨ 4 ≤ Int32.toNatClampNeg 0 then none else if (((zm_w I 0 0 0) 1 (Int32.toNatClampNeg 0)) : Int32) = (-1) then zm_V zT_X10_write zW_M (25, [some (.ref 0), some (.int 0), some (.int l2), some (.long l3), none], [], ((zm_w I 0 0 0), J)) else zm_V zT_X10_write zW_M (28, [some (.ref 0), some (.int 0), some (.int l2), some (.long l3), none], [], ((zm_w I 0 0 0), J)) from rfl)) ?_
  rw [if_neg (by decide)]
  rw [if_pos (by rw [show Int32.toNatClampNeg 0 = 0 by decide]; exact ((zy_M_t h).1 1 0 (by decide)).trans (by decide))]
  show zm_V zT_X10_write zW_M (25, [some (.ref 0), some (.int 0), some (.int l2), some (.long l3), none], [], ((zm_w I 0 0 0), J)) = _
  refine Eq.trans ((zm_V_eq _ _ _).trans (show zm_step zT_X10_write zW_M (zm_V zT_X10_write zW_M) (25, [some (.ref 0), some (.int 0), some (.int l2), some (.long l3), none], [], ((zm_w I 0 0 0), J)) = some (some (.int (-6)), ((zm_w I 0 0 0), J)) from rfl)) ?_
  rfl
set_option maxRecDepth 20000 in
theorem zpm_write_1 (h : zy_M I J) (l2 : Int32) (l3 : Int64) : zF_X10_write zW_M [.ref 0, .int 1, .int l2, .long l3] (I, J) = some (some (.int (-6)), ((zm_w I 0 0 0), J)) := by
  show zm_V zT_X10_write zW_M (0, [some (.ref 0), some (.int 1), some (.int l2), some (.long l3), none], [], (I, J)) = _
  refine Eq.trans ((zm_V_eq _ _ _).trans ((show zm_step zT_X10_write zW_M (zm_V zT_X10_write zW_M) (0, [some (.ref 0), some (.int 1), some (.int l2), some (.long l3), none], [], (I, J)) = zm_app (1, none, true, [], zF_X10_isSlot) zW_M [.int 1] ((zm_w I 0 0 0), J) (fun v N => zm_V zT_X10_write zW_M (9, [some (.ref 0), some (.int 1), some (.int l2), some (.long l3), none], v.toList ++ [], N)) from rfl).trans (zm_app_s rfl rfl (zgm_isSlot_y (by decide))))) ?_
  show zm_V zT_X10_write zW_M (9, [some (.ref 0), some (.int 1), some (.int l2), some (.long l3), none], [.int 1], ((zm_w I 0 0 0), J)) = _
  refine Eq.trans ((zm_V_eq _ _ _).trans (show zm_step zT_X10_write zW_M (zm_V zT_X10_write zW_M) (9, [some (.ref 0), some (.int 1), some (.int l2), some (.long l3), none], [.int 1], ((zm_w I 0 0 0), J)) = if ((1 : Int32) : Int32) = 0 then zm_V zT_X10_write zW_M (12, [some (.ref 0), some (.int 1), some (.int l2), some (.long l3), none], [], ((zm_w I 0 0 0), J)) else zm_V zT_X10_write zW_M (15, [some (.ref 0), some (.int 1), some (.int l2), some (.long l3), none], [], ((zm_w I 0 0 0), J)) from rfl)) ?_
  rw [if_neg (by decide)]
  show zm_V zT_X10_write zW_M (15, [some (.ref 0), some (.int 1), some (.int l2), some (.long l3), none], [], ((zm_w I 0 0 0), J)) = _
  refine Eq.trans ((zm_V_eq _ _ _).trans (show zm_step zT_X10_write zW_M (zm_V zT_X10_write zW_M) (15, [some (.ref 0), some (.int 1), some (.int l2), some (.long l3), none], [], ((zm_w I 0 0 0), J)) = if (1 : Int32) < 0 ∨ 4 ≤ Int32.toNatClampNeg 1 then none else if (((zm_w I 0 0 0) 1 (Int32.toNatClampNeg 1)) : Int32) = (-1) then zm_V zT_X10_write zW_M (25, [some (.ref 0), some (.int 1), some (.int l2), some (.long l3), none], [], ((zm_w I 0 0 0), J)) else zm_V zT_X10_write zW_M (28, [some (.ref 0), some (.int 1), some (.int l2), some (.long l3), none], [], ((zm_w I 0 0 0), J)) from rfl)) ?_
  rw [if_neg (by decide)]
  rw [if_pos (by rw [show Int32.toNatClampNeg 1 = 1 by decide]; exact ((zy_M_t h).1 1 1 (by decide)).trans (by decide))]
  show zm_V zT_X10_write zW_M (25, [some (.ref 0), some (.int 1), some (.int l2), some (.long l3), none], [], ((zm_w I 0 0 0), J)) = _
  refine Eq.trans ((zm_V_eq _ _ _).trans (show zm_step zT_X10_write zW_M (zm_V zT_X10_write zW_M) (25, [some (.ref 0), some (.int 1), some (.int l2), some (.long l3), none], [], ((zm_w I 0 0 0), J)) = some (some (.int (-6)), ((zm_w I 0 0 0), J)) from rfl)) ?_
  rfl
set_option maxRecDepth 20000 in
theorem zpm_write_2 (h : zy_M I J) (l2 : Int32) (l3 : Int64) : zF_X10_write zW_M [.ref 0, .int 2, .int l2, .long l3] (I, J) = some (some (.int (-6)), ((zm_w I 0 0 0), J)) := by
  show zm_V zT_X10_write zW_M (0, [some (.ref 0), some (.int 2), some (.int l2), some (.long l3), none], [], (I, J)) = _
  refine Eq.trans ((zm_V_eq _ _ _).trans ((show zm_step zT_X10_write zW_M (zm_V zT_X10_write zW_M) (0, [some (.ref 0), some (.int 2), some (.int l2), some (.long l3), none], [], (I, J)) = zm_app (1, none, true, [], zF_X10_isSlot) zW_M [.int 2] ((zm_w I 0 0 0), J) (fun v N => zm_V zT_X10_write zW_M (9, [some (.ref 0), some (.int 2), some (.int l2), some (.long l3), none], v.toList ++ [], N)) from rfl).trans (zm_app_s rfl rfl (zgm_isSlot_y (by decide))))) ?_
  show zm_V zT_X10_write zW_M (9, [some (.ref 0), some (.int 2), some (.int l2), some (.long l3), none], [.int 1], ((zm_w I 0 0 0), J)) = _
  refine Eq.trans ((zm_V_eq _ _ _).trans (show zm_step zT_X10_write zW_M (zm_V zT_X10_write zW_M) (9, [some (.ref 0), some (.int 2), some (.int l2), some (.long l3), none], [.int 1], ((zm_w I 0 0 0), J)) = if ((1 : Int32) : Int32) = 0 then zm_V zT_X10_write zW_M (12, [some (.ref 0), some (.int 2), some (.int l2), some (.long l3), none], [], ((zm_w I 0 0 0), J)) else zm_V zT_X10_write zW_M (15, [some (.ref 0), some (.int 2), some (.int l2), some (.long l3), none], [], ((zm_w I 0 0 0), J)) from rfl)) ?_
  rw [if_neg (by decide)]
  show zm_V zT_X10_write zW_M (15, [some (.ref 0), some (.int 2), some (.int l2), some (.long l3), none], [], ((zm_w I 0 0 0), J)) = _
  refine Eq.trans ((zm_V_eq _ _ _).trans (show zm_step zT_X10_write zW_M (zm_V zT_X10_write zW_M) (15, [some (.ref 0), some (.int 2), some (.int l2), some (.long l3), none], [], ((zm_w I 0 0 0), J)) = if (2 : Int32) < 0 ∨ 4 ≤ Int32.toNatClampNeg 2 then none else if (((zm_w I 0 0 0) 1 (Int32.toNatClampNeg 2)) : Int32) = (-1) then zm_V zT_X10_write zW_M (25, [some (.ref 0), some (.int 2), some (.int l2), some (.long l3), none], [], ((zm_w I 0 0 0), J)) else zm_V zT_X10_write zW_M (28, [some (.ref 0), some (.int 2), some (.int l2), some (.long l3), none], [], ((zm_w I 0 0 0), J)) from rfl)) ?_
  rw [if_neg (by decide)]
  rw [if_pos (by rw [show Int32.toNatClampNeg 2 = 2 by decide]; exact ((zy_M_t h).1 1 2 (by decide)).trans (by decide))]
  show zm_V zT_X10_write zW_M (25, [some (.ref 0), some (.int 2), some (.int l2), some (.long l3), none], [], ((zm_w I 0 0 0), J)) = _
  refine Eq.trans ((zm_V_eq _ _ _).trans (show zm_step zT_X10_write zW_M (zm_V zT_X10_write zW_M) (25, [some (.ref 0), some (.int 2), some (.int l2), some (.long l3), none], [], ((zm_w I 0 0 0), J)) = some (some (.int (-6)), ((zm_w I 0 0 0), J)) from rfl)) ?_
  rfl
set_option maxRecDepth 20000 in
theorem zpm_write_3 (h : zy_M I J) (l2 : Int32) (l3 : Int64) : zF_X10_write zW_M [.ref 0, .int 3, .int l2, .long l3] (I, J) = some (some (.int (-6)), ((zm_w I 0 0 0), J)) := by
  show zm_V zT_X10_write zW_M (0, [some (.ref 0), some (.int 3), some (.int l2), some (.long l3), none], [], (I, J)) = _
  refine Eq.trans ((zm_V_eq _ _ _).trans ((show zm_step zT_X10_write zW_M (zm_V zT_X10_write zW_M) (0, [some (.ref 0), some (.int 3), some (.int l2), some (.long l3), none], [], (I, J)) = zm_app (1, none, true, [], zF_X10_isSlot) zW_M [.int 3] ((zm_w I 0 0 0), J) (fun v N => zm_V zT_X10_write zW_M (9, [some (.ref 0), some (.int 3), some (.int l2), some (.long l3), none], v.toList ++ [], N)) from rfl).trans (zm_app_s rfl rfl (zgm_isSlot_y (by decide))))) ?_
  show zm_V zT_X10_write zW_M (9, [some (.ref 0), some (.int 3), some (.int l2), some (.long l3), none], [.int 1], ((zm_w I 0 0 0), J)) = _
  refine Eq.trans ((zm_V_eq _ _ _).trans (show zm_step zT_X10_write zW_M (zm_V zT_X10_write zW_M) (9, [some (.ref 0), some (.int 3), some (.int l2), some (.long l3), none], [.int 1], ((zm_w I 0 0 0), J)) = if ((1 : Int32) : Int32) = 0 then zm_V zT_X10_write zW_M (12, [some (.ref 0), some (.int 3), some (.int l2), some (.long l3), none], [], ((zm_w I 0 0 0), J)) else zm_V zT_X10_write zW_M (15, [some (.ref 0), some (.int 3), some (.int l2), some (.long l3), none], [], ((zm_w I 0 0 0), J)) from rfl)) ?_
  rw [if_neg (by decide)]
  show zm_V zT_X10_write zW_M (15, [some (.ref 0), some (.int 3), some (.int l2), some (.long l3), none], [], ((zm_w I 0 0 0), J)) = _
  refine Eq.trans ((zm_V_eq _ _ _).trans (show zm_step zT_X10_write zW_M (zm_V zT_X10_write zW_M) (15, [some (.ref 0), some (.int 3), some (.int l2), some (.long l3), none], [], ((zm_w I 0 0 0), J)) = if (3 : Int32) < 0 ∨ 4 ≤ Int32.toNatClampNeg 3 then none else if (((zm_w I 0 0 0) 1 (Int32.toNatClampNeg 3)) : Int32) = (-1) then zm_V zT_X10_write zW_M (25, [some (.ref 0), some (.int 3), some (.int l2), some (.long l3), none], [], ((zm_w I 0 0 0), J)) else zm_V zT_X10_write zW_M (28, [some (.ref 0), some (.int 3), some (.int l2), some (.long l3), none], [], ((zm_w I 0 0 0), J)) from rfl)) ?_
  rw [if_neg (by decide)]
  rw [if_pos (by rw [show Int32.toNatClampNeg 3 = 3 by decide]; exact ((zy_M_t h).1 1 3 (by decide)).trans (by decide))]
  show zm_V zT_X10_write zW_M (25, [some (.ref 0), some (.int 3), some (.int l2), some (.long l3), none], [], ((zm_w I 0 0 0), J)) = _
  refine Eq.trans ((zm_V_eq _ _ _).trans (show zm_step zT_X10_write zW_M (zm_V zT_X10_write zW_M) (25, [some (.ref 0), some (.int 3), some (.int l2), some (.long l3), none], [], ((zm_w I 0 0 0), J)) = some (some (.int (-6)), ((zm_w I 0 0 0), J)) from rfl)) ?_
  rfl
set_option maxRecDepth 20000 in
theorem zpm_paste_n {l1 : Int32} (hn : l1 < 0 ∨ 4 ≤ l1) (l2 l3 l4 l5 : Int32) : zF_X10_paste zW_M [.ref 0, .int l1, .int l2, .int l3, .int l4, .int l5] (I, J) = some (some (.int (-2)), ((zm_w I 0 0 0), J)) := by
  show zm_V zT_X10_paste zW_M (0, [some (.ref 0), some (.int l1), some (.int l2), some (.int l3), some (.int l4), some (.int l5), none], [], (I, J)) = _
  refine Eq.trans ((zm_V_eq _ _ _).trans ((show zm_step zT_X10_paste zW_M (zm_V zT_X10_paste zW_M) (0, [some (.ref 0), some (.int l1), some (.int l2), some (.int l3), some (.int l4), some (.int l5), none], [], (I, J)) = zm_app (1, none, true, [], zF_X10_isSlot) zW_M [.int l1] ((zm_w I 0 0 0), J) (fun v N => zm_V zT_X10_paste zW_M (9, [some (.ref 0), some (.int l1), some (.int l2), some (.int l3), some (.int l4), some (.int l5), none], v.toList ++ [], N)) from rfl).trans (zm_app_s rfl rfl (zgm_isSlot_n hn)))) ?_
  show zm_V zT_X10_paste zW_M (9, [some (.ref 0), some (.int l1), some (.int l2), some (.int l3), some (.int l4), some (.int l5), none], [.int 0], ((zm_w I 0 0 0), J)) = _
  refine Eq.trans ((zm_V_eq _ _ _).trans (show zm_step zT_X10_paste zW_M (zm_V zT_X10_paste zW_M) (9, [some (.ref 0), some (.int l1), some (.int l2), some (.int l3), some (.int l4), some (.int l5), none], [.int 0], ((zm_w I 0 0 0), J)) = if ((0 : Int32) : Int32) = 0 then zm_V zT_X10_paste zW_M (19, [some (.ref 0), some (.int l1), some (.int l2), some (.int l3), some (.int l4), some (.int l5), none], [], ((zm_w I 0 0 0), J)) else zm_V zT_X10_paste zW_M (12, [some (.ref 0), some (.int l1), some (.int l2), some (.int l3), some (.int l4), some (.int l5), none], [], ((zm_w I 0 0 0), J)) from rfl)) ?_
  rw [if_pos (by decide)]
  show zm_V zT_X10_paste zW_M (19, [some (.ref 0), some (.int l1), some (.int l2), some (.int l3), some (.int l4), some (.int l5), none], [], ((zm_w I 0 0 0), J)) = _
  refine Eq.trans ((zm_V_eq _ _ _).trans (show zm_step zT_X10_paste zW_M (zm_V zT_X10_paste zW_M) (19, [some (.ref 0), some (.int l1), some (.int l2), some (.int l3), some (.int l4), some (.int l5), none], [], ((zm_w I 0 0 0), J)) = some (some (.int (-2)), ((zm_w I 0 0 0), J)) from rfl)) ?_
  rfl
set_option maxRecDepth 20000 in
theorem zpm_paste_0n (l2 : Int32) {l3 : Int32} (hn : l3 < 0 ∨ 4 ≤ l3) (l4 l5 : Int32) : zF_X10_paste zW_M [.ref 0, .int 0, .int l2, .int l3, .int l4, .int l5] (I, J) = some (some (.int (-2)), ((zm_w I 0 0 0), J)) := by
  show zm_V zT_X10_paste zW_M (0, [some (.ref 0), some (.int 0), some (.int l2), some (.int l3), some (.int l4), some (.int l5), none], [], (I, J)) = _
  refine Eq.trans ((zm_V_eq _ _ _).trans ((show zm_step zT_X10_paste zW_M (zm_V zT_X10_paste zW_M) (0, [some (.ref 0), some (.int 0), some (.int l2), some (.int l3), some (.int l4), some (.int l5), none], [], (I, J)) = zm_app (1, none, true, [], zF_X10_isSlot) zW_M [.int 0] ((zm_w I 0 0 0), J) (fun v N => zm_V zT_X10_paste zW_M (9, [some (.ref 0), some (.int 0), some (.int l2), some (.int l3), some (.int l4), some (.int l5), none], v.toList ++ [], N)) from rfl).trans (zm_app_s rfl rfl (zgm_isSlot_y (by decide))))) ?_
  show zm_V zT_X10_paste zW_M (9, [some (.ref 0), some (.int 0), some (.int l2), some (.int l3), some (.int l4), some (.int l5), none], [.int 1], ((zm_w I 0 0 0), J)) = _
  refine Eq.trans ((zm_V_eq _ _ _).trans (show zm_step zT_X10_paste zW_M (zm_V zT_X10_paste zW_M) (9, [some (.ref 0), some (.int 0), some (.int l2), some (.int l3), some (.int l4), some (.int l5), none], [.int 1], ((zm_w I 0 0 0), J)) = if ((1 : Int32) : Int32) = 0 then zm_V zT_X10_paste zW_M (19, [some (.ref 0), some (.int 0), some (.int l2), some (.int l3), some (.int l4), some (.int l5), none], [], ((zm_w I 0 0 0), J)) else zm_V zT_X10_paste zW_M (12, [some (.ref 0), some (.int 0), some (.int l2), some (.int l3), some (.int l4), some (.int l5), none], [], ((zm_w I 0 0 0), J)) from rfl)) ?_
  rw [if_neg (by decide)]
  show zm_V zT_X10_paste zW_M (12, [some (.ref 0), some (.int 0), some (.int l2), some (.int l3), some (.int l4), some (.int l5), none], [], ((zm_w I 0 0 0), J)) = _
  refine Eq.trans ((zm_V_eq _ _ _).trans ((show zm_step zT_X10_paste zW_M (zm_V zT_X10_paste zW_M) (12, [some (.ref 0), some (.int 0), some (.int l2), some (.int l3), some (.int l4), some (.int l5), none], [], ((zm_w I 0 0 0), J)) = zm_app (1, none, true, [], zF_X10_isSlot) zW_M [.int l3] ((zm_w I 0 0 0), J) (fun v N => zm_V zT_X10_paste zW_M (16, [some (.ref 0), some (.int 0), some (.int l2), some (.int l3), some (.int l4), some (.int l5), none], v.toList ++ [], N)) from rfl).trans (zm_app_s rfl rfl (zgm_isSlot_n hn)))) ?_
  show zm_V zT_X10_paste zW_M (16, [some (.ref 0), some (.int 0), some (.int l2), some (.int l3), some (.int l4), some (.int l5), none], [.int 0], ((zm_w I 0 0 0), J)) = _
  refine Eq.trans ((zm_V_eq _ _ _).trans (show zm_step zT_X10_paste zW_M (zm_V zT_X10_paste zW_M) (16, [some (.ref 0), some (.int 0), some (.int l2), some (.int l3), some (.int l4), some (.int l5), none], [.int 0], ((zm_w I 0 0 0), J)) = if ((0 : Int32) : Int32) = 0 then zm_V zT_X10_paste zW_M (19, [some (.ref 0), some (.int 0), some (.int l2), some (.int l3), some (.int l4), some (.int l5), none], [], ((zm_w I 0 0 0), J)) else zm_V zT_X10_paste zW_M (22, [some (.ref 0), some (.int 0), some (.int l2), some (.int l3), some (.int l4), some (.int l5), none], [], ((zm_w I 0 0 0), J)) from rfl)) ?_
  rw [if_pos (by decide)]
  show zm_V zT_X10_paste zW_M (19, [some (.ref 0), some (.int 0), some (.int l2), some (.int l3), some (.int l4), some (.int l5), none], [], ((zm_w I 0 0 0), J)) = _
  refine Eq.trans ((zm_V_eq _ _ _).trans (show zm_step zT_X10_paste zW_M (zm_V zT_X10_paste zW_M) (19, [some (.ref 0), some (.int 0), some (.int l2), some (.int l3), some (.int l4), some (.int l5), none], [], ((zm_w I 0 0 0), J)) = some (some (.int (-2)), ((zm_w I 0 0 0), J)) from rfl)) ?_
  rfl
set_option maxRecDepth 20000 in
theorem zpm_paste_0y (h : zy_M I J) (l2 : Int32) {l3 : Int32} (hn : ¬ (l3 < 0 ∨ 4 ≤ l3)) (l4 l5 : Int32) : zF_X10_paste zW_M [.ref 0, .int 0, .int l2, .int l3, .int l4, .int l5] (I, J) = some (some (.int (-6)), ((zm_w I 0 0 0), J)) := by
  show zm_V zT_X10_paste zW_M (0, [some (.ref 0), some (.int 0), some (.int l2), some (.int l3), some (.int l4), some (.int l5), none], [], (I, J)) = _
  refine Eq.trans ((zm_V_eq _ _ _).trans ((show zm_step zT_X10_paste zW_M (zm_V zT_X10_paste zW_M) (0, [some (.ref 0), some (.int 0), some (.int l2), some (.int l3), some (.int l4), some (.int l5), none], [], (I, J)) = zm_app (1, none, true, [], zF_X10_isSlot) zW_M [.int 0] ((zm_w I 0 0 0), J) (fun v N => zm_V zT_X10_paste zW_M (9, [some (.ref 0), some (.int 0), some (.int l2), some (.int l3), some (.int l4), some (.int l5), none], v.toList ++ [], N)) from rfl).trans (zm_app_s rfl rfl (zgm_isSlot_y (by decide))))) ?_
  show zm_V zT_X10_paste zW_M (9, [some (.ref 0), some (.int 0), some (.int l2), some (.int l3), some (.int l4), some (.int l5), none], [.int 1], ((zm_w I 0 0 0), J)) = _
  refine Eq.trans ((zm_V_eq _ _ _).trans (show zm_step zT_X10_paste zW_M (zm_V zT_X10_paste zW_M) (9, [some (.ref 0), some (.int 0), some (.int l2), some (.int l3), some (.int l4), some (.int l5), none], [.int 1], ((zm_w I 0 0 0), J)) = if ((1 : Int32) : Int32) = 0 then zm_V zT_X10_paste zW_M (19, [some (.ref 0), some (.int 0), some (.int l2), some (.int l3), some (.int l4), some (.int l5), none], [], ((zm_w I 0 0 0), J)) else zm_V zT_X10_paste zW_M (12, [some (.ref 0), some (.int 0), some (.int l2), some (.int l3), some (.int l4), some (.int l5), none], [], ((zm_w I 0 0 0), J)) from rfl)) ?_
  rw [if_neg (by decide)]
  show zm_V zT_X10_paste zW_M (12, [some (.ref 0), some (.int 0), some (.int l2), some (.int l3), some (.int l4), some (.int l5), none], [], ((zm_w I 0 0 0), J)) = _
  refine Eq.trans ((zm_V_eq _ _ _).trans ((show zm_step zT_X10_paste zW_M (zm_V zT_X10_paste zW_M) (12, [some (.ref 0), some (.int 0), some (.int l2), some (.int l3), some (.int l4), some (.int l5), none], [], ((zm_w I 0 0 0), J)) = zm_app (1, none, true, [], zF_X10_isSlot) zW_M [.int l3] ((zm_w I 0 0 0), J) (fun v N => zm_V zT_X10_paste zW_M (16, [some (.ref 0), some (.int 0), some (.int l2), some (.int l3), some (.int l4), some (.int l5), none], v.toList ++ [], N)) from rfl).trans (zm_app_s rfl rfl (zgm_isSlot_y hn)))) ?_
  show zm_V zT_X10_paste zW_M (16, [some (.ref 0), some (.int 0), some (.int l2), some (.int l3), some (.int l4), some (.int l5), none], [.int 1], ((zm_w I 0 0 0), J)) = _
  refine Eq.trans ((zm_V_eq _ _ _).trans (show zm_step zT_X10_paste zW_M (zm_V zT_X10_paste zW_M) (16, [some (.ref 0), some (.int 0), some (.int l2), some (.int l3), some (.int l4), some (.int l5), none], [.int 1], ((zm_w I 0 0 0), J)) = if ((1 : Int32) : Int32) = 0 then zm_V zT_X10_paste zW_M (19, [some (.ref 0), some (.int 0), some (.int l2), some (.int l3), some (.int l4), some (.int l5), none], [], ((zm_w I 0 0 0), J)) else zm_V zT_X10_paste zW_M (22, [some (.ref 0), some (.int 0), some (.int l2), some (.int l3), some (.int l4), some (.int l5), none], [], ((zm_w I 0 0 0), J)) from rfl)) ?_
  rw [if_neg (by decide)]
  show zm_V zT_X10_paste zW_M (22, [some (.ref 0), some (.int 0), some (.int l2), some (.int l3), some (.int l4), some (.int l5), none], [], ((zm_w I 0 0 0), J)) = _
  refine Eq.trans ((zm_V_eq _ _ _).trans (show zm_step zT_X10_paste zW_M (zm_V zT_X10_paste zW_M) (22, [some (.ref 0), some (.int 0), some (.int l2), some (.int l3), some (.int l4), some (.int l5), none], [], ((zm_w I 0 0 0), J)) = if (0 : Int32) < 0 ∨ 4 ≤ Int32.toNatClampNeg 0 then none else if (((zm_w I 0 0 0) 1 (Int32.toNatClampNeg 0)) : Int32) = (-1) then zm_V zT_X10_paste zW_M (42, [some (.ref 0), some (.int 0), some (.int l2), some (.int l3), some (.int l4), some (.int l5), none], [], ((zm_w I 0 0 0), J)) else zm_V zT_X10_paste zW_M (32, [some (.ref 0), some (.int 0), some (.int l2), some (.int l3), some (.int l4), some (.int l5), none], [], ((zm_w I 0 0 0), J)) from rfl)) ?_
  rw [if_neg (by decide)]
  rw [if_pos (by rw [show Int32.toNatClampNeg 0 = 0 by decide]; exact ((zy_M_t h).1 1 0 (by decide)).trans (by decide))]
  show zm_V zT_X10_paste zW_M (42, [some (.ref 0), some (.int 0), some (.int l2), some (.int l3), some (.int l4), some (.int l5), none], [], ((zm_w I 0 0 0), J)) = _
  refine Eq.trans ((zm_V_eq _ _ _).trans (show zm_step zT_X10_paste zW_M (zm_V zT_X10_paste zW_M) (42, [some (.ref 0), some (.int 0), some (.int l2), some (.int l3), some (.int l4), some (.int l5), none], [], ((zm_w I 0 0 0), J)) = some (some (.int (-6)), ((zm_w I 0 0 0), J)) from rfl)) ?_
  rfl
set_option maxRecDepth 20000 in
theorem zpm_paste_1n (l2 : Int32) {l3 : Int32} (hn : l3 < 0 ∨ 4 ≤ l3) (l4 l5 : Int32) : zF_X10_paste zW_M [.ref 0, .int 1, .int l2, .int l3, .int l4, .int l5] (I, J) = some (some (.int (-2)), ((zm_w I 0 0 0), J)) := by
  show zm_V zT_X10_paste zW_M (0, [some (.ref 0), some (.int 1), some (.int l2), some (.int l3), some (.int l4), some (.int l5), none], [], (I, J)) = _
  refine Eq.trans ((zm_V_eq _ _ _).trans ((show zm_step zT_X10_paste zW_M (zm_V zT_X10_paste zW_M) (0, [some (.ref 0), some (.int 1), some (.int l2), some (.int l3), some (.int l4), some (.int l5), none], [], (I, J)) = zm_app (1, none, true, [], zF_X10_isSlot) zW_M [.int 1] ((zm_w I 0 0 0), J) (fun v N => zm_V zT_X10_paste zW_M (9, [some (.ref 0), some (.int 1), some (.int l2), some (.int l3), some (.int l4), some (.int l5), none], v.toList ++ [], N)) from rfl).trans (zm_app_s rfl rfl (zgm_isSlot_y (by decide))))) ?_
  show zm_V zT_X10_paste zW_M (9, [some (.ref 0), some (.int 1), some (.int l2), some (.int l3), some (.int l4), some (.int l5), none], [.int 1], ((zm_w I 0 0 0), J)) = _
  refine Eq.trans ((zm_V_eq _ _ _).trans (show zm_step zT_X10_paste zW_M (zm_V zT_X10_paste zW_M) (9, [some (.ref 0), some (.int 1), some (.int l2), some (.int l3), some (.int l4), some (.int l5), none], [.int 1], ((zm_w I 0 0 0), J)) = if ((1 : Int32) : Int32) = 0 then zm_V zT_X10_paste zW_M (19, [some (.ref 0), some (.int 1), some (.int l2), some (.int l3), some (.int l4), some (.int l5), none], [], ((zm_w I 0 0 0), J)) else zm_V zT_X10_paste zW_M (12, [some (.ref 0), some (.int 1), some (.int l2), some (.int l3), some (.int l4), some (.int l5), none], [], ((zm_w I 0 0 0), J)) from rfl)) ?_
  rw [if_neg (by decide)]
  show zm_V zT_X10_paste zW_M (12, [some (.ref 0), some (.int 1), some (.int l2), some (.int l3), some (.int l4), some (.int l5), none], [], ((zm_w I 0 0 0), J)) = _
  refine Eq.trans ((zm_V_eq _ _ _).trans ((show zm_step zT_X10_paste zW_M (zm_V zT_X10_paste zW_M) (12, [some (.ref 0), some (.int 1), some (.int l2), some (.int l3), some (.int l4), some (.int l5), none], [], ((zm_w I 0 0 0), J)) = zm_app (1, none, true, [], zF_X10_isSlot) zW_M [.int l3] ((zm_w I 0 0 0), J) (fun v N => zm_V zT_X10_paste zW_M (16, [some (.ref 0), some (.int 1), some (.int l2), some (.int l3), some (.int l4), some (.int l5), none], v.toList ++ [], N)) from rfl).trans (zm_app_s rfl rfl (zgm_isSlot_n hn)))) ?_
  show zm_V zT_X10_paste zW_M (16, [some (.ref 0), some (.int 1), some (.int l2), some (.int l3), some (.int l4), some (.int l5), none], [.int 0], ((zm_w I 0 0 0), J)) = _
  refine Eq.trans ((zm_V_eq _ _ _).trans (show zm_step zT_X10_paste zW_M (zm_V zT_X10_paste zW_M) (16, [some (.ref 0), some (.int 1), some (.int l2), some (.int l3), some (.int l4), some (.int l5), none], [.int 0], ((zm_w I 0 0 0), J)) = if ((0 : Int32) : Int32) = 0 then zm_V zT_X10_paste zW_M (19, [some (.ref 0), some (.int 1), some (.int l2), some (.int l3), some (.int l4), some (.int l5), none], [], ((zm_w I 0 0 0), J)) else zm_V zT_X10_paste zW_M (22, [some (.ref 0), some (.int 1), some (.int l2), some (.int l3), some (.int l4), some (.int l5), none], [], ((zm_w I 0 0 0), J)) from rfl)) ?_
  rw [if_pos (by decide)]
  show zm_V zT_X10_paste zW_M (19, [some (.ref 0), some (.int 1), some (.int l2), some (.int l3), some (.int l4), some (.int l5), none], [], ((zm_w I 0 0 0), J)) = _
  refine Eq.trans ((zm_V_eq _ _ _).trans (show zm_step zT_X10_paste zW_M (zm_V zT_X10_paste zW_M) (19, [some (.ref 0), some (.int 1), some (.int l2), some (.int l3), some (.int l4), some (.int l5), none], [], ((zm_w I 0 0 0), J)) = some (some (.int (-2)), ((zm_w I 0 0 0), J)) from rfl)) ?_
  rfl
set_option maxRecDepth 20000 in
theorem zpm_paste_1y (h : zy_M I J) (l2 : Int32) {l3 : Int32} (hn : ¬ (l3 < 0 ∨ 4 ≤ l3)) (l4 l5 : Int32) : zF_X10_paste zW_M [.ref 0, .int 1, .int l2, .int l3, .int l4, .int l5] (I, J) = some (some (.int (-6)), ((zm_w I 0 0 0), J)) := by
  show zm_V zT_X10_paste zW_M (0, [some (.ref 0), some (.int 1), some (.int l2), some (.int l3), some (.int l4), some (.int l5), none], [], (I, J)) = _
  refine Eq.trans ((zm_V_eq _ _ _).trans ((show zm_step zT_X10_paste zW_M (zm_V zT_X10_paste zW_M) (0, [some (.ref 0), some (.int 1), some (.int l2), some (.int l3), some (.int l4), some (.int l5), none], [], (I, J)) = zm_app (1, none, true, [], zF_X10_isSlot) zW_M [.int 1] ((zm_w I 0 0 0), J) (fun v N => zm_V zT_X10_paste zW_M (9, [some (.ref 0), some (.int 1), some (.int l2), some (.int l3), some (.int l4), some (.int l5), none], v.toList ++ [], N)) from rfl).trans (zm_app_s rfl rfl (zgm_isSlot_y (by decide))))) ?_
  show zm_V zT_X10_paste zW_M (9, [some (.ref 0), some (.int 1), some (.int l2), some (.int l3), some (.int l4), some (.int l5), none], [.int 1], ((zm_w I 0 0 0), J)) = _
  refine Eq.trans ((zm_V_eq _ _ _).trans (show zm_step zT_X10_paste zW_M (zm_V zT_X10_paste zW_M) (9, [some (.ref 0), some (.int 1), some (.int l2), some (.int l3), some (.int l4), some (.int l5), none], [.int 1], ((zm_w I 0 0 0), J)) = if ((1 : Int32) : Int32) = 0 then zm_V zT_X10_paste zW_M (19, [some (.ref 0), some (.int 1), some (.int l2), some (.int l3), some (.int l4), some (.int l5), none], [], ((zm_w I 0 0 0), J)) else zm_V zT_X10_paste zW_M (12, [some (.ref 0), some (.int 1), some (.int l2), some (.int l3), some (.int l4), some (.int l5), none], [], ((zm_w I 0 0 0), J)) from rfl)) ?_
  rw [if_neg (by decide)]
  show zm_V zT_X10_paste zW_M (12, [some (.ref 0), some (.int 1), some (.int l2), some (.int l3), some (.int l4), some (.int l5), none], [], ((zm_w I 0 0 0), J)) = _
  refine Eq.trans ((zm_V_eq _ _ _).trans ((show zm_step zT_X10_paste zW_M (zm_V zT_X10_paste zW_M) (12, [some (.ref 0), some (.int 1), some (.int l2), some (.int l3), some (.int l4), some (.int l5), none], [], ((zm_w I 0 0 0), J)) = zm_app (1, none, true, [], zF_X10_isSlot) zW_M [.int l3] ((zm_w I 0 0 0), J) (fun v N => zm_V zT_X10_paste zW_M (16, [some (.ref 0), some (.int 1), some (.int l2), some (.int l3), some (.int l4), some (.int l5), none], v.toList ++ [], N)) from rfl).trans (zm_app_s rfl rfl (zgm_isSlot_y hn)))) ?_
  show zm_V zT_X10_paste zW_M (16, [some (.ref 0), some (.int 1), some (.int l2), some (.int l3), some (.int l4), some (.int l5), none], [.int 1], ((zm_w I 0 0 0), J)) = _
  refine Eq.trans ((zm_V_eq _ _ _).trans (show zm_step zT_X10_paste zW_M (zm_V zT_X10_paste zW_M) (16, [some (.ref 0), some (.int 1), some (.int l2), some (.int l3), some (.int l4), some (.int l5), none], [.int 1], ((zm_w I 0 0 0), J)) = if ((1 : Int32) : Int32) = 0 then zm_V zT_X10_paste zW_M (19, [some (.ref 0), some (.int 1), some (.int l2), some (.int l3), some (.int l4), some (.int l5), none], [], ((zm_w I 0 0 0), J)) else zm_V zT_X10_paste zW_M (22, [some (.ref 0), some (.int 1), some (.int l2), some (.int l3), some (.int l4), some (.int l5), none], [], ((zm_w I 0 0 0), J)) from rfl)) ?_
  rw [if_neg (by decide)]
  show zm_V zT_X10_paste zW_M (22, [some (.ref 0), some (.int 1), some (.int l2), some (.int l3), some (.int l4), some (.int l5), none], [], ((zm_w I 0 0 0), J)) = _
  refine Eq.trans ((zm_V_eq _ _ _).trans (show zm_step zT_X10_paste zW_M (zm_V zT_X10_paste zW_M) (22, [some (.ref 0), some (.int 1), some (.int l2), some (.int l3), some (.int l4), some (.int l5), none], [], ((zm_w I 0 0 0), J)) = if (1 : Int32) < 0 ∨ 4 ≤ Int32.toNatClampNeg 1 then none else if (((zm_w I 0 0 0) 1 (Int32.toNatClampNeg 1)) : Int32) = (-1) then zm_V zT_X10_paste zW_M (42, [some (.ref 0), some (.int 1), some (.int l2), some (.int l3), some (.int l4), some (.int l5), none], [], ((zm_w I 0 0 0), J)) else zm_V zT_X10_paste zW_M (32, [some (.ref 0), some (.int 1), some (.int l2), some (.int l3), some (.int l4), some (.int l5), none], [], ((zm_w I 0 0 0), J)) from rfl)) ?_
  rw [if_neg (by decide)]
  rw [if_pos (by rw [show Int32.toNatClampNeg 1 = 1 by decide]; exact ((zy_M_t h).1 1 1 (by decide)).trans (by decide))]
  show zm_V zT_X10_paste zW_M (42, [some (.ref 0), some (.int 1), some (.int l2), some (.int l3), some (.int l4), some (.int l5), none], [], ((zm_w I 0 0 0), J)) = _
  refine Eq.trans ((zm_V_eq _ _ _).trans (show zm_step zT_X10_paste zW_M (zm_V zT_X10_paste zW_M) (42, [some (.ref 0), some (.int 1), some (.int l2), some (.int l3), some (.int l4), some (.int l5), none], [], ((zm_w I 0 0 0), J)) = some (some (.int (-6)), ((zm_w I 0 0 0), J)) from rfl)) ?_
  rfl
set_option maxRecDepth 20000 in
theorem zpm_paste_2n (l2 : Int32) {l3 : Int32} (hn : l3 < 0 ∨ 4 ≤ l3) (l4 l5 : Int32) : zF_X10_paste zW_M [.ref 0, .int 2, .int l2, .int l3, .int l4, .int l5] (I, J) = some (some (.int (-2)), ((zm_w I 0 0 0), J)) := by
  show zm_V zT_X10_paste zW_M (0, [some (.ref 0), some (.int 2), some (.int l2), some (.int l3), some (.int l4), some (.int l5), none], [], (I, J)) = _
  refine Eq.trans ((zm_V_eq _ _ _).trans ((show zm_step zT_X10_paste zW_M (zm_V zT_X10_paste zW_M) (0, [some (.ref 0), some (.int 2), some (.int l2), some (.int l3), some (.int l4), some (.int l5), none], [], (I, J)) = zm_app (1, none, true, [], zF_X10_isSlot) zW_M [.int 2] ((zm_w I 0 0 0), J) (fun v N => zm_V zT_X10_paste zW_M (9, [some (.ref 0), some (.int 2), some (.int l2), some (.int l3), some (.int l4), some (.int l5), none], v.toList ++ [], N)) from rfl).trans (zm_app_s rfl rfl (zgm_isSlot_y (by decide))))) ?_
  show zm_V zT_X10_paste zW_M (9, [some (.ref 0), some (.int 2), some (.int l2), some (.int l3), some (.int l4), some (.int l5), none], [.int 1], ((zm_w I 0 0 0), J)) = _
  refine Eq.trans ((zm_V_eq _ _ _).trans (show zm_step zT_X10_paste zW_M (zm_V zT_X10_paste zW_M) (9, [some (.ref 0), some (.int 2), some (.int l2), some (.int l3), some (.int l4), some (.int l5), none], [.int 1], ((zm_w I 0 0 0), J)) = if ((1 : Int32) : Int32) = 0 then zm_V zT_X10_paste zW_M (19, [some (.ref 0), some (.int 2), some (.int l2), some (.int l3), some (.int l4), some (.int l5), none], [], ((zm_w I 0 0 0), J)) else zm_V zT_X10_paste zW_M (12, [some (.ref 0), some (.int 2), some (.int l2), some (.int l3), some (.int l4), some (.int l5), none], [], ((zm_w I 0 0 0), J)) from rfl)) ?_
  rw [if_neg (by decide)]
  show zm_V zT_X10_paste zW_M (12, [some (.ref 0), some (.int 2), some (.int l2), some (.int l3), some (.int l4), some (.int l5), none], [], ((zm_w I 0 0 0), J)) = _
  refine Eq.trans ((zm_V_eq _ _ _).trans ((show zm_step zT_X10_paste zW_M (zm_V zT_X10_paste zW_M) (12, [some (.ref 0), some (.int 2), some (.int l2), some (.int l3), some (.int l4), some (.int l5), none], [], ((zm_w I 0 0 0), J)) = zm_app (1, none, true, [], zF_X10_isSlot) zW_M [.int l3] ((zm_w I 0 0 0), J) (fun v N => zm_V zT_X10_paste zW_M (16, [some (.ref 0), some (.int 2), some (.int l2), some (.int l3), some (.int l4), some (.int l5), none], v.toList ++ [], N)) from rfl).trans (zm_app_s rfl rfl (zgm_isSlot_n hn)))) ?_
  show zm_V zT_X10_paste zW_M (16, [some (.ref 0), some (.int 2), some (.int l2), some (.int l3), some (.int l4), some (.int l5), none], [.int 0], ((zm_w I 0 0 0), J)) = _
  refine Eq.trans ((zm_V_eq _ _ _).trans (show zm_step zT_X10_paste zW_M (zm_V zT_X10_paste zW_M) (16, [some (.ref 0), some (.int 2), some (.int l2), some (.int l3), some (.int l4), some (.int l5), none], [.int 0], ((zm_w I 0 0 0), J)) = if ((0 : Int32) : Int32) = 0 then zm_V zT_X10_paste zW_M (19, [some (.ref 0), some (.int 2), some (.int l2), some (.int l3), some (.int l4), some (.int l5), none], [], ((zm_w I 0 0 0), J)) else zm_V zT_X10_paste zW_M (22, [some (.ref 0), some (.int 2), some (.int l2), some (.int l3), some (.int l4), some (.int l5), none], [], ((zm_w I 0 0 0), J)) from rfl)) ?_
  rw [if_pos (by decide)]
  show zm_V zT_X10_paste zW_M (19, [some (.ref 0), some (.int 2), some (.int l2), some (.int l3), some (.int l4), some (.int l5), none], [], ((zm_w I 0 0 0), J)) = _
  refine Eq.trans ((zm_V_eq _ _ _).trans (show zm_step zT_X10_paste zW_M (zm_V zT_X10_paste zW_M) (19, [some (.ref 0), some (.int 2), some (.int l2), some (.int l3), some (.int l4), some (.int l5), none], [], ((zm_w I 0 0 0), J)) = some (some (.int (-2)), ((zm_w I 0 0 0), J)) from rfl)) ?_
  rfl
set_option maxRecDepth 20000 in
theorem zpm_paste_2y (h : zy_M I J) (l2 : Int32) {l3 : Int32} (hn : ¬ (l3 < 0 ∨ 4 ≤ l3)) (l4 l5 : Int32) : zF_X10_paste zW_M [.ref 0, .int 2, .int l2, .int l3, .int l4, .int l5] (I, J) = some (some (.int (-6)), ((zm_w I 0 0 0), J)) := by
  show zm_V zT_X10_paste zW_M (0, [some (.ref 0), some (.int 2), some (.int l2), some (.int l3), some (.int l4), some (.int l5), none], [], (I, J)) = _
  refine Eq.trans ((zm_V_eq _ _ _).trans ((show zm_step zT_X10_paste zW_M (zm_V zT_X10_paste zW_M) (0, [some (.ref 0), some (.int 2), some (.int l2), some (.int l3), some (.int l4), some (.int l5), none], [], (I, J)) = zm_app (1, none, true, [], zF_X10_isSlot) zW_M [.int 2] ((zm_w I 0 0 0), J) (fun v N => zm_V zT_X10_paste zW_M (9, [some (.ref 0), some (.int 2), some (.int l2), some (.int l3), some (.int l4), some (.int l5), none], v.toList ++ [], N)) from rfl).trans (zm_app_s rfl rfl (zgm_isSlot_y (by decide))))) ?_
  show zm_V zT_X10_paste zW_M (9, [some (.ref 0), some (.int 2), some (.int l2), some (.int l3), some (.int l4), some (.int l5), none], [.int 1], ((zm_w I 0 0 0), J)) = _
  refine Eq.trans ((zm_V_eq _ _ _).trans (show zm_step zT_X10_paste zW_M (zm_V zT_X10_paste zW_M) (9, [some (.ref 0), some (.int 2), some (.int l2), some (.int l3), some (.int l4), some (.int l5), none], [.int 1], ((zm_w I 0 0 0), J)) = if ((1 : Int32) : Int32) = 0 then zm_V zT_X10_paste zW_M (19, [some (.ref 0), some (.int 2), some (.int l2), some (.int l3), some (.int l4), some (.int l5), none], [], ((zm_w I 0 0 0), J)) else zm_V zT_X10_paste zW_M (12, [some (.ref 0), some (.int 2), some (.int l2), some (.int l3), some (.int l4), some (.int l5), none], [], ((zm_w I 0 0 0), J)) from rfl)) ?_
  rw [if_neg (by decide)]
  show zm_V zT_X10_paste zW_M (12, [some (.ref 0), some (.int 2), some (.int l2), some (.int l3), some (.int l4), some (.int l5), none], [], ((zm_w I 0 0 0), J)) = _
  refine Eq.trans ((zm_V_eq _ _ _).trans ((show zm_step zT_X10_paste zW_M (zm_V zT_X10_paste zW_M) (12, [some (.ref 0), some (.int 2), some (.int l2), some (.int l3), some (.int l4), some (.int l5), none], [], ((zm_w I 0 0 0), J)) = zm_app (1, none, true, [], zF_X10_isSlot) zW_M [.int l3] ((zm_w I 0 0 0), J) (fun v N => zm_V zT_X10_paste zW_M (16, [some (.ref 0), some (.int 2), some (.int l2), some (.int l3), some (.int l4), some (.int l5), none], v.toList ++ [], N)) from rfl).trans (zm_app_s rfl rfl (zgm_isSlot_y hn)))) ?_
  show zm_V zT_X10_paste zW_M (16, [some (.ref 0), some (.int 2), some (.int l2), some (.int l3), some (.int l4), some (.int l5), none], [.int 1], ((zm_w I 0 0 0), J)) = _
  refine Eq.trans ((zm_V_eq _ _ _).trans (show zm_step zT_X10_paste zW_M (zm_V zT_X10_paste zW_M) (16, [some (.ref 0), some (.int 2), some (.int l2), some (.int l3), some (.int l4), some (.int l5), none], [.int 1], ((zm_w I 0 0 0), J)) = if ((1 : Int32) : Int32) = 0 then zm_V zT_X10_paste zW_M (19, [some (.ref 0), some (.int 2), some (.int l2), some (.int l3), some (.int l4), some (.int l5), none], [], ((zm_w I 0 0 0), J)) else zm_V zT_X10_paste zW_M (22, [some (.ref 0), some (.int 2), some (.int l2), some (.int l3), some (.int l4), some (.int l5), none], [], ((zm_w I 0 0 0), J)) from rfl)) ?_
  rw [if_neg (by decide)]
  show zm_V zT_X10_paste zW_M (22, [some (.ref 0), some (.int 2), some (.int l2), some (.int l3), some (.int l4), some (.int l5), none], [], ((zm_w I 0 0 0), J)) = _
  refine Eq.trans ((zm_V_eq _ _ _).trans (show zm_step zT_X10_paste zW_M (zm_V zT_X10_paste zW_M) (22, [some (.ref 0), some (.int 2), some (.int l2), some (.int l3), some (.int l4), some (.int l5), none], [], ((zm_w I 0 0 0), J)) = if (2 : Int32) < 0 ∨ 4 ≤ Int32.toNatClampNeg 2 then none else if (((zm_w I 0 0 0) 1 (Int32.toNatClampNeg 2)) : Int32) = (-1) then zm_V zT_X10_paste zW_M (42, [some (.ref 0), some (.int 2), some (.int l2), some (.int l3), some (.int l4), some (.int l5), none], [], ((zm_w I 0 0 0), J)) else zm_V zT_X10_paste zW_M (32, [some (.ref 0), some (.int 2), some (.int l2), some (.int l3), some (.int l4), some (.int l5), none], [], ((zm_w I 0 0 0), J)) from rfl)) ?_
  rw [if_neg (by decide)]
  rw [if_pos (by rw [show Int32.toNatClampNeg 2 = 2 by decide]; exact ((zy_M_t h).1 1 2 (by decide)).trans (by decide))]
  show zm_V zT_X10_paste zW_M (42, [some (.ref 0), some (.int 2), some (.int l2), some (.int l3), some (.int l4), some (.int l5), none], [], ((zm_w I 0 0 0), J)) = _
  refine Eq.trans ((zm_V_eq _ _ _).trans (show zm_step zT_X10_paste zW_M (zm_V zT_X10_paste zW_M) (42, [some (.ref 0), some (.int 2), some (.int l2), some (.int l3), some (.int l4), some (.int l5), none], [], ((zm_w I 0 0 0), J)) = some (some (.int (-6)), ((zm_w I 0 0 0), J)) from rfl)) ?_
  rfl
set_option maxRecDepth 20000 in
theorem zpm_paste_3n (l2 : Int32) {l3 : Int32} (hn : l3 < 0 ∨ 4 ≤ l3) (l4 l5 : Int32) : zF_X10_paste zW_M [.ref 0, .int 3, .int l2, .int l3, .int l4, .int l5] (I, J) = some (some (.int (-2)), ((zm_w I 0 0 0), J)) := by
  show zm_V zT_X10_paste zW_M (0, [some (.ref 0), some (.int 3), some (.int l2), some (.int l3), some (.int l4), some (.int l5), none], [], (I, J)) = _
  refine Eq.trans ((zm_V_eq _ _ _).trans ((show zm_step zT_X10_paste zW_M (zm_V zT_X10_paste zW_M) (0, [some (.ref 0), some (.int 3), some (.int l2), some (.int l3), some (.int l4), some (.int l5), none], [], (I, J)) = zm_app (1, none, true, [], zF_X10_isSlot) zW_M [.int 3] ((zm_w I 0 0 0), J) (fun v N => zm_V zT_X10_paste zW_M (9, [some (.ref 0), some (.int 3), some (.int l2), some (.int l3), some (.int l4), some (.int l5), none], v.toList ++ [], N)) from rfl).trans (zm_app_s rfl rfl (zgm_isSlot_y (by decide))))) ?_
  show zm_V zT_X10_paste zW_M (9, [some (.ref 0), some (.int 3), some (.int l2), some (.int l3), some (.int l4), some (.int l5), none], [.int 1], ((zm_w I 0 0 0), J)) = _
  refine Eq.trans ((zm_V_eq _ _ _).trans (show zm_step zT_X10_paste zW_M (zm_V zT_X10_paste zW_M) (9, [some (.ref 0), some (.int 3), some (.int l2), some (.int l3), some (.int l4), some (.int l5), none], [.int 1], ((zm_w I 0 0 0), J)) = if ((1 : Int32) : Int32) = 0 then zm_V zT_X10_paste zW_M (19, [some (.ref 0), some (.int 3), some (.int l2), some (.int l3), some (.int l4), some (.int l5), none], [], ((zm_w I 0 0 0), J)) else zm_V zT_X10_paste zW_M (12, [some (.ref 0), some (.int 3), some (.int l2), some (.int l3), some (.int l4), some (.int l5), none], [], ((zm_w I 0 0 0), J)) from rfl)) ?_
  rw [if_neg (by decide)]
  show zm_V zT_X10_paste zW_M (12, [some (.ref 0), some (.int 3), some (.int l2), some (.int l3), some (.int l4), some (.int l5), none], [], ((zm_w I 0 0 0), J)) = _
  refine Eq.trans ((zm_V_eq _ _ _).trans ((show zm_step zT_X10_paste zW_M (zm_V zT_X10_paste zW_M) (12, [some (.ref 0), some (.int 3), some (.int l2), some (.int l3), some (.int l4), some (.int l5), none], [], ((zm_w I 0 0 0), J)) = zm_app (1, none, true, [], zF_X10_isSlot) zW_M [.int l3] ((zm_w I 0 0 0), J) (fun v N => zm_V zT_X10_paste zW_M (16, [some (.ref 0), some (.int 3), some (.int l2), some (.int l3), some (.int l4), some (.int l5), none], v.toList ++ [], N)) from rfl).trans (zm_app_s rfl rfl (zgm_isSlot_n hn)))) ?_
  show zm_V zT_X10_paste zW_M (16, [some (.ref 0), some (.int 3), some (.int l2), some (.int l3), some (.int l4), some (.int l5), none], [.int 0], ((zm_w I 0 0 0), J)) = _
  refine Eq.trans ((zm_V_eq _ _ _).trans (show zm_step zT_X10_paste zW_M (zm_V zT_X10_paste zW_M) (16, [some (.ref 0), some (.int 3), some (.int l2), some (.int l3), some (.int l4), some (.int l5), none], [.int 0], ((zm_w I 0 0 0), J)) = if ((0 : Int32) : Int32) = 0 then zm_V zT_X10_paste zW_M (19, [some (.ref 0), some (.int 3), some (.int l2), some (.int l3), some (.int l4), some (.int l5), none], [], ((zm_w I 0 0 0), J)) else zm_V zT_X10_paste zW_M (22, [some (.ref 0), some (.int 3), some (.int l2), some (.int l3), some (.int l4), some (.int l5), none], [], ((zm_w I 0 0 0), J)) from rfl)) ?_
  rw [if_pos (by decide)]
  show zm_V zT_X10_paste zW_M (19, [some (.ref 0), some (.int 3), some (.int l2), some (.int l3), some (.int l4), some (.int l5), none], [], ((zm_w I 0 0 0), J)) = _
  refine Eq.trans ((zm_V_eq _ _ _).trans (show zm_step zT_X10_paste zW_M (zm_V zT_X10_paste zW_M) (19, [some (.ref 0), some (.int 3), some (.int l2), some (.int l3), some (.int l4), some (.int l5), none], [], ((zm_w I 0 0 0), J)) = some (some (.int (-2)), ((zm_w I 0 0 0), J)) from rfl)) ?_
  rfl
set_option maxRecDepth 20000 in
theorem zpm_paste_3y (h : zy_M I J) (l2 : Int32) {l3 : Int32} (hn : ¬ (l3 < 0 ∨ 4 ≤ l3)) (l4 l5 : Int32) : zF_X10_paste zW_M [.ref 0, .int 3, .int l2, .int l3, .int l4, .int l5] (I, J) = some (some (.int (-6)), ((zm_w I 0 0 0), J)) := by
  show zm_V zT_X10_paste zW_M (0, [some (.ref 0), some (.int 3), some (.int l2), some (.int l3), some (.int l4), some (.int l5), none], [], (I, J)) = _
  refine Eq.trans ((zm_V_eq _ _ _).trans ((show zm_step zT_X10_paste zW_M (zm_V zT_X10_paste zW_M) (0, [some (.ref 0), some (.int 3), some (.int l2), some (.int l3), some (.int l4), some (.int l5), none], [], (I, J)) = zm_app (1, none, true, [], zF_X10_isSlot) zW_M [.int 3] ((zm_w I 0 0 0), J) (fun v N => zm_V zT_X10_paste zW_M (9, [some (.ref 0), some (.int 3), some (.int l2), some (.int l3), some (.int l4), some (.int l5), none], v.toList ++ [], N)) from rfl).trans (zm_app_s rfl rfl (zgm_isSlot_y (by decide))))) ?_
  show zm_V zT_X10_paste zW_M (9, [some (.ref 0), some (.int 3), some (.int l2), some (.int l3), some (.int l4), some (.int l5), none], [.int 1], ((zm_w I 0 0 0), J)) = _
  refine Eq.trans ((zm_V_eq _ _ _).trans (show zm_step zT_X10_paste zW_M (zm_V zT_X10_paste zW_M) (9, [some (.ref 0), some (.int 3), some (.int l2), some (.int l3), some (.int l4), some (.int l5), none], [.int 1], ((zm_w I 0 0 0), J)) = if ((1 : Int32) : Int32) = 0 then zm_V zT_X10_paste zW_M (19, [some (.ref 0), some (.int 3), some (.int l2), some (.int l3), some (.int l4), some (.int l5), none], [], ((zm_w I 0 0 0), J)) else zm_V zT_X10_paste zW_M (12, [some (.ref 0), some (.int 3), some (.int l2), some (.int l3), some (.int l4), some (.int l5), none], [], ((zm_w I 0 0 0), J)) from rfl)) ?_
  rw [if_neg (by decide)]
  show zm_V zT_X10_paste zW_M (12, [some (.ref 0), some (.int 3), some (.int l2), some (.int l3), some (.int l4), some (.int l5), none], [], ((zm_w I 0 0 0), J)) = _
  refine Eq.trans ((zm_V_eq _ _ _).trans ((show zm_step zT_X10_paste zW_M (zm_V zT_X10_paste zW_M) (12, [some (.ref 0), some (.int 3), some (.int l2), some (.int l3), some (.int l4), some (.int l5), none], [], ((zm_w I 0 0 0), J)) = zm_app (1, none, true, [], zF_X10_isSlot) zW_M [.int l3] ((zm_w I 0 0 0), J) (fun v N => zm_V zT_X10_paste zW_M (16, [some (.ref 0), some (.int 3), some (.int l2), some (.int l3), some (.int l4), some (.int l5), none], v.toList ++ [], N)) from rfl).trans (zm_app_s rfl rfl (zgm_isSlot_y hn)))) ?_
  show zm_V zT_X10_paste zW_M (16, [some (.ref 0), some (.int 3), some (.int l2), some (.int l3), some (.int l4), some (.int l5), none], [.int 1], ((zm_w I 0 0 0), J)) = _
  refine Eq.trans ((zm_V_eq _ _ _).trans (show zm_step zT_X10_paste zW_M (zm_V zT_X10_paste zW_M) (16, [some (.ref 0), some (.int 3), some (.int l2), some (.int l3), some (.int l4), some (.int l5), none], [.int 1], ((zm_w I 0 0 0), J)) = if ((1 : Int32) : Int32) = 0 then zm_V zT_X10_paste zW_M (19, [some (.ref 0), some (.int 3), some (.int l2), some (.int l3), some (.int l4), some (.int l5), none], [], ((zm_w I 0 0 0), J)) else zm_V zT_X10_paste zW_M (22, [some (.ref 0), some (.int 3), some (.int l2), some (.int l3), some (.int l4), some (.int l5), none], [], ((zm_w I 0 0 0), J)) from rfl)) ?_
  rw [if_neg (by decide)]
  show zm_V zT_X10_paste zW_M (22, [some (.ref 0), some (.int 3), some (.int l2), some (.int l3), some (.int l4), some (.int l5), none], [], ((zm_w I 0 0 0), J)) = _
  refine Eq.trans ((zm_V_eq _ _ _).trans (show zm_step zT_X10_paste zW_M (zm_V zT_X10_paste zW_M) (22, [some (.ref 0), some (.int 3), some (.int l2), some (.int l3), some (.int l4), some (.int l5), none], [], ((zm_w I 0 0 0), J)) = if (3 : Int32) < 0 ∨ 4 ≤ Int32.toNatClampNeg 3 then none else if (((zm_w I 0 0 0) 1 (Int32.toNatClampNeg 3)) : Int32) = (-1) then zm_V zT_X10_paste zW_M (42, [some (.ref 0), some (.int 3), some (.int l2), some (.int l3), some (.int l4), some (.int l5), none], [], ((zm_w I 0 0 0), J)) else zm_V zT_X10_paste zW_M (32, [some (.ref 0), some (.int 3), some (.int l2), some (.int l3), some (.int l4), some (.int l5), none], [], ((zm_w I 0 0 0), J)) from rfl)) ?_
  rw [if_neg (by decide)]
  rw [if_pos (by rw [show Int32.toNatClampNeg 3 = 3 by decide]; exact ((zy_M_t h).1 1 3 (by decide)).trans (by decide))]
  show zm_V zT_X10_paste zW_M (42, [some (.ref 0), some (.int 3), some (.int l2), some (.int l3), some (.int l4), some (.int l5), none], [], ((zm_w I 0 0 0), J)) = _
  refine Eq.trans ((zm_V_eq _ _ _).trans (show zm_step zT_X10_paste zW_M (zm_V zT_X10_paste zW_M) (42, [some (.ref 0), some (.int 3), some (.int l2), some (.int l3), some (.int l4), some (.int l5), none], [], ((zm_w I 0 0 0), J)) = some (some (.int (-6)), ((zm_w I 0 0 0), J)) from rfl)) ?_
  rfl
end ZYN
theorem zo_laws {I : Nat → Nat → Int32} {J : Nat → Nat → Int64} (hX : zy_X I J) (l1 : Int32) : ∃ (v : Int32) (N : zm_I), zF_X9_laws zW_X [.ref 0, .int l1] (I, J) = some (some (.int v), N) ∧ ∀ (I' : Nat → Nat → Int32) (J' : Nat → Nat → Int64), zy_M I' J' → ∃ N' : zm_I, zF_X10_laws zW_M [.ref 0, .int l1] (I', J') = some (some (.int v), N') := ⟨_, _, zpx_laws hX l1, fun _ _ hM => ⟨_, zpm_laws hM l1⟩⟩
theorem zo_sat {I : Nat → Nat → Int32} {J : Nat → Nat → Int64} (hX : zy_X I J) (l1 l2 : Int32) : ∃ (v : Int32) (N : zm_I), zF_X9_sat zW_X [.ref 0, .int l1, .int l2] (I, J) = some (some (.int v), N) ∧ ∀ (I' : Nat → Nat → Int32) (J' : Nat → Nat → Int64), zy_M I' J' → ∃ N' : zm_I, zF_X10_sat zW_M [.ref 0, .int l1, .int l2] (I', J') = some (some (.int v), N') := ⟨_, _, zpx_sat hX l1 l2, fun _ _ hM => ⟨_, zpm_sat hM l1 l2⟩⟩
theorem zo_ask {I : Nat → Nat → Int32} {J : Nat → Nat → Int64} (hX : zy_X I J) (l1 l2 : Int32) : ∃ (v : Int32) (N : zm_I), zF_X9_ask zW_X [.ref 0, .int l1, .int l2] (I, J) = some (some (.int v), N) ∧ ∀ (I' : Nat → Nat → Int32) (J' : Nat → Nat → Int64), zy_M I' J' → ∃ N' : zm_I, zF_X10_ask zW_M [.ref 0, .int l1, .int l2] (I', J') = some (some (.int v), N') := ⟨_, _, zpx_ask hX l1 l2, fun _ _ hM => ⟨_, zpm_ask hM l1 l2⟩⟩
theorem zo_marks {I : Nat → Nat → Int32} {J : Nat → Nat → Int64} (hX : zy_X I J) (l1 : Int32) : ∃ (v : Int32) (N : zm_I), zF_X9_marks zW_X [.ref 0, .int l1] (I, J) = some (some (.int v), N) ∧ ∀ (I' : Nat → Nat → Int32) (J' : Nat → Nat → Int64), zy_M I' J' → ∃ N' : zm_I, zF_X10_marks zW_M [.ref 0, .int l1] (I', J') = some (some (.int v), N') := ⟨_, _, zpx_marks hX l1, fun _ _ hM => ⟨_, zpm_marks hM l1⟩⟩
theorem zo_mark {I : Nat → Nat → Int32} {J : Nat → Nat → Int64} (hX : zy_X I J) (l1 l2 : Int32) : ∃ (v : Int32) (N : zm_I), zF_X9_mark zW_X [.ref 0, .int l1, .int l2] (I, J) = some (some (.int v), N) ∧ ∀ (I' : Nat → Nat → Int32) (J' : Nat → Nat → Int64), zy_M I' J' → ∃ N' : zm_I, zF_X10_mark zW_M [.ref 0, .int l1, .int l2] (I', J') = some (some (.int v), N') := ⟨_, _, zpx_mark hX l1 l2, fun _ _ hM => ⟨_, zpm_mark hM l1 l2⟩⟩
theorem zo_under {I : Nat → Nat → Int32} {J : Nat → Nat → Int64} (hX : zy_X I J) (l1 l2 : Int32) : ∃ (v : Int32) (N : zm_I), zF_X9_under zW_X [.ref 0, .int l1, .int l2] (I, J) = some (some (.int v), N) ∧ ∀ (I' : Nat → Nat → Int32) (J' : Nat → Nat → Int64), zy_M I' J' → ∃ N' : zm_I, zF_X10_under zW_M [.ref 0, .int l1, .int l2] (I', J') = some (some (.int v), N') := ⟨_, _, zpx_under hX l1 l2, fun _ _ hM => ⟨_, zpm_under hM l1 l2⟩⟩
theorem zo_helps {I : Nat → Nat → Int32} {J : Nat → Nat → Int64} (hX : zy_X I J) (l1 : Int32) : ∃ (v : Int32) (N : zm_I), zF_X9_helps zW_X [.ref 0, .int l1] (I, J) = some (some (.int v), N) ∧ ∀ (I' : Nat → Nat → Int32) (J' : Nat → Nat → Int64), zy_M I' J' → ∃ N' : zm_I, zF_X10_helps zW_M [.ref 0, .int l1] (I', J') = some (some (.int v), N') := ⟨_, _, zpx_helps hX l1, fun _ _ hM => ⟨_, zpm_helps hM l1⟩⟩
theorem zo_luck {I : Nat → Nat → Int32} {J : Nat → Nat → Int64} (hX : zy_X I J) (l1 l2 l3 : Int32) : ∃ (v : Int32) (N : zm_I), zF_X9_luck zW_X [.ref 0, .int l1, .int l2, .int l3] (I, J) = some (some (.int v), N) ∧ ∀ (I' : Nat → Nat → Int32) (J' : Nat → Nat → Int64), zy_M I' J' → ∃ N' : zm_I, zF_X10_luck zW_M [.ref 0, .int l1, .int l2, .int l3] (I', J') = some (some (.int v), N') := ⟨_, _, zpx_luck hX l1 l2 l3, fun _ _ hM => ⟨_, zpm_luck hM l1 l2 l3⟩⟩
theorem zo_write {I : Nat → Nat → Int32} {J : Nat → Nat → Int64} (hX : zy_X I J) (l1 l2 : Int32) (l3 : Int64) : ∃ (v : Int32) (N : zm_I), zF_X9_write zW_X [.ref 0, .int l1, .int l2, .long l3] (I, J) = some (some (.int v), N) ∧ ∀ (I' : Nat → Nat → Int32) (J' : Nat → Nat → Int64), zy_M I' J' → ∃ N' : zm_I, zF_X10_write zW_M [.ref 0, .int l1, .int l2, .long l3] (I', J') = some (some (.int v), N') := by
  by_cases hn : l1 < 0 ∨ 4 ≤ l1
  · exact ⟨_, _, zpx_write_n hn l2 l3, fun _ _ _ => ⟨_, zpm_write_n hn l2 l3⟩⟩
  · rcases zi_four (fun q => hn (Or.inl q)) (fun q => hn (Or.inr q)) with rfl | rfl | rfl | rfl
    · exact ⟨_, _, zpx_write_54 hX l2 l3, fun _ _ hM => ⟨_, zpm_write_0 hM l2 l3⟩⟩
    · exact ⟨_, _, zpx_write_56 hX l2 l3, fun _ _ hM => ⟨_, zpm_write_1 hM l2 l3⟩⟩
    · exact ⟨_, _, zpx_write_58 hX l2 l3, fun _ _ hM => ⟨_, zpm_write_2 hM l2 l3⟩⟩
    · exact ⟨_, _, zpx_write_60 hX l2 l3, fun _ _ hM => ⟨_, zpm_write_3 hM l2 l3⟩⟩
theorem zo_paste {I : Nat → Nat → Int32} {J : Nat → Nat → Int64} (hX : zy_X I J) (l1 l2 l3 l4 l5 : Int32) : ∃ (v : Int32) (N : zm_I), zF_X9_paste zW_X [.ref 0, .int l1, .int l2, .int l3, .int l4, .int l5] (I, J) = some (some (.int v), N) ∧ ∀ (I' : Nat → Nat → Int32) (J' : Nat → Nat → Int64), zy_M I' J' → ∃ N' : zm_I, zF_X10_paste zW_M [.ref 0, .int l1, .int l2, .int l3, .int l4, .int l5] (I', J') = some (some (.int v), N') := by
  by_cases hn : l1 < 0 ∨ 4 ≤ l1
  · by_cases hq : l3 < 0 ∨ 4 ≤ l3
    · exact ⟨_, _, zpx_paste_n hn l2 l3 l4 l5 (zgx_rowAt_n hq), fun _ _ _ => ⟨_, zpm_paste_n hn l2 l3 l4 l5⟩⟩
    · obtain ⟨hh, -, hr⟩ := zgx_rowAt_r (I := I) (J := J) (fun q => hq (Or.inl q)) (fun q => hq (Or.inr q))
      exact ⟨_, _, zpx_paste_m hn l2 l3 l4 l5 hr, fun _ _ _ => ⟨_, zpm_paste_n hn l2 l3 l4 l5⟩⟩
  · by_cases hq : l3 < 0 ∨ 4 ≤ l3
    · rcases zi_four (fun q => hn (Or.inl q)) (fun q => hn (Or.inr q)) with rfl | rfl | rfl | rfl
      · exact ⟨_, _, zpx_paste_54n l2 l3 l4 l5 (zgx_rowAt_n hq), fun _ _ _ => ⟨_, zpm_paste_0n l2 hq l4 l5⟩⟩
      · exact ⟨_, _, zpx_paste_56n l2 l3 l4 l5 (zgx_rowAt_n hq), fun _ _ _ => ⟨_, zpm_paste_1n l2 hq l4 l5⟩⟩
      · exact ⟨_, _, zpx_paste_58n l2 l3 l4 l5 (zgx_rowAt_n hq), fun _ _ _ => ⟨_, zpm_paste_2n l2 hq l4 l5⟩⟩
      · exact ⟨_, _, zpx_paste_60n l2 l3 l4 l5 (zgx_rowAt_n hq), fun _ _ _ => ⟨_, zpm_paste_3n l2 hq l4 l5⟩⟩
    · obtain ⟨hh, -, hr⟩ := zgx_rowAt_r (I := I) (J := J) (fun q => hq (Or.inl q)) (fun q => hq (Or.inr q))
      rcases zi_four (fun q => hn (Or.inl q)) (fun q => hn (Or.inr q)) with rfl | rfl | rfl | rfl
      · exact ⟨_, _, zpx_paste_54r hX l2 l3 l4 l5 hr, fun _ _ hM => ⟨_, zpm_paste_0y hM l2 hq l4 l5⟩⟩
      · exact ⟨_, _, zpx_paste_56r hX l2 l3 l4 l5 hr, fun _ _ hM => ⟨_, zpm_paste_1y hM l2 hq l4 l5⟩⟩
      · exact ⟨_, _, zpx_paste_58r hX l2 l3 l4 l5 hr, fun _ _ hM => ⟨_, zpm_paste_2y hM l2 hq l4 l5⟩⟩
      · exact ⟨_, _, zpx_paste_60r hX l2 l3 l4 l5 hr, fun _ _ hM => ⟨_, zpm_paste_3y hM l2 hq l4 l5⟩⟩
theorem zo_fault {I : Nat → Nat → Int32} {J : Nat → Nat → Int64} (hX : zy_X I J) (l1 : Int32) : ∃ (v : Int32) (N : zm_I), zF_X9_fault zW_X [.ref 0, .int l1] (I, J) = some (some (.int v), N) ∧ ∀ (I' : Nat → Nat → Int32) (J' : Nat → Nat → Int64), zy_M I' J' → ∃ N' : zm_I, zF_X10_fault zW_M [.ref 0, .int l1] (I', J') = some (some (.int v), N') := by
  have x2 : I 51 2 = 0 := (hX.1 51 2 (by decide)).trans (by decide)
  have x3 : I 51 3 = -1 := (hX.1 51 3 (by decide)).trans (by decide)
  by_cases h0 : l1 = 0
  · refine ⟨0, (I, J), by rw [zf_X9_fault_X, zq_X9_fault_X_0, if_pos h0, zq_X9_fault_X_4, x2], fun I' J' hM => ⟨(zm_w I' 0 0 0, J'), ?_⟩⟩
    rw [zf_X10_fault_M, zq_X10_fault_M_0, if_pos h0, zq_X10_fault_M_9, zq_X10_fault_M_29, ((zy_M_t hM).1 0 14 (by decide)).trans (show zc_M 0 14 = 0 by decide)]
  · by_cases h1 : l1 = 1
    · refine ⟨-1, (I, J), by rw [zf_X9_fault_X, zq_X9_fault_X_0, if_neg h0, zq_X9_fault_X_12, if_pos h1, zq_X9_fault_X_17, zq_X9_fault_X_28, x3], fun I' J' hM => ⟨(zm_w I' 0 0 0, J'), ?_⟩⟩
      rw [zf_X10_fault_M, zq_X10_fault_M_0, if_neg h0, zq_X10_fault_M_16, if_pos h1, zq_X10_fault_M_21, zq_X10_fault_M_29, ((zy_M_t hM).1 0 15 (by decide)).trans (show zc_M 0 15 = -1 by decide)]
    · refine ⟨-1, (I, J), by rw [zf_X9_fault_X, zq_X9_fault_X_0, if_neg h0, zq_X9_fault_X_12, if_neg h1, zq_X9_fault_X_27, zq_X9_fault_X_28], fun I' J' hM => ⟨(zm_w I' 0 0 0, J'), ?_⟩⟩
      rw [zf_X10_fault_M, zq_X10_fault_M_0, if_neg h0, zq_X10_fault_M_16, if_neg h1, zq_X10_fault_M_28, zq_X10_fault_M_29]
theorem zo_end {I : Nat → Nat → Int32} {J : Nat → Nat → Int64} (hX : zy_X I J) (l1 : Int32) : ∃ (v : Int32) (N : zm_I), zF_X9_end zW_X [.ref 0, .int l1] (I, J) = some (some (.int v), N) ∧ ∀ (I' : Nat → Nat → Int32) (J' : Nat → Nat → Int64), zy_M I' J' → ∃ N' : zm_I, zF_X10_end zW_M [.ref 0, .int l1] (I', J') = some (some (.int v), N') := by
  have x1 : I 51 1 = 0 := (hX.1 51 1 (by decide)).trans (by decide)
  have m6 : ∀ (I' : Nat → Nat → Int32) (J' : Nat → Nat → Int64), zy_M I' J' → zF_X10_in zW_M [.long (Int32.toInt64 l1), .long 0, .long (Int32.toInt64 ((zm_w I' 0 0 0) 0 6))] ((zm_w I' 0 0 0), J') = some (some (.int (if l1 < 0 then 0 else if 0 < l1 then 0 else 1)), ((zm_w I' 0 0 0), J')) := fun I' J' hM => by
    rw [((zy_M_t hM).1 0 6 (by decide)).trans (show zc_M 0 6 = 0 by decide)]
    exact zgm_in32 l1 0 0 (by decide) rfl
  by_cases h0 : l1 < 0
  · refine ⟨-1, (I, J), by rw [zf_X9_end_X, zq_X9_end_X_0, if_pos h0, zq_X9_end_X_15], fun I' J' hM => ⟨(zm_w I' 0 0 0, J'), ?_⟩⟩
    have hi := m6 I' J' hM
    rw [if_pos h0] at hi
    rw [zf_X10_end_M, zc_X10_end_M_0 _ _ _ hi, zq_X10_end_M_16, if_pos rfl, zq_X10_end_M_19]
  · by_cases h1 : l1 ≤ 0
    · refine ⟨l1, (zm_w I 51 1 l1, J), by rw [zf_X9_end_X, zq_X9_end_X_0, if_neg h0, zq_X9_end_X_4, x1, if_pos h1, zq_X9_end_X_17], fun I' J' hM => ⟨(zm_w (zm_w I' 0 0 0) 0 6 l1, J'), ?_⟩⟩
      have hi := m6 I' J' hM
      rw [if_neg h0, if_neg (Int32.not_lt.mpr h1)] at hi
      rw [zf_X10_end_M, zc_X10_end_M_0 _ _ _ hi, zq_X10_end_M_16, if_neg (by decide), zq_X10_end_M_21]
    · refine ⟨-1, (I, J), by rw [zf_X9_end_X, zq_X9_end_X_0, if_neg h0, zq_X9_end_X_4, x1, if_neg h1, zq_X9_end_X_15], fun I' J' hM => ⟨(zm_w I' 0 0 0, J'), ?_⟩⟩
      have hi := m6 I' J' hM
      rw [if_neg h0, if_pos (Int32.not_le.mp h1)] at hi
      rw [zf_X10_end_M, zc_X10_end_M_0 _ _ _ hi, zq_X10_end_M_16, if_pos rfl, zq_X10_end_M_19]
