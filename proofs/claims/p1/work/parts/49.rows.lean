/-! A FRESH OBJECT: rows, and what asks for them (printed by program, wip/gen/gen49.py) -/
theorem zi_four {l : Int32} (h0 : ¬ l < 0) (h4 : ¬ 4 ≤ l) : l = 0 ∨ l = 1 ∨ l = 2 ∨ l = 3 := by
  have h0 := Int32.not_lt.mp h0
  have h4 := Int32.not_le.mp h4
  rw [Int32.le_iff_toInt_le] at h0
  rw [Int32.lt_iff_toInt_lt] at h4
  have e0 : (0 : Int32).toInt = 0 := by decide
  have e4 : (4 : Int32).toInt = 4 := by decide
  have h : l.toInt = 0 ∨ l.toInt = 1 ∨ l.toInt = 2 ∨ l.toInt = 3 := by omega
  rcases h with h | h | h | h
  · exact Or.inl (Int32.toInt_inj.mp (h.trans (by decide)))
  · exact Or.inr (Or.inl (Int32.toInt_inj.mp (h.trans (by decide))))
  · exact Or.inr (Or.inr (Or.inl (Int32.toInt_inj.mp (h.trans (by decide)))))
  · exact Or.inr (Or.inr (Or.inr (Int32.toInt_inj.mp (h.trans (by decide)))))
section ZYR
variable {I : Nat → Nat → Int32} {J : Nat → Nat → Int64}
set_option maxRecDepth 20000 in
theorem zgx_rowAt_1 {l : Int32} (h : l < 0) : zF_X9_rowAt zW_X [.ref 0, .int l] (I, J) = some (some .null, (I, J)) := by
  show zm_V zT_X9_rowAt zW_X (0, [some (.ref 0), some (.int l)], [], (I, J)) = _
  refine Eq.trans ((zm_V_eq _ _ _).trans (show zm_step zT_X9_rowAt zW_X (zm_V zT_X9_rowAt zW_X) (0, [some (.ref 0), some (.int l)], [], (I, J)) = if (l : Int32) < 0 then zm_V zT_X9_rowAt zW_X (18, [some (.ref 0), some (.int l)], [], (I, J)) else zm_V zT_X9_rowAt zW_X (4, [some (.ref 0), some (.int l)], [], (I, J)) from rfl)) ?_
  rw [if_pos (h)]
  show zm_V zT_X9_rowAt zW_X (18, [some (.ref 0), some (.int l)], [], (I, J)) = _
  refine Eq.trans ((zm_V_eq _ _ _).trans (show zm_step zT_X9_rowAt zW_X (zm_V zT_X9_rowAt zW_X) (18, [some (.ref 0), some (.int l)], [], (I, J)) = zm_V zT_X9_rowAt zW_X (19, [some (.ref 0), some (.int l)], [.null], (I, J)) from rfl)) ?_
  show zm_V zT_X9_rowAt zW_X (19, [some (.ref 0), some (.int l)], [.null], (I, J)) = _
  refine Eq.trans ((zm_V_eq _ _ _).trans (show zm_step zT_X9_rowAt zW_X (zm_V zT_X9_rowAt zW_X) (19, [some (.ref 0), some (.int l)], [.null], (I, J)) = some (some (.null), (I, J)) from rfl)) ?_
  rfl
set_option maxRecDepth 20000 in
theorem zgx_rowAt_2 {l : Int32} (h0 : ¬ l < 0) (h : 4 ≤ l) : zF_X9_rowAt zW_X [.ref 0, .int l] (I, J) = some (some .null, (I, J)) := by
  show zm_V zT_X9_rowAt zW_X (0, [some (.ref 0), some (.int l)], [], (I, J)) = _
  refine Eq.trans ((zm_V_eq _ _ _).trans (show zm_step zT_X9_rowAt zW_X (zm_V zT_X9_rowAt zW_X) (0, [some (.ref 0), some (.int l)], [], (I, J)) = if (l : Int32) < 0 then zm_V zT_X9_rowAt zW_X (18, [some (.ref 0), some (.int l)], [], (I, J)) else zm_V zT_X9_rowAt zW_X (4, [some (.ref 0), some (.int l)], [], (I, J)) from rfl)) ?_
  rw [if_neg (h0)]
  show zm_V zT_X9_rowAt zW_X (4, [some (.ref 0), some (.int l)], [], (I, J)) = _
  refine Eq.trans ((zm_V_eq _ _ _).trans (show zm_step zT_X9_rowAt zW_X (zm_V zT_X9_rowAt zW_X) (4, [some (.ref 0), some (.int l)], [], (I, J)) = if (4 : Int32) ≤ l then zm_V zT_X9_rowAt zW_X (18, [some (.ref 0), some (.int l)], [], (I, J)) else zm_V zT_X9_rowAt zW_X (9, [some (.ref 0), some (.int l)], [], (I, J)) from rfl)) ?_
  rw [if_pos (h)]
  show zm_V zT_X9_rowAt zW_X (18, [some (.ref 0), some (.int l)], [], (I, J)) = _
  refine Eq.trans ((zm_V_eq _ _ _).trans (show zm_step zT_X9_rowAt zW_X (zm_V zT_X9_rowAt zW_X) (18, [some (.ref 0), some (.int l)], [], (I, J)) = zm_V zT_X9_rowAt zW_X (19, [some (.ref 0), some (.int l)], [.null], (I, J)) from rfl)) ?_
  show zm_V zT_X9_rowAt zW_X (19, [some (.ref 0), some (.int l)], [.null], (I, J)) = _
  refine Eq.trans ((zm_V_eq _ _ _).trans (show zm_step zT_X9_rowAt zW_X (zm_V zT_X9_rowAt zW_X) (19, [some (.ref 0), some (.int l)], [.null], (I, J)) = some (some (.null), (I, J)) from rfl)) ?_
  rfl
theorem zgx_rowAt_n {l : Int32} (h : l < 0 ∨ 4 ≤ l) : zF_X9_rowAt zW_X [.ref 0, .int l] (I, J) = some (some .null, (I, J)) := by
  by_cases h0 : l < 0
  · exact zgx_rowAt_1 h0
  · exact zgx_rowAt_2 h0 (h.resolve_left h0)
set_option maxRecDepth 20000 in
theorem zgx_rowAt_r0 : zF_X9_rowAt zW_X [.ref 0, .int 0] (I, J) = some (some (.ref 54), (I, J)) := by
  show zm_V zT_X9_rowAt zW_X (0, [some (.ref 0), some (.int 0)], [], (I, J)) = _
  refine Eq.trans ((zm_V_eq _ _ _).trans (show zm_step zT_X9_rowAt zW_X (zm_V zT_X9_rowAt zW_X) (0, [some (.ref 0), some (.int 0)], [], (I, J)) = if ((0 : Int32) : Int32) < 0 then zm_V zT_X9_rowAt zW_X (18, [some (.ref 0), some (.int 0)], [], (I, J)) else zm_V zT_X9_rowAt zW_X (4, [some (.ref 0), some (.int 0)], [], (I, J)) from rfl)) ?_
  rw [if_neg (by decide)]
  show zm_V zT_X9_rowAt zW_X (4, [some (.ref 0), some (.int 0)], [], (I, J)) = _
  refine Eq.trans ((zm_V_eq _ _ _).trans (show zm_step zT_X9_rowAt zW_X (zm_V zT_X9_rowAt zW_X) (4, [some (.ref 0), some (.int 0)], [], (I, J)) = if (4 : Int32) ≤ (0 : Int32) then zm_V zT_X9_rowAt zW_X (18, [some (.ref 0), some (.int 0)], [], (I, J)) else zm_V zT_X9_rowAt zW_X (9, [some (.ref 0), some (.int 0)], [], (I, J)) from rfl)) ?_
  rw [if_neg (by decide)]
  show zm_V zT_X9_rowAt zW_X (9, [some (.ref 0), some (.int 0)], [], (I, J)) = _
  refine Eq.trans ((zm_V_eq _ _ _).trans (show zm_step zT_X9_rowAt zW_X (zm_V zT_X9_rowAt zW_X) (9, [some (.ref 0), some (.int 0)], [], (I, J)) = zm_V zT_X9_rowAt zW_X (19, [some (.ref 0), some (.int 0)], [.ref 54], (I, J)) from rfl)) ?_
  show zm_V zT_X9_rowAt zW_X (19, [some (.ref 0), some (.int 0)], [.ref 54], (I, J)) = _
  refine Eq.trans ((zm_V_eq _ _ _).trans (show zm_step zT_X9_rowAt zW_X (zm_V zT_X9_rowAt zW_X) (19, [some (.ref 0), some (.int 0)], [.ref 54], (I, J)) = some (some (.ref 54), (I, J)) from rfl)) ?_
  rfl
set_option maxRecDepth 20000 in
theorem zgx_rowAt_r1 : zF_X9_rowAt zW_X [.ref 0, .int 1] (I, J) = some (some (.ref 56), (I, J)) := by
  show zm_V zT_X9_rowAt zW_X (0, [some (.ref 0), some (.int 1)], [], (I, J)) = _
  refine Eq.trans ((zm_V_eq _ _ _).trans (show zm_step zT_X9_rowAt zW_X (zm_V zT_X9_rowAt zW_X) (0, [some (.ref 0), some (.int 1)], [], (I, J)) = if ((1 : Int32) : Int32) < 0 then zm_V zT_X9_rowAt zW_X (18, [some (.ref 0), some (.int 1)], [], (I, J)) else zm_V zT_X9_rowAt zW_X (4, [some (.ref 0), some (.int 1)], [], (I, J)) from rfl)) ?_
  rw [if_neg (by decide)]
  show zm_V zT_X9_rowAt zW_X (4, [some (.ref 0), some (.int 1)], [], (I, J)) = _
  refine Eq.trans ((zm_V_eq _ _ _).trans (show zm_step zT_X9_rowAt zW_X (zm_V zT_X9_rowAt zW_X) (4, [some (.ref 0), some (.int 1)], [], (I, J)) = if (4 : Int32) ≤ (1 : Int32) then zm_V zT_X9_rowAt zW_X (18, [some (.ref 0), some (.int 1)], [], (I, J)) else zm_V zT_X9_rowAt zW_X (9, [some (.ref 0), some (.int 1)], [], (I, J)) from rfl)) ?_
  rw [if_neg (by decide)]
  show zm_V zT_X9_rowAt zW_X (9, [some (.ref 0), some (.int 1)], [], (I, J)) = _
  refine Eq.trans ((zm_V_eq _ _ _).trans (show zm_step zT_X9_rowAt zW_X (zm_V zT_X9_rowAt zW_X) (9, [some (.ref 0), some (.int 1)], [], (I, J)) = zm_V zT_X9_rowAt zW_X (19, [some (.ref 0), some (.int 1)], [.ref 56], (I, J)) from rfl)) ?_
  show zm_V zT_X9_rowAt zW_X (19, [some (.ref 0), some (.int 1)], [.ref 56], (I, J)) = _
  refine Eq.trans ((zm_V_eq _ _ _).trans (show zm_step zT_X9_rowAt zW_X (zm_V zT_X9_rowAt zW_X) (19, [some (.ref 0), some (.int 1)], [.ref 56], (I, J)) = some (some (.ref 56), (I, J)) from rfl)) ?_
  rfl
set_option maxRecDepth 20000 in
theorem zgx_rowAt_r2 : zF_X9_rowAt zW_X [.ref 0, .int 2] (I, J) = some (some (.ref 58), (I, J)) := by
  show zm_V zT_X9_rowAt zW_X (0, [some (.ref 0), some (.int 2)], [], (I, J)) = _
  refine Eq.trans ((zm_V_eq _ _ _).trans (show zm_step zT_X9_rowAt zW_X (zm_V zT_X9_rowAt zW_X) (0, [some (.ref 0), some (.int 2)], [], (I, J)) = if ((2 : Int32) : Int32) < 0 then zm_V zT_X9_rowAt zW_X (18, [some (.ref 0), some (.int 2)], [], (I, J)) else zm_V zT_X9_rowAt zW_X (4, [some (.ref 0), some (.int 2)], [], (I, J)) from rfl)) ?_
  rw [if_neg (by decide)]
  show zm_V zT_X9_rowAt zW_X (4, [some (.ref 0), some (.int 2)], [], (I, J)) = _
  refine Eq.trans ((zm_V_eq _ _ _).trans (show zm_step zT_X9_rowAt zW_X (zm_V zT_X9_rowAt zW_X) (4, [some (.ref 0), some (.int 2)], [], (I, J)) = if (4 : Int32) ≤ (2 : Int32) then zm_V zT_X9_rowAt zW_X (18, [some (.ref 0), some (.int 2)], [], (I, J)) else zm_V zT_X9_rowAt zW_X (9, [some (.ref 0), some (.int 2)], [], (I, J)) from rfl)) ?_
  rw [if_neg (by decide)]
  show zm_V zT_X9_rowAt zW_X (9, [some (.ref 0), some (.int 2)], [], (I, J)) = _
  refine Eq.trans ((zm_V_eq _ _ _).trans (show zm_step zT_X9_rowAt zW_X (zm_V zT_X9_rowAt zW_X) (9, [some (.ref 0), some (.int 2)], [], (I, J)) = zm_V zT_X9_rowAt zW_X (19, [some (.ref 0), some (.int 2)], [.ref 58], (I, J)) from rfl)) ?_
  show zm_V zT_X9_rowAt zW_X (19, [some (.ref 0), some (.int 2)], [.ref 58], (I, J)) = _
  refine Eq.trans ((zm_V_eq _ _ _).trans (show zm_step zT_X9_rowAt zW_X (zm_V zT_X9_rowAt zW_X) (19, [some (.ref 0), some (.int 2)], [.ref 58], (I, J)) = some (some (.ref 58), (I, J)) from rfl)) ?_
  rfl
set_option maxRecDepth 20000 in
theorem zgx_rowAt_r3 : zF_X9_rowAt zW_X [.ref 0, .int 3] (I, J) = some (some (.ref 60), (I, J)) := by
  show zm_V zT_X9_rowAt zW_X (0, [some (.ref 0), some (.int 3)], [], (I, J)) = _
  refine Eq.trans ((zm_V_eq _ _ _).trans (show zm_step zT_X9_rowAt zW_X (zm_V zT_X9_rowAt zW_X) (0, [some (.ref 0), some (.int 3)], [], (I, J)) = if ((3 : Int32) : Int32) < 0 then zm_V zT_X9_rowAt zW_X (18, [some (.ref 0), some (.int 3)], [], (I, J)) else zm_V zT_X9_rowAt zW_X (4, [some (.ref 0), some (.int 3)], [], (I, J)) from rfl)) ?_
  rw [if_neg (by decide)]
  show zm_V zT_X9_rowAt zW_X (4, [some (.ref 0), some (.int 3)], [], (I, J)) = _
  refine Eq.trans ((zm_V_eq _ _ _).trans (show zm_step zT_X9_rowAt zW_X (zm_V zT_X9_rowAt zW_X) (4, [some (.ref 0), some (.int 3)], [], (I, J)) = if (4 : Int32) ≤ (3 : Int32) then zm_V zT_X9_rowAt zW_X (18, [some (.ref 0), some (.int 3)], [], (I, J)) else zm_V zT_X9_rowAt zW_X (9, [some (.ref 0), some (.int 3)], [], (I, J)) from rfl)) ?_
  rw [if_neg (by decide)]
  show zm_V zT_X9_rowAt zW_X (9, [some (.ref 0), some (.int 3)], [], (I, J)) = _
  refine Eq.trans ((zm_V_eq _ _ _).trans (show zm_step zT_X9_rowAt zW_X (zm_V zT_X9_rowAt zW_X) (9, [some (.ref 0), some (.int 3)], [], (I, J)) = zm_V zT_X9_rowAt zW_X (19, [some (.ref 0), some (.int 3)], [.ref 60], (I, J)) from rfl)) ?_
  show zm_V zT_X9_rowAt zW_X (19, [some (.ref 0), some (.int 3)], [.ref 60], (I, J)) = _
  refine Eq.trans ((zm_V_eq _ _ _).trans (show zm_step zT_X9_rowAt zW_X (zm_V zT_X9_rowAt zW_X) (19, [some (.ref 0), some (.int 3)], [.ref 60], (I, J)) = some (some (.ref 60), (I, J)) from rfl)) ?_
  rfl
theorem zgx_rowAt_r {l : Int32} (h0 : ¬ l < 0) (h4 : ¬ 4 ≤ l) : ∃ hh, (hh = 54 ∨ hh = 56 ∨ hh = 58 ∨ hh = 60) ∧ zF_X9_rowAt zW_X [.ref 0, .int l] (I, J) = some (some (.ref hh), (I, J)) := by
  rcases zi_four h0 h4 with rfl | rfl | rfl | rfl
  · exact ⟨54, by simp, zgx_rowAt_r0⟩
  · exact ⟨56, by simp, zgx_rowAt_r1⟩
  · exact ⟨58, by simp, zgx_rowAt_r2⟩
  · exact ⟨60, by simp, zgx_rowAt_r3⟩
set_option maxRecDepth 20000 in
theorem zgx_refusal_n : zF_X9_refusalOfSights zW_X [.ref 0, .null] (I, J) = some (some (.int (-2)), (I, J)) := by
  show zm_V zT_X9_refusalOfSights zW_X (0, [some (.ref 0), some (.null), none], [], (I, J)) = _
  refine Eq.trans ((zm_V_eq _ _ _).trans (show zm_step zT_X9_refusalOfSights zW_X (zm_V zT_X9_refusalOfSights zW_X) (0, [some (.ref 0), some (.null), none], [], (I, J)) = zm_V zT_X9_refusalOfSights zW_X (11, [some (.ref 0), some (.null), none], [], (I, J)) from rfl)) ?_
  show zm_V zT_X9_refusalOfSights zW_X (11, [some (.ref 0), some (.null), none], [], (I, J)) = _
  refine Eq.trans ((zm_V_eq _ _ _).trans (show zm_step zT_X9_refusalOfSights zW_X (zm_V zT_X9_refusalOfSights zW_X) (11, [some (.ref 0), some (.null), none], [], (I, J)) = some (some (.int (-2)), (I, J)) from rfl)) ?_
  rfl
set_option maxRecDepth 20000 in
theorem zgx_refusal_r (h : zy_X I J) (hh : Nat) : zF_X9_refusalOfSights zW_X [.ref 0, .ref hh] (I, J) = some (some (.int (-2)), (I, J)) := by
  show zm_V zT_X9_refusalOfSights zW_X (0, [some (.ref 0), some (.ref hh), none], [], (I, J)) = _
  refine Eq.trans ((zm_V_eq _ _ _).trans (show zm_step zT_X9_refusalOfSights zW_X (zm_V zT_X9_refusalOfSights zW_X) (0, [some (.ref 0), some (.ref hh), none], [], (I, J)) = zm_V zT_X9_refusalOfSights zW_X (4, [some (.ref 0), some (.ref hh), none], [], (I, J)) from rfl)) ?_
  show zm_V zT_X9_refusalOfSights zW_X (4, [some (.ref 0), some (.ref hh), none], [], (I, J)) = _
  refine Eq.trans ((zm_V_eq _ _ _).trans ((show zm_step zT_X9_refusalOfSights zW_X (zm_V zT_X9_refusalOfSights zW_X) (4, [some (.ref 0), some (.ref hh), none], [], (I, J)) = zm_app (1, some 9, true, [], zF_X9_hasBench) zW_X [.ref 0] (I, J) (fun v N => zm_V zT_X9_refusalOfSights zW_X (8, [some (.ref 0), some (.ref hh), none], v.toList ++ [], N)) from rfl).trans (zm_app_s rfl rfl (zgx_hasBench h)))) ?_
  show zm_V zT_X9_refusalOfSights zW_X (8, [some (.ref 0), some (.ref hh), none], [.int 0], (I, J)) = _
  refine Eq.trans ((zm_V_eq _ _ _).trans (show zm_step zT_X9_refusalOfSights zW_X (zm_V zT_X9_refusalOfSights zW_X) (8, [some (.ref 0), some (.ref hh), none], [.int 0], (I, J)) = if ((0 : Int32) : Int32) = 0 then zm_V zT_X9_refusalOfSights zW_X (11, [some (.ref 0), some (.ref hh), none], [], (I, J)) else zm_V zT_X9_refusalOfSights zW_X (14, [some (.ref 0), some (.ref hh), none], [], (I, J)) from rfl)) ?_
  rw [if_pos (rfl)]
  show zm_V zT_X9_refusalOfSights zW_X (11, [some (.ref 0), some (.ref hh), none], [], (I, J)) = _
  refine Eq.trans ((zm_V_eq _ _ _).trans (show zm_step zT_X9_refusalOfSights zW_X (zm_V zT_X9_refusalOfSights zW_X) (11, [some (.ref 0), some (.ref hh), none], [], (I, J)) = some (some (.int (-2)), (I, J)) from rfl)) ?_
  rfl
set_option maxRecDepth 20000 in
theorem zpx_laws_n (h : zy_X I J) {l1 : Int32} (hn : l1 < 0 ∨ 4 ≤ l1) : zF_X9_laws zW_X [.ref 0, .int l1] (I, J) = some (some (.int (-2)), (I, J)) := by
  show zm_V zT_X9_laws zW_X (0, [some (.ref 0), some (.int l1), none, none, none, none], [], (I, J)) = _
  refine Eq.trans ((zm_V_eq _ _ _).trans ((show zm_step zT_X9_laws zW_X (zm_V zT_X9_laws zW_X) (0, [some (.ref 0), some (.int l1), none, none, none, none], [], (I, J)) = zm_app (2, some 9, true, [], zF_X9_rowAt) zW_X [.ref 0, .int l1] (I, J) (fun v N => zm_V zT_X9_laws zW_X (5, [some (.ref 0), some (.int l1), none, none, none, none], v.toList ++ [], N)) from rfl).trans (zm_app_s rfl rfl (zgx_rowAt_n hn)))) ?_
  show zm_V zT_X9_laws zW_X (5, [some (.ref 0), some (.int l1), none, none, none, none], [.null], (I, J)) = _
  refine Eq.trans ((zm_V_eq _ _ _).trans ((show zm_step zT_X9_laws zW_X (zm_V zT_X9_laws zW_X) (5, [some (.ref 0), some (.int l1), none, none, none, none], [.null], (I, J)) = zm_app (2, some 9, true, [], zF_X9_refusalOfSights) zW_X [.ref 0, .null] (I, J) (fun v N => zm_V zT_X9_laws zW_X (11, [some (.ref 0), some (.int l1), some (.null), none, none, none], v.toList ++ [], N)) from rfl).trans (zm_app_s rfl rfl (zgx_refusal_n)))) ?_
  show zm_V zT_X9_laws zW_X (11, [some (.ref 0), some (.int l1), some (.null), none, none, none], [.int ((-2) : Int32)], (I, J)) = _
  refine Eq.trans ((zm_V_eq _ _ _).trans (show zm_step zT_X9_laws zW_X (zm_V zT_X9_laws zW_X) (11, [some (.ref 0), some (.int l1), some (.null), none, none, none], [.int ((-2) : Int32)], (I, J)) = if (((-2) : Int32) : Int32) = 0 then zm_V zT_X9_laws zW_X (16, [some (.ref 0), some (.int l1), some (.null), some (.int ((-2) : Int32)), none, none], [], (I, J)) else zm_V zT_X9_laws zW_X (20, [some (.ref 0), some (.int l1), some (.null), some (.int ((-2) : Int32)), none, none], [], (I, J)) from rfl)) ?_
  rw [if_neg (by decide)]
  show zm_V zT_X9_laws zW_X (20, [some (.ref 0), some (.int l1), some (.null), some (.int ((-2) : Int32)), none, none], [], (I, J)) = _
  refine Eq.trans ((zm_V_eq _ _ _).trans (show zm_step zT_X9_laws zW_X (zm_V zT_X9_laws zW_X) (20, [some (.ref 0), some (.int l1), some (.null), some (.int ((-2) : Int32)), none, none], [], (I, J)) = some (some (.int ((-2) : Int32)), (I, J)) from rfl)) ?_
  rfl
set_option maxRecDepth 20000 in
theorem zpx_sat_n (h : zy_X I J) {l1 : Int32} (hn : l1 < 0 ∨ 4 ≤ l1) (l2 : Int32) : zF_X9_sat zW_X [.ref 0, .int l1, .int l2] (I, J) = some (some (.int (-2)), (I, J)) := by
  show zm_V zT_X9_sat zW_X (0, [some (.ref 0), some (.int l1), some (.int l2), none, none], [], (I, J)) = _
  refine Eq.trans ((zm_V_eq _ _ _).trans ((show zm_step zT_X9_sat zW_X (zm_V zT_X9_sat zW_X) (0, [some (.ref 0), some (.int l1), some (.int l2), none, none], [], (I, J)) = zm_app (2, some 9, true, [], zF_X9_rowAt) zW_X [.ref 0, .int l1] (I, J) (fun v N => zm_V zT_X9_sat zW_X (5, [some (.ref 0), some (.int l1), some (.int l2), none, none], v.toList ++ [], N)) from rfl).trans (zm_app_s rfl rfl (zgx_rowAt_n hn)))) ?_
  show zm_V zT_X9_sat zW_X (5, [some (.ref 0), some (.int l1), some (.int l2), none, none], [.null], (I, J)) = _
  refine Eq.trans ((zm_V_eq _ _ _).trans ((show zm_step zT_X9_sat zW_X (zm_V zT_X9_sat zW_X) (5, [some (.ref 0), some (.int l1), some (.int l2), none, none], [.null], (I, J)) = zm_app (2, some 0, false, [(0, 10)], zF_X0_hasCaller) zW_X [.ref 1, .int l2] (I, J) (fun v N => zm_V zT_X9_sat zW_X (14, [some (.ref 0), some (.int l1), some (.int l2), some (.null), none], v.toList ++ [], N)) from rfl).trans (zm_app_l (bs := [(1, 10)]) rfl rfl rfl rfl rfl rfl (zgx_hasCaller h l2)))) ?_
  simp only [zm_mrg_id]
  show zm_V zT_X9_sat zW_X (14, [some (.ref 0), some (.int l1), some (.int l2), some (.null), none], [.int 0], (I, J)) = _
  refine Eq.trans ((zm_V_eq _ _ _).trans (show zm_step zT_X9_sat zW_X (zm_V zT_X9_sat zW_X) (14, [some (.ref 0), some (.int l1), some (.int l2), some (.null), none], [.int 0], (I, J)) = if ((0 : Int32) : Int32) = 0 then zm_V zT_X9_sat zW_X (25, [some (.ref 0), some (.int l1), some (.int l2), some (.null), none], [], (I, J)) else zm_V zT_X9_sat zW_X (17, [some (.ref 0), some (.int l1), some (.int l2), some (.null), none], [], (I, J)) from rfl)) ?_
  rw [if_pos (rfl)]
  show zm_V zT_X9_sat zW_X (25, [some (.ref 0), some (.int l1), some (.int l2), some (.null), none], [], (I, J)) = _
  refine Eq.trans ((zm_V_eq _ _ _).trans (show zm_step zT_X9_sat zW_X (zm_V zT_X9_sat zW_X) (25, [some (.ref 0), some (.int l1), some (.int l2), some (.null), none], [], (I, J)) = zm_V zT_X9_sat zW_X (27, [some (.ref 0), some (.int l1), some (.int l2), some (.null), none], [.int (-2)], (I, J)) from rfl)) ?_
  show zm_V zT_X9_sat zW_X (27, [some (.ref 0), some (.int l1), some (.int l2), some (.null), none], [.int (-2)], (I, J)) = _
  refine Eq.trans ((zm_V_eq _ _ _).trans (show zm_step zT_X9_sat zW_X (zm_V zT_X9_sat zW_X) (27, [some (.ref 0), some (.int l1), some (.int l2), some (.null), none], [.int (-2)], (I, J)) = if ((-2) : Int32) = 0 then zm_V zT_X9_sat zW_X (34, [some (.ref 0), some (.int l1), some (.int l2), some (.null), some (.int (-2))], [], (I, J)) else zm_V zT_X9_sat zW_X (38, [some (.ref 0), some (.int l1), some (.int l2), some (.null), some (.int (-2))], [], (I, J)) from rfl)) ?_
  rw [if_neg (by decide)]
  show zm_V zT_X9_sat zW_X (38, [some (.ref 0), some (.int l1), some (.int l2), some (.null), some (.int (-2))], [], (I, J)) = _
  refine Eq.trans ((zm_V_eq _ _ _).trans (show zm_step zT_X9_sat zW_X (zm_V zT_X9_sat zW_X) (38, [some (.ref 0), some (.int l1), some (.int l2), some (.null), some (.int (-2))], [], (I, J)) = some (some (.int (-2)), (I, J)) from rfl)) ?_
  rfl
set_option maxRecDepth 20000 in
theorem zpx_ask_n (h : zy_X I J) {l1 : Int32} (hn : l1 < 0 ∨ 4 ≤ l1) (l2 : Int32) : zF_X9_ask zW_X [.ref 0, .int l1, .int l2] (I, J) = some (some (.int (-2)), (I, J)) := by
  show zm_V zT_X9_ask zW_X (0, [some (.ref 0), some (.int l1), some (.int l2), none, none, none, none, none, none, none], [], (I, J)) = _
  refine Eq.trans ((zm_V_eq _ _ _).trans ((show zm_step zT_X9_ask zW_X (zm_V zT_X9_ask zW_X) (0, [some (.ref 0), some (.int l1), some (.int l2), none, none, none, none, none, none, none], [], (I, J)) = zm_app (2, some 9, true, [], zF_X9_rowAt) zW_X [.ref 0, .int l1] (I, J) (fun v N => zm_V zT_X9_ask zW_X (5, [some (.ref 0), some (.int l1), some (.int l2), none, none, none, none, none, none, none], v.toList ++ [], N)) from rfl).trans (zm_app_s rfl rfl (zgx_rowAt_n hn)))) ?_
  show zm_V zT_X9_ask zW_X (5, [some (.ref 0), some (.int l1), some (.int l2), none, none, none, none, none, none, none], [.null], (I, J)) = _
  refine Eq.trans ((zm_V_eq _ _ _).trans ((show zm_step zT_X9_ask zW_X (zm_V zT_X9_ask zW_X) (5, [some (.ref 0), some (.int l1), some (.int l2), none, none, none, none, none, none, none], [.null], (I, J)) = zm_app (2, some 0, false, [(0, 10)], zF_X0_hasCaller) zW_X [.ref 1, .int l2] (I, J) (fun v N => zm_V zT_X9_ask zW_X (14, [some (.ref 0), some (.int l1), some (.int l2), some (.null), none, none, none, none, none, none], v.toList ++ [], N)) from rfl).trans (zm_app_l (bs := [(1, 10)]) rfl rfl rfl rfl rfl rfl (zgx_hasCaller h l2)))) ?_
  simp only [zm_mrg_id]
  show zm_V zT_X9_ask zW_X (14, [some (.ref 0), some (.int l1), some (.int l2), some (.null), none, none, none, none, none, none], [.int 0], (I, J)) = _
  refine Eq.trans ((zm_V_eq _ _ _).trans (show zm_step zT_X9_ask zW_X (zm_V zT_X9_ask zW_X) (14, [some (.ref 0), some (.int l1), some (.int l2), some (.null), none, none, none, none, none, none], [.int 0], (I, J)) = if ((0 : Int32) : Int32) = 0 then zm_V zT_X9_ask zW_X (25, [some (.ref 0), some (.int l1), some (.int l2), some (.null), none, none, none, none, none, none], [], (I, J)) else zm_V zT_X9_ask zW_X (17, [some (.ref 0), some (.int l1), some (.int l2), some (.null), none, none, none, none, none, none], [], (I, J)) from rfl)) ?_
  rw [if_pos (rfl)]
  show zm_V zT_X9_ask zW_X (25, [some (.ref 0), some (.int l1), some (.int l2), some (.null), none, none, none, none, none, none], [], (I, J)) = _
  refine Eq.trans ((zm_V_eq _ _ _).trans (show zm_step zT_X9_ask zW_X (zm_V zT_X9_ask zW_X) (25, [some (.ref 0), some (.int l1), some (.int l2), some (.null), none, none, none, none, none, none], [], (I, J)) = zm_V zT_X9_ask zW_X (27, [some (.ref 0), some (.int l1), some (.int l2), some (.null), none, none, none, none, none, none], [.int (-2)], (I, J)) from rfl)) ?_
  show zm_V zT_X9_ask zW_X (27, [some (.ref 0), some (.int l1), some (.int l2), some (.null), none, none, none, none, none, none], [.int (-2)], (I, J)) = _
  refine Eq.trans ((zm_V_eq _ _ _).trans (show zm_step zT_X9_ask zW_X (zm_V zT_X9_ask zW_X) (27, [some (.ref 0), some (.int l1), some (.int l2), some (.null), none, none, none, none, none, none], [.int (-2)], (I, J)) = if ((-2) : Int32) = 0 then zm_V zT_X9_ask zW_X (34, [some (.ref 0), some (.int l1), some (.int l2), some (.null), some (.int (-2)), none, none, none, none, none], [], (I, J)) else zm_V zT_X9_ask zW_X (38, [some (.ref 0), some (.int l1), some (.int l2), some (.null), some (.int (-2)), none, none, none, none, none], [], (I, J)) from rfl)) ?_
  rw [if_neg (by decide)]
  show zm_V zT_X9_ask zW_X (38, [some (.ref 0), some (.int l1), some (.int l2), some (.null), some (.int (-2)), none, none, none, none, none], [], (I, J)) = _
  refine Eq.trans ((zm_V_eq _ _ _).trans (show zm_step zT_X9_ask zW_X (zm_V zT_X9_ask zW_X) (38, [some (.ref 0), some (.int l1), some (.int l2), some (.null), some (.int (-2)), none, none, none, none, none], [], (I, J)) = some (some (.int (-2)), (I, J)) from rfl)) ?_
  rfl
set_option maxRecDepth 20000 in
theorem zgx_pileUp_n (h : zy_X I J) {l1 : Int32} (hn : l1 < 0 ∨ 4 ≤ l1) : zF_X9_pileUp zW_X [.ref 0, .int l1] (I, J) = some (some (.int (-2)), (I, J)) := by
  show zm_V zT_X9_pileUp zW_X (0, [some (.ref 0), some (.int l1), none, none], [], (I, J)) = _
  refine Eq.trans ((zm_V_eq _ _ _).trans ((show zm_step zT_X9_pileUp zW_X (zm_V zT_X9_pileUp zW_X) (0, [some (.ref 0), some (.int l1), none, none], [], (I, J)) = zm_app (2, some 9, true, [], zF_X9_rowAt) zW_X [.ref 0, .int l1] (I, J) (fun v N => zm_V zT_X9_pileUp zW_X (5, [some (.ref 0), some (.int l1), none, none], v.toList ++ [], N)) from rfl).trans (zm_app_s rfl rfl (zgx_rowAt_n hn)))) ?_
  show zm_V zT_X9_pileUp zW_X (5, [some (.ref 0), some (.int l1), none, none], [.null], (I, J)) = _
  refine Eq.trans ((zm_V_eq _ _ _).trans (show zm_step zT_X9_pileUp zW_X (zm_V zT_X9_pileUp zW_X) (5, [some (.ref 0), some (.int l1), none, none], [.null], (I, J)) = zm_V zT_X9_pileUp zW_X (17, [some (.ref 0), some (.int l1), some (.null), none], [], (I, J)) from rfl)) ?_
  show zm_V zT_X9_pileUp zW_X (17, [some (.ref 0), some (.int l1), some (.null), none], [], (I, J)) = _
  refine Eq.trans ((zm_V_eq _ _ _).trans (show zm_step zT_X9_pileUp zW_X (zm_V zT_X9_pileUp zW_X) (17, [some (.ref 0), some (.int l1), some (.null), none], [], (I, J)) = some (some (.int (-2)), (I, J)) from rfl)) ?_
  rfl
set_option maxRecDepth 20000 in
theorem zpx_laws_r (h : zy_X I J) {l1 : Int32} {hh : Nat} (hr : zF_X9_rowAt zW_X [.ref 0, .int l1] (I, J) = some (some (.ref hh), (I, J))) : zF_X9_laws zW_X [.ref 0, .int l1] (I, J) = some (some (.int (-2)), (I, J)) := by
  show zm_V zT_X9_laws zW_X (0, [some (.ref 0), some (.int l1), none, none, none, none], [], (I, J)) = _
  refine Eq.trans ((zm_V_eq _ _ _).trans ((show zm_step zT_X9_laws zW_X (zm_V zT_X9_laws zW_X) (0, [some (.ref 0), some (.int l1), none, none, none, none], [], (I, J)) = zm_app (2, some 9, true, [], zF_X9_rowAt) zW_X [.ref 0, .int l1] (I, J) (fun v N => zm_V zT_X9_laws zW_X (5, [some (.ref 0), some (.int l1), none, none, none, none], v.toList ++ [], N)) from rfl).trans (zm_app_s rfl rfl (hr)))) ?_
  show zm_V zT_X9_laws zW_X (5, [some (.ref 0), some (.int l1), none, none, none, none], [.ref hh], (I, J)) = _
  refine Eq.trans ((zm_V_eq _ _ _).trans ((show zm_step zT_X9_laws zW_X (zm_V zT_X9_laws zW_X) (5, [some (.ref 0), some (.int l1), none, none, none, none], [.ref hh], (I, J)) = zm_app (2, some 9, true, [], zF_X9_refusalOfSights) zW_X [.ref 0, .ref hh] (I, J) (fun v N => zm_V zT_X9_laws zW_X (11, [some (.ref 0), some (.int l1), some (.ref hh), none, none, none], v.toList ++ [], N)) from rfl).trans (zm_app_s rfl rfl (zgx_refusal_r h hh)))) ?_
  show zm_V zT_X9_laws zW_X (11, [some (.ref 0), some (.int l1), some (.ref hh), none, none, none], [.int ((-2) : Int32)], (I, J)) = _
  refine Eq.trans ((zm_V_eq _ _ _).trans (show zm_step zT_X9_laws zW_X (zm_V zT_X9_laws zW_X) (11, [some (.ref 0), some (.int l1), some (.ref hh), none, none, none], [.int ((-2) : Int32)], (I, J)) = if (((-2) : Int32) : Int32) = 0 then zm_V zT_X9_laws zW_X (16, [some (.ref 0), some (.int l1), some (.ref hh), some (.int ((-2) : Int32)), none, none], [], (I, J)) else zm_V zT_X9_laws zW_X (20, [some (.ref 0), some (.int l1), some (.ref hh), some (.int ((-2) : Int32)), none, none], [], (I, J)) from rfl)) ?_
  rw [if_neg (by decide)]
  show zm_V zT_X9_laws zW_X (20, [some (.ref 0), some (.int l1), some (.ref hh), some (.int ((-2) : Int32)), none, none], [], (I, J)) = _
  refine Eq.trans ((zm_V_eq _ _ _).trans (show zm_step zT_X9_laws zW_X (zm_V zT_X9_laws zW_X) (20, [some (.ref 0), some (.int l1), some (.ref hh), some (.int ((-2) : Int32)), none, none], [], (I, J)) = some (some (.int ((-2) : Int32)), (I, J)) from rfl)) ?_
  rfl
set_option maxRecDepth 20000 in
theorem zpx_sat_r (h : zy_X I J) {l1 : Int32} {hh : Nat} (hr : zF_X9_rowAt zW_X [.ref 0, .int l1] (I, J) = some (some (.ref hh), (I, J))) (l2 : Int32) : zF_X9_sat zW_X [.ref 0, .int l1, .int l2] (I, J) = some (some (.int (-2)), (I, J)) := by
  show zm_V zT_X9_sat zW_X (0, [some (.ref 0), some (.int l1), some (.int l2), none, none], [], (I, J)) = _
  refine Eq.trans ((zm_V_eq _ _ _).trans ((show zm_step zT_X9_sat zW_X (zm_V zT_X9_sat zW_X) (0, [some (.ref 0), some (.int l1), some (.int l2), none, none], [], (I, J)) = zm_app (2, some 9, true, [], zF_X9_rowAt) zW_X [.ref 0, .int l1] (I, J) (fun v N => zm_V zT_X9_sat zW_X (5, [some (.ref 0), some (.int l1), some (.int l2), none, none], v.toList ++ [], N)) from rfl).trans (zm_app_s rfl rfl (hr)))) ?_
  show zm_V zT_X9_sat zW_X (5, [some (.ref 0), some (.int l1), some (.int l2), none, none], [.ref hh], (I, J)) = _
  refine Eq.trans ((zm_V_eq _ _ _).trans ((show zm_step zT_X9_sat zW_X (zm_V zT_X9_sat zW_X) (5, [some (.ref 0), some (.int l1), some (.int l2), none, none], [.ref hh], (I, J)) = zm_app (2, some 0, false, [(0, 10)], zF_X0_hasCaller) zW_X [.ref 1, .int l2] (I, J) (fun v N => zm_V zT_X9_sat zW_X (14, [some (.ref 0), some (.int l1), some (.int l2), some (.ref hh), none], v.toList ++ [], N)) from rfl).trans (zm_app_l (bs := [(1, 10)]) rfl rfl rfl rfl rfl rfl (zgx_hasCaller h l2)))) ?_
  simp only [zm_mrg_id]
  show zm_V zT_X9_sat zW_X (14, [some (.ref 0), some (.int l1), some (.int l2), some (.ref hh), none], [.int 0], (I, J)) = _
  refine Eq.trans ((zm_V_eq _ _ _).trans (show zm_step zT_X9_sat zW_X (zm_V zT_X9_sat zW_X) (14, [some (.ref 0), some (.int l1), some (.int l2), some (.ref hh), none], [.int 0], (I, J)) = if ((0 : Int32) : Int32) = 0 then zm_V zT_X9_sat zW_X (25, [some (.ref 0), some (.int l1), some (.int l2), some (.ref hh), none], [], (I, J)) else zm_V zT_X9_sat zW_X (17, [some (.ref 0), some (.int l1), some (.int l2), some (.ref hh), none], [], (I, J)) from rfl)) ?_
  rw [if_pos (rfl)]
  show zm_V zT_X9_sat zW_X (25, [some (.ref 0), some (.int l1), some (.int l2), some (.ref hh), none], [], (I, J)) = _
  refine Eq.trans ((zm_V_eq _ _ _).trans (show zm_step zT_X9_sat zW_X (zm_V zT_X9_sat zW_X) (25, [some (.ref 0), some (.int l1), some (.int l2), some (.ref hh), none], [], (I, J)) = zm_V zT_X9_sat zW_X (27, [some (.ref 0), some (.int l1), some (.int l2), some (.ref hh), none], [.int (-2)], (I, J)) from rfl)) ?_
  show zm_V zT_X9_sat zW_X (27, [some (.ref 0), some (.int l1), some (.int l2), some (.ref hh), none], [.int (-2)], (I, J)) = _
  refine Eq.trans ((zm_V_eq _ _ _).trans (show zm_step zT_X9_sat zW_X (zm_V zT_X9_sat zW_X) (27, [some (.ref 0), some (.int l1), some (.int l2), some (.ref hh), none], [.int (-2)], (I, J)) = if ((-2) : Int32) = 0 then zm_V zT_X9_sat zW_X (34, [some (.ref 0), some (.int l1), some (.int l2), some (.ref hh), some (.int (-2))], [], (I, J)) else zm_V zT_X9_sat zW_X (38, [some (.ref 0), some (.int l1), some (.int l2), some (.ref hh), some (.int (-2))], [], (I, J)) from rfl)) ?_
  rw [if_neg (by decide)]
  show zm_V zT_X9_sat zW_X (38, [some (.ref 0), some (.int l1), some (.int l2), some (.ref hh), some (.int (-2))], [], (I, J)) = _
  refine Eq.trans ((zm_V_eq _ _ _).trans (show zm_step zT_X9_sat zW_X (zm_V zT_X9_sat zW_X) (38, [some (.ref 0), some (.int l1), some (.int l2), some (.ref hh), some (.int (-2))], [], (I, J)) = some (some (.int (-2)), (I, J)) from rfl)) ?_
  rfl
set_option maxRecDepth 20000 in
theorem zpx_ask_r (h : zy_X I J) {l1 : Int32} {hh : Nat} (hr : zF_X9_rowAt zW_X [.ref 0, .int l1] (I, J) = some (some (.ref hh), (I, J))) (l2 : Int32) : zF_X9_ask zW_X [.ref 0, .int l1, .int l2] (I, J) = some (some (.int (-2)), (I, J)) := by
  show zm_V zT_X9_ask zW_X (0, [some (.ref 0), some (.int l1), some (.int l2), none, none, none, none, none, none, none], [], (I, J)) = _
  refine Eq.trans ((zm_V_eq _ _ _).trans ((show zm_step zT_X9_ask zW_X (zm_V zT_X9_ask zW_X) (0, [some (.ref 0), some (.int l1), some (.int l2), none, none, none, none, none, none, none], [], (I, J)) = zm_app (2, some 9, true, [], zF_X9_rowAt) zW_X [.ref 0, .int l1] (I, J) (fun v N => zm_V zT_X9_ask zW_X (5, [some (.ref 0), some (.int l1), some (.int l2), none, none, none, none, none, none, none], v.toList ++ [], N)) from rfl).trans (zm_app_s rfl rfl (hr)))) ?_
  show zm_V zT_X9_ask zW_X (5, [some (.ref 0), some (.int l1), some (.int l2), none, none, none, none, none, none, none], [.ref hh], (I, J)) = _
  refine Eq.trans ((zm_V_eq _ _ _).trans ((show zm_step zT_X9_ask zW_X (zm_V zT_X9_ask zW_X) (5, [some (.ref 0), some (.int l1), some (.int l2), none, none, none, none, none, none, none], [.ref hh], (I, J)) = zm_app (2, some 0, false, [(0, 10)], zF_X0_hasCaller) zW_X [.ref 1, .int l2] (I, J) (fun v N => zm_V zT_X9_ask zW_X (14, [some (.ref 0), some (.int l1), some (.int l2), some (.ref hh), none, none, none, none, none, none], v.toList ++ [], N)) from rfl).trans (zm_app_l (bs := [(1, 10)]) rfl rfl rfl rfl rfl rfl (zgx_hasCaller h l2)))) ?_
  simp only [zm_mrg_id]
  show zm_V zT_X9_ask zW_X (14, [some (.ref 0), some (.int l1), some (.int l2), some (.ref hh), none, none, none, none, none, none], [.int 0], (I, J)) = _
  refine Eq.trans ((zm_V_eq _ _ _).trans (show zm_step zT_X9_ask zW_X (zm_V zT_X9_ask zW_X) (14, [some (.ref 0), some (.int l1), some (.int l2), some (.ref hh), none, none, none, none, none, none], [.int 0], (I, J)) = if ((0 : Int32) : Int32) = 0 then zm_V zT_X9_ask zW_X (25, [some (.ref 0), some (.int l1), some (.int l2), some (.ref hh), none, none, none, none, none, none], [], (I, J)) else zm_V zT_X9_ask zW_X (17, [some (.ref 0), some (.int l1), some (.int l2), some (.ref hh), none, none, none, none, none, none], [], (I, J)) from rfl)) ?_
  rw [if_pos (rfl)]
  show zm_V zT_X9_ask zW_X (25, [some (.ref 0), some (.int l1), some (.int l2), some (.ref hh), none, none, none, none, none, none], [], (I, J)) = _
  refine Eq.trans ((zm_V_eq _ _ _).trans (show zm_step zT_X9_ask zW_X (zm_V zT_X9_ask zW_X) (25, [some (.ref 0), some (.int l1), some (.int l2), some (.ref hh), none, none, none, none, none, none], [], (I, J)) = zm_V zT_X9_ask zW_X (27, [some (.ref 0), some (.int l1), some (.int l2), some (.ref hh), none, none, none, none, none, none], [.int (-2)], (I, J)) from rfl)) ?_
  show zm_V zT_X9_ask zW_X (27, [some (.ref 0), some (.int l1), some (.int l2), some (.ref hh), none, none, none, none, none, none], [.int (-2)], (I, J)) = _
  refine Eq.trans ((zm_V_eq _ _ _).trans (show zm_step zT_X9_ask zW_X (zm_V zT_X9_ask zW_X) (27, [some (.ref 0), some (.int l1), some (.int l2), some (.ref hh), none, none, none, none, none, none], [.int (-2)], (I, J)) = if ((-2) : Int32) = 0 then zm_V zT_X9_ask zW_X (34, [some (.ref 0), some (.int l1), some (.int l2), some (.ref hh), some (.int (-2)), none, none, none, none, none], [], (I, J)) else zm_V zT_X9_ask zW_X (38, [some (.ref 0), some (.int l1), some (.int l2), some (.ref hh), some (.int (-2)), none, none, none, none, none], [], (I, J)) from rfl)) ?_
  rw [if_neg (by decide)]
  show zm_V zT_X9_ask zW_X (38, [some (.ref 0), some (.int l1), some (.int l2), some (.ref hh), some (.int (-2)), none, none, none, none, none], [], (I, J)) = _
  refine Eq.trans ((zm_V_eq _ _ _).trans (show zm_step zT_X9_ask zW_X (zm_V zT_X9_ask zW_X) (38, [some (.ref 0), some (.int l1), some (.int l2), some (.ref hh), some (.int (-2)), none, none, none, none, none], [], (I, J)) = some (some (.int (-2)), (I, J)) from rfl)) ?_
  rfl
set_option maxRecDepth 20000 in
theorem zgx_pileUp_r (h : zy_X I J) {l1 : Int32} {hh : Nat} (hr : zF_X9_rowAt zW_X [.ref 0, .int l1] (I, J) = some (some (.ref hh), (I, J))) : zF_X9_pileUp zW_X [.ref 0, .int l1] (I, J) = some (some (.int (-2)), (I, J)) := by
  show zm_V zT_X9_pileUp zW_X (0, [some (.ref 0), some (.int l1), none, none], [], (I, J)) = _
  refine Eq.trans ((zm_V_eq _ _ _).trans ((show zm_step zT_X9_pileUp zW_X (zm_V zT_X9_pileUp zW_X) (0, [some (.ref 0), some (.int l1), none, none], [], (I, J)) = zm_app (2, some 9, true, [], zF_X9_rowAt) zW_X [.ref 0, .int l1] (I, J) (fun v N => zm_V zT_X9_pileUp zW_X (5, [some (.ref 0), some (.int l1), none, none], v.toList ++ [], N)) from rfl).trans (zm_app_s rfl rfl (hr)))) ?_
  show zm_V zT_X9_pileUp zW_X (5, [some (.ref 0), some (.int l1), none, none], [.ref hh], (I, J)) = _
  refine Eq.trans ((zm_V_eq _ _ _).trans (show zm_step zT_X9_pileUp zW_X (zm_V zT_X9_pileUp zW_X) (5, [some (.ref 0), some (.int l1), none, none], [.ref hh], (I, J)) = zm_V zT_X9_pileUp zW_X (10, [some (.ref 0), some (.int l1), some (.ref hh), none], [], (I, J)) from rfl)) ?_
  show zm_V zT_X9_pileUp zW_X (10, [some (.ref 0), some (.int l1), some (.ref hh), none], [], (I, J)) = _
  refine Eq.trans ((zm_V_eq _ _ _).trans ((show zm_step zT_X9_pileUp zW_X (zm_V zT_X9_pileUp zW_X) (10, [some (.ref 0), some (.int l1), some (.ref hh), none], [], (I, J)) = zm_app (1, some 9, true, [], zF_X9_hasBench) zW_X [.ref 0] (I, J) (fun v N => zm_V zT_X9_pileUp zW_X (14, [some (.ref 0), some (.int l1), some (.ref hh), none], v.toList ++ [], N)) from rfl).trans (zm_app_s rfl rfl (zgx_hasBench h)))) ?_
  show zm_V zT_X9_pileUp zW_X (14, [some (.ref 0), some (.int l1), some (.ref hh), none], [.int 0], (I, J)) = _
  refine Eq.trans ((zm_V_eq _ _ _).trans (show zm_step zT_X9_pileUp zW_X (zm_V zT_X9_pileUp zW_X) (14, [some (.ref 0), some (.int l1), some (.ref hh), none], [.int 0], (I, J)) = if ((0 : Int32) : Int32) = 0 then zm_V zT_X9_pileUp zW_X (17, [some (.ref 0), some (.int l1), some (.ref hh), none], [], (I, J)) else zm_V zT_X9_pileUp zW_X (20, [some (.ref 0), some (.int l1), some (.ref hh), none], [], (I, J)) from rfl)) ?_
  rw [if_pos (rfl)]
  show zm_V zT_X9_pileUp zW_X (17, [some (.ref 0), some (.int l1), some (.ref hh), none], [], (I, J)) = _
  refine Eq.trans ((zm_V_eq _ _ _).trans (show zm_step zT_X9_pileUp zW_X (zm_V zT_X9_pileUp zW_X) (17, [some (.ref 0), some (.int l1), some (.ref hh), none], [], (I, J)) = some (some (.int (-2)), (I, J)) from rfl)) ?_
  rfl
theorem zpx_laws (h : zy_X I J) (l1 : Int32) : zF_X9_laws zW_X [.ref 0, .int l1] (I, J) = some (some (.int (-2)), (I, J)) := by
  by_cases hn : l1 < 0 ∨ 4 ≤ l1
  · exact zpx_laws_n h hn
  · obtain ⟨hh, -, hr⟩ := zgx_rowAt_r (I := I) (J := J) (fun q => hn (Or.inl q)) (fun q => hn (Or.inr q))
    exact zpx_laws_r h hr
theorem zpx_sat (h : zy_X I J) (l1 : Int32) (l2 : Int32) : zF_X9_sat zW_X [.ref 0, .int l1, .int l2] (I, J) = some (some (.int (-2)), (I, J)) := by
  by_cases hn : l1 < 0 ∨ 4 ≤ l1
  · exact zpx_sat_n h hn l2
  · obtain ⟨hh, -, hr⟩ := zgx_rowAt_r (I := I) (J := J) (fun q => hn (Or.inl q)) (fun q => hn (Or.inr q))
    exact zpx_sat_r h hr l2
theorem zpx_ask (h : zy_X I J) (l1 : Int32) (l2 : Int32) : zF_X9_ask zW_X [.ref 0, .int l1, .int l2] (I, J) = some (some (.int (-2)), (I, J)) := by
  by_cases hn : l1 < 0 ∨ 4 ≤ l1
  · exact zpx_ask_n h hn l2
  · obtain ⟨hh, -, hr⟩ := zgx_rowAt_r (I := I) (J := J) (fun q => hn (Or.inl q)) (fun q => hn (Or.inr q))
    exact zpx_ask_r h hr l2
theorem zgx_pileUp (h : zy_X I J) (l1 : Int32) : zF_X9_pileUp zW_X [.ref 0, .int l1] (I, J) = some (some (.int (-2)), (I, J)) := by
  by_cases hn : l1 < 0 ∨ 4 ≤ l1
  · exact zgx_pileUp_n h hn
  · obtain ⟨hh, -, hr⟩ := zgx_rowAt_r (I := I) (J := J) (fun q => hn (Or.inl q)) (fun q => hn (Or.inr q))
    exact zgx_pileUp_r h hr
set_option maxRecDepth 20000 in
theorem zpx_marks (h : zy_X I J) (l1 : Int32) : zF_X9_marks zW_X [.ref 0, .int l1] (I, J) = some (some (.int (-2)), (I, J)) := by
  show zm_V zT_X9_marks zW_X (0, [some (.ref 0), some (.int l1), none], [], (I, J)) = _
  refine Eq.trans ((zm_V_eq _ _ _).trans ((show zm_step zT_X9_marks zW_X (zm_V zT_X9_marks zW_X) (0, [some (.ref 0), some (.int l1), none], [], (I, J)) = zm_app (2, some 9, true, [], zF_X9_pileUp) zW_X [.ref 0, .int l1] (I, J) (fun v N => zm_V zT_X9_marks zW_X (5, [some (.ref 0), some (.int l1), none], v.toList ++ [], N)) from rfl).trans (zm_app_s rfl rfl (zgx_pileUp h l1)))) ?_
  show zm_V zT_X9_marks zW_X (5, [some (.ref 0), some (.int l1), none], [.int ((-2) : Int32)], (I, J)) = _
  refine Eq.trans ((zm_V_eq _ _ _).trans (show zm_step zT_X9_marks zW_X (zm_V zT_X9_marks zW_X) (5, [some (.ref 0), some (.int l1), none], [.int ((-2) : Int32)], (I, J)) = if (((-2) : Int32) : Int32) = 0 then zm_V zT_X9_marks zW_X (12, [some (.ref 0), some (.int l1), some (.int ((-2) : Int32))], [], (I, J)) else zm_V zT_X9_marks zW_X (10, [some (.ref 0), some (.int l1), some (.int ((-2) : Int32))], [], (I, J)) from rfl)) ?_
  rw [if_neg (by decide)]
  show zm_V zT_X9_marks zW_X (10, [some (.ref 0), some (.int l1), some (.int ((-2) : Int32))], [], (I, J)) = _
  refine Eq.trans ((zm_V_eq _ _ _).trans (show zm_step zT_X9_marks zW_X (zm_V zT_X9_marks zW_X) (10, [some (.ref 0), some (.int l1), some (.int ((-2) : Int32))], [], (I, J)) = some (some (.int ((-2) : Int32)), (I, J)) from rfl)) ?_
  rfl
set_option maxRecDepth 20000 in
theorem zpx_mark (h : zy_X I J) (l1 l2 : Int32) : zF_X9_mark zW_X [.ref 0, .int l1, .int l2] (I, J) = some (some (.int (-2)), (I, J)) := by
  show zm_V zT_X9_mark zW_X (0, [some (.ref 0), some (.int l1), some (.int l2), none], [], (I, J)) = _
  refine Eq.trans ((zm_V_eq _ _ _).trans ((show zm_step zT_X9_mark zW_X (zm_V zT_X9_mark zW_X) (0, [some (.ref 0), some (.int l1), some (.int l2), none], [], (I, J)) = zm_app (2, some 9, true, [], zF_X9_pileUp) zW_X [.ref 0, .int l1] (I, J) (fun v N => zm_V zT_X9_mark zW_X (5, [some (.ref 0), some (.int l1), some (.int l2), none], v.toList ++ [], N)) from rfl).trans (zm_app_s rfl rfl (zgx_pileUp h l1)))) ?_
  show zm_V zT_X9_mark zW_X (5, [some (.ref 0), some (.int l1), some (.int l2), none], [.int ((-2) : Int32)], (I, J)) = _
  refine Eq.trans ((zm_V_eq _ _ _).trans (show zm_step zT_X9_mark zW_X (zm_V zT_X9_mark zW_X) (5, [some (.ref 0), some (.int l1), some (.int l2), none], [.int ((-2) : Int32)], (I, J)) = if (((-2) : Int32) : Int32) = 0 then zm_V zT_X9_mark zW_X (12, [some (.ref 0), some (.int l1), some (.int l2), some (.int ((-2) : Int32))], [], (I, J)) else zm_V zT_X9_mark zW_X (10, [some (.ref 0), some (.int l1), some (.int l2), some (.int ((-2) : Int32))], [], (I, J)) from rfl)) ?_
  rw [if_neg (by decide)]
  show zm_V zT_X9_mark zW_X (10, [some (.ref 0), some (.int l1), some (.int l2), some (.int ((-2) : Int32))], [], (I, J)) = _
  refine Eq.trans ((zm_V_eq _ _ _).trans (show zm_step zT_X9_mark zW_X (zm_V zT_X9_mark zW_X) (10, [some (.ref 0), some (.int l1), some (.int l2), some (.int ((-2) : Int32))], [], (I, J)) = some (some (.int ((-2) : Int32)), (I, J)) from rfl)) ?_
  rfl
set_option maxRecDepth 20000 in
theorem zpx_under_1 {l1 l2 : Int32} (h2 : l2 < 0) : zF_X9_under zW_X [.ref 0, .int l1, .int l2] (I, J) = some (some (.int (-2)), (I, J)) := by
  show zm_V zT_X9_under zW_X (0, [some (.ref 0), some (.int l1), some (.int l2), none], [], (I, J)) = _
  refine Eq.trans ((zm_V_eq _ _ _).trans (show zm_step zT_X9_under zW_X (zm_V zT_X9_under zW_X) (0, [some (.ref 0), some (.int l1), some (.int l2), none], [], (I, J)) = if (l2 : Int32) < 0 then zm_V zT_X9_under zW_X (18, [some (.ref 0), some (.int l1), some (.int l2), none], [], (I, J)) else zm_V zT_X9_under zW_X (4, [some (.ref 0), some (.int l1), some (.int l2), none], [], (I, J)) from rfl)) ?_
  rw [if_pos (h2)]
  show zm_V zT_X9_under zW_X (18, [some (.ref 0), some (.int l1), some (.int l2), none], [], (I, J)) = _
  refine Eq.trans ((zm_V_eq _ _ _).trans (show zm_step zT_X9_under zW_X (zm_V zT_X9_under zW_X) (18, [some (.ref 0), some (.int l1), some (.int l2), none], [], (I, J)) = zm_V zT_X9_under zW_X (20, [some (.ref 0), some (.int l1), some (.int l2), none], [.int (-2)], (I, J)) from rfl)) ?_
  show zm_V zT_X9_under zW_X (20, [some (.ref 0), some (.int l1), some (.int l2), none], [.int (-2)], (I, J)) = _
  refine Eq.trans ((zm_V_eq _ _ _).trans (show zm_step zT_X9_under zW_X (zm_V zT_X9_under zW_X) (20, [some (.ref 0), some (.int l1), some (.int l2), none], [.int (-2)], (I, J)) = if ((-2) : Int32) = 0 then zm_V zT_X9_under zW_X (27, [some (.ref 0), some (.int l1), some (.int l2), some (.int (-2))], [], (I, J)) else zm_V zT_X9_under zW_X (25, [some (.ref 0), some (.int l1), some (.int l2), some (.int (-2))], [], (I, J)) from rfl)) ?_
  rw [if_neg (by decide)]
  show zm_V zT_X9_under zW_X (25, [some (.ref 0), some (.int l1), some (.int l2), some (.int (-2))], [], (I, J)) = _
  refine Eq.trans ((zm_V_eq _ _ _).trans (show zm_step zT_X9_under zW_X (zm_V zT_X9_under zW_X) (25, [some (.ref 0), some (.int l1), some (.int l2), some (.int (-2))], [], (I, J)) = some (some (.int (-2)), (I, J)) from rfl)) ?_
  rfl
set_option maxRecDepth 20000 in
theorem zpx_under_2 {l1 l2 : Int32} (h2 : ¬ l2 < 0) (h3 : 10 ≤ l2) : zF_X9_under zW_X [.ref 0, .int l1, .int l2] (I, J) = some (some (.int (-2)), (I, J)) := by
  show zm_V zT_X9_under zW_X (0, [some (.ref 0), some (.int l1), some (.int l2), none], [], (I, J)) = _
  refine Eq.trans ((zm_V_eq _ _ _).trans (show zm_step zT_X9_under zW_X (zm_V zT_X9_under zW_X) (0, [some (.ref 0), some (.int l1), some (.int l2), none], [], (I, J)) = if (l2 : Int32) < 0 then zm_V zT_X9_under zW_X (18, [some (.ref 0), some (.int l1), some (.int l2), none], [], (I, J)) else zm_V zT_X9_under zW_X (4, [some (.ref 0), some (.int l1), some (.int l2), none], [], (I, J)) from rfl)) ?_
  rw [if_neg (h2)]
  show zm_V zT_X9_under zW_X (4, [some (.ref 0), some (.int l1), some (.int l2), none], [], (I, J)) = _
  refine Eq.trans ((zm_V_eq _ _ _).trans (show zm_step zT_X9_under zW_X (zm_V zT_X9_under zW_X) (4, [some (.ref 0), some (.int l1), some (.int l2), none], [], (I, J)) = if (10 : Int32) ≤ l2 then zm_V zT_X9_under zW_X (18, [some (.ref 0), some (.int l1), some (.int l2), none], [], (I, J)) else zm_V zT_X9_under zW_X (10, [some (.ref 0), some (.int l1), some (.int l2), none], [], (I, J)) from rfl)) ?_
  rw [if_pos (h3)]
  show zm_V zT_X9_under zW_X (18, [some (.ref 0), some (.int l1), some (.int l2), none], [], (I, J)) = _
  refine Eq.trans ((zm_V_eq _ _ _).trans (show zm_step zT_X9_under zW_X (zm_V zT_X9_under zW_X) (18, [some (.ref 0), some (.int l1), some (.int l2), none], [], (I, J)) = zm_V zT_X9_under zW_X (20, [some (.ref 0), some (.int l1), some (.int l2), none], [.int (-2)], (I, J)) from rfl)) ?_
  show zm_V zT_X9_under zW_X (20, [some (.ref 0), some (.int l1), some (.int l2), none], [.int (-2)], (I, J)) = _
  refine Eq.trans ((zm_V_eq _ _ _).trans (show zm_step zT_X9_under zW_X (zm_V zT_X9_under zW_X) (20, [some (.ref 0), some (.int l1), some (.int l2), none], [.int (-2)], (I, J)) = if ((-2) : Int32) = 0 then zm_V zT_X9_under zW_X (27, [some (.ref 0), some (.int l1), some (.int l2), some (.int (-2))], [], (I, J)) else zm_V zT_X9_under zW_X (25, [some (.ref 0), some (.int l1), some (.int l2), some (.int (-2))], [], (I, J)) from rfl)) ?_
  rw [if_neg (by decide)]
  show zm_V zT_X9_under zW_X (25, [some (.ref 0), some (.int l1), some (.int l2), some (.int (-2))], [], (I, J)) = _
  refine Eq.trans ((zm_V_eq _ _ _).trans (show zm_step zT_X9_under zW_X (zm_V zT_X9_under zW_X) (25, [some (.ref 0), some (.int l1), some (.int l2), some (.int (-2))], [], (I, J)) = some (some (.int (-2)), (I, J)) from rfl)) ?_
  rfl
set_option maxRecDepth 20000 in
theorem zpx_under_3 (h : zy_X I J) {l1 l2 : Int32} (h2 : ¬ l2 < 0) (h3 : ¬ 10 ≤ l2) : zF_X9_under zW_X [.ref 0, .int l1, .int l2] (I, J) = some (some (.int (-2)), (I, J)) := by
  show zm_V zT_X9_under zW_X (0, [some (.ref 0), some (.int l1), some (.int l2), none], [], (I, J)) = _
  refine Eq.trans ((zm_V_eq _ _ _).trans (show zm_step zT_X9_under zW_X (zm_V zT_X9_under zW_X) (0, [some (.ref 0), some (.int l1), some (.int l2), none], [], (I, J)) = if (l2 : Int32) < 0 then zm_V zT_X9_under zW_X (18, [some (.ref 0), some (.int l1), some (.int l2), none], [], (I, J)) else zm_V zT_X9_under zW_X (4, [some (.ref 0), some (.int l1), some (.int l2), none], [], (I, J)) from rfl)) ?_
  rw [if_neg (h2)]
  show zm_V zT_X9_under zW_X (4, [some (.ref 0), some (.int l1), some (.int l2), none], [], (I, J)) = _
  refine Eq.trans ((zm_V_eq _ _ _).trans (show zm_step zT_X9_under zW_X (zm_V zT_X9_under zW_X) (4, [some (.ref 0), some (.int l1), some (.int l2), none], [], (I, J)) = if (10 : Int32) ≤ l2 then zm_V zT_X9_under zW_X (18, [some (.ref 0), some (.int l1), some (.int l2), none], [], (I, J)) else zm_V zT_X9_under zW_X (10, [some (.ref 0), some (.int l1), some (.int l2), none], [], (I, J)) from rfl)) ?_
  rw [if_neg (h3)]
  show zm_V zT_X9_under zW_X (10, [some (.ref 0), some (.int l1), some (.int l2), none], [], (I, J)) = _
  refine Eq.trans ((zm_V_eq _ _ _).trans ((show zm_step zT_X9_under zW_X (zm_V zT_X9_under zW_X) (10, [some (.ref 0), some (.int l1), some (.int l2), none], [], (I, J)) = zm_app (2, some 9, true, [], zF_X9_pileUp) zW_X [.ref 0, .int l1] (I, J) (fun v N => zm_V zT_X9_under zW_X (15, [some (.ref 0), some (.int l1), some (.int l2), none], v.toList ++ [], N)) from rfl).trans (zm_app_s rfl rfl (zgx_pileUp h l1)))) ?_
  show zm_V zT_X9_under zW_X (15, [some (.ref 0), some (.int l1), some (.int l2), none], [.int ((-2) : Int32)], (I, J)) = _
  refine Eq.trans ((zm_V_eq _ _ _).trans (show zm_step zT_X9_under zW_X (zm_V zT_X9_under zW_X) (15, [some (.ref 0), some (.int l1), some (.int l2), none], [.int ((-2) : Int32)], (I, J)) = zm_V zT_X9_under zW_X (20, [some (.ref 0), some (.int l1), some (.int l2), none], [.int ((-2) : Int32)], (I, J)) from rfl)) ?_
  show zm_V zT_X9_under zW_X (20, [some (.ref 0), some (.int l1), some (.int l2), none], [.int ((-2) : Int32)], (I, J)) = _
  refine Eq.trans ((zm_V_eq _ _ _).trans (show zm_step zT_X9_under zW_X (zm_V zT_X9_under zW_X) (20, [some (.ref 0), some (.int l1), some (.int l2), none], [.int ((-2) : Int32)], (I, J)) = if (((-2) : Int32) : Int32) = 0 then zm_V zT_X9_under zW_X (27, [some (.ref 0), some (.int l1), some (.int l2), some (.int ((-2) : Int32))], [], (I, J)) else zm_V zT_X9_under zW_X (25, [some (.ref 0), some (.int l1), some (.int l2), some (.int ((-2) : Int32))], [], (I, J)) from rfl)) ?_
  rw [if_neg (by decide)]
  show zm_V zT_X9_under zW_X (25, [some (.ref 0), some (.int l1), some (.int l2), some (.int ((-2) : Int32))], [], (I, J)) = _
  refine Eq.trans ((zm_V_eq _ _ _).trans (show zm_step zT_X9_under zW_X (zm_V zT_X9_under zW_X) (25, [some (.ref 0), some (.int l1), some (.int l2), some (.int ((-2) : Int32))], [], (I, J)) = some (some (.int ((-2) : Int32)), (I, J)) from rfl)) ?_
  rfl
theorem zpx_under (h : zy_X I J) (l1 l2 : Int32) : zF_X9_under zW_X [.ref 0, .int l1, .int l2] (I, J) = some (some (.int (-2)), (I, J)) := by
  by_cases h2 : l2 < 0
  · exact zpx_under_1 h2
  · by_cases h3 : 10 ≤ l2
    · exact zpx_under_2 h2 h3
    · exact zpx_under_3 h h2 h3
set_option maxRecDepth 20000 in
theorem zpx_helps (h : zy_X I J) (l1 : Int32) : zF_X9_helps zW_X [.ref 0, .int l1] (I, J) = some (some (.int (-2)), (I, J)) := by
  show zm_V zT_X9_helps zW_X (0, [some (.ref 0), some (.int l1), none], [], (I, J)) = _
  refine Eq.trans ((zm_V_eq _ _ _).trans ((show zm_step zT_X9_helps zW_X (zm_V zT_X9_helps zW_X) (0, [some (.ref 0), some (.int l1), none], [], (I, J)) = zm_app (2, some 9, true, [], zF_X9_without) zW_X [.ref 0, .int l1] (I, J) (fun v N => zm_V zT_X9_helps zW_X (5, [some (.ref 0), some (.int l1), none], v.toList ++ [], N)) from rfl).trans (zm_app_s rfl rfl (zpx_without h l1)))) ?_
  show zm_V zT_X9_helps zW_X (5, [some (.ref 0), some (.int l1), none], [.int ((-2) : Int32)], (I, J)) = _
  refine Eq.trans ((zm_V_eq _ _ _).trans (show zm_step zT_X9_helps zW_X (zm_V zT_X9_helps zW_X) (5, [some (.ref 0), some (.int l1), none], [.int ((-2) : Int32)], (I, J)) = if (((-2) : Int32) : Int32) = (-2) then zm_V zT_X9_helps zW_X (12, [some (.ref 0), some (.int l1), some (.int ((-2) : Int32))], [], (I, J)) else zm_V zT_X9_helps zW_X (17, [some (.ref 0), some (.int l1), some (.int ((-2) : Int32))], [], (I, J)) from rfl)) ?_
  rw [if_pos (rfl)]
  show zm_V zT_X9_helps zW_X (12, [some (.ref 0), some (.int l1), some (.int ((-2) : Int32))], [], (I, J)) = _
  refine Eq.trans ((zm_V_eq _ _ _).trans (show zm_step zT_X9_helps zW_X (zm_V zT_X9_helps zW_X) (12, [some (.ref 0), some (.int l1), some (.int ((-2) : Int32))], [], (I, J)) = zm_V zT_X9_helps zW_X (25, [some (.ref 0), some (.int l1), some (.int ((-2) : Int32))], [.int (-2)], (I, J)) from rfl)) ?_
  show zm_V zT_X9_helps zW_X (25, [some (.ref 0), some (.int l1), some (.int ((-2) : Int32))], [.int (-2)], (I, J)) = _
  refine Eq.trans ((zm_V_eq _ _ _).trans (show zm_step zT_X9_helps zW_X (zm_V zT_X9_helps zW_X) (25, [some (.ref 0), some (.int l1), some (.int ((-2) : Int32))], [.int (-2)], (I, J)) = some (some (.int (-2)), (I, J)) from rfl)) ?_
  rfl
theorem zg_isMade (h : I 0 0 = -1) : zF_X7_isMade zW_R [.ref 0] (I, J) = some (some (.int 0), (I, J)) := by
  rw [zf_X7_isMade_R, zq_X7_isMade_R_0, if_pos h, zq_X7_isMade_R_12, zq_X7_isMade_R_13, if_pos (Or.inl rfl)]
theorem zgx_isMade_54 (h : zy_X I J) : zF_X7_isMade zW_R [.ref 0] (zm_sub2 [(54, 2)] (I, J)) = some (some (.int 0), zm_sub2 [(54, 2)] (I, J)) := zg_isMade ((h.1 54 0 (by decide)).trans (by decide))
theorem zgx_isMade_56 (h : zy_X I J) : zF_X7_isMade zW_R [.ref 0] (zm_sub2 [(56, 2)] (I, J)) = some (some (.int 0), zm_sub2 [(56, 2)] (I, J)) := zg_isMade ((h.1 56 0 (by decide)).trans (by decide))
theorem zgx_isMade_58 (h : zy_X I J) : zF_X7_isMade zW_R [.ref 0] (zm_sub2 [(58, 2)] (I, J)) = some (some (.int 0), zm_sub2 [(58, 2)] (I, J)) := zg_isMade ((h.1 58 0 (by decide)).trans (by decide))
theorem zgx_isMade_60 (h : zy_X I J) : zF_X7_isMade zW_R [.ref 0] (zm_sub2 [(60, 2)] (I, J)) = some (some (.int 0), zm_sub2 [(60, 2)] (I, J)) := zg_isMade ((h.1 60 0 (by decide)).trans (by decide))
set_option maxRecDepth 20000 in
theorem zpx_write_n {l1 : Int32} (hn : l1 < 0 ∨ 4 ≤ l1) (l2 : Int32) (l3 : Int64) : zF_X9_write zW_X [.ref 0, .int l1, .int l2, .long l3] (I, J) = some (some (.int (-2)), (I, J)) := by
  show zm_V zT_X9_write zW_X (0, [some (.ref 0), some (.int l1), some (.int l2), some (.long l3), none, none], [], (I, J)) = _
  refine Eq.trans ((zm_V_eq _ _ _).trans ((show zm_step zT_X9_write zW_X (zm_V zT_X9_write zW_X) (0, [some (.ref 0), some (.int l1), some (.int l2), some (.long l3), none, none], [], (I, J)) = zm_app (2, some 9, true, [], zF_X9_rowAt) zW_X [.ref 0, .int l1] (I, J) (fun v N => zm_V zT_X9_write zW_X (5, [some (.ref 0), some (.int l1), some (.int l2), some (.long l3), none, none], v.toList ++ [], N)) from rfl).trans (zm_app_s rfl rfl (zgx_rowAt_n hn)))) ?_
  show zm_V zT_X9_write zW_X (5, [some (.ref 0), some (.int l1), some (.int l2), some (.long l3), none, none], [.null], (I, J)) = _
  refine Eq.trans ((zm_V_eq _ _ _).trans (show zm_step zT_X9_write zW_X (zm_V zT_X9_write zW_X) (5, [some (.ref 0), some (.int l1), some (.int l2), some (.long l3), none, none], [.null], (I, J)) = zm_V zT_X9_write zW_X (12, [some (.ref 0), some (.int l1), some (.int l2), some (.long l3), none, some (.null)], [], (I, J)) from rfl)) ?_
  show zm_V zT_X9_write zW_X (12, [some (.ref 0), some (.int l1), some (.int l2), some (.long l3), none, some (.null)], [], (I, J)) = _
  refine Eq.trans ((zm_V_eq _ _ _).trans (show zm_step zT_X9_write zW_X (zm_V zT_X9_write zW_X) (12, [some (.ref 0), some (.int l1), some (.int l2), some (.long l3), none, some (.null)], [], (I, J)) = some (some (.int (-2)), (I, J)) from rfl)) ?_
  rfl
set_option maxRecDepth 20000 in
theorem zpx_write_54 (h : zy_X I J) (l2 : Int32) (l3 : Int64) : zF_X9_write zW_X [.ref 0, .int 0, .int l2, .long l3] (I, J) = some (some (.int (-6)), (I, J)) := by
  show zm_V zT_X9_write zW_X (0, [some (.ref 0), some (.int 0), some (.int l2), some (.long l3), none, none], [], (I, J)) = _
  refine Eq.trans ((zm_V_eq _ _ _).trans ((show zm_step zT_X9_write zW_X (zm_V zT_X9_write zW_X) (0, [some (.ref 0), some (.int 0), some (.int l2), some (.long l3), none, none], [], (I, J)) = zm_app (2, some 9, true, [], zF_X9_rowAt) zW_X [.ref 0, .int 0] (I, J) (fun v N => zm_V zT_X9_write zW_X (5, [some (.ref 0), some (.int 0), some (.int l2), some (.long l3), none, none], v.toList ++ [], N)) from rfl).trans (zm_app_s rfl rfl (zgx_rowAt_r0)))) ?_
  show zm_V zT_X9_write zW_X (5, [some (.ref 0), some (.int 0), some (.int l2), some (.long l3), none, none], [.ref 54], (I, J)) = _
  refine Eq.trans ((zm_V_eq _ _ _).trans (show zm_step zT_X9_write zW_X (zm_V zT_X9_write zW_X) (5, [some (.ref 0), some (.int 0), some (.int l2), some (.long l3), none, none], [.ref 54], (I, J)) = zm_V zT_X9_write zW_X (15, [some (.ref 0), some (.int 0), some (.int l2), some (.long l3), none, some (.ref 54)], [], (I, J)) from rfl)) ?_
  show zm_V zT_X9_write zW_X (15, [some (.ref 0), some (.int 0), some (.int l2), some (.long l3), none, some (.ref 54)], [], (I, J)) = _
  refine Eq.trans ((zm_V_eq _ _ _).trans ((show zm_step zT_X9_write zW_X (zm_V zT_X9_write zW_X) (15, [some (.ref 0), some (.int 0), some (.int l2), some (.long l3), none, some (.ref 54)], [], (I, J)) = zm_app (1, some 7, false, [(0, 2)], zF_X7_isMade) zW_X [.ref 54] (I, J) (fun v N => zm_V zT_X9_write zW_X (20, [some (.ref 0), some (.int 0), some (.int l2), some (.long l3), none, some (.ref 54)], v.toList ++ [], N)) from rfl).trans (zm_app_l (bs := [(54, 2)]) rfl rfl rfl rfl rfl rfl (zgx_isMade_54 h)))) ?_
  simp only [zm_mrg_id]
  show zm_V zT_X9_write zW_X (20, [some (.ref 0), some (.int 0), some (.int l2), some (.long l3), none, some (.ref 54)], [.int 0], (I, J)) = _
  refine Eq.trans ((zm_V_eq _ _ _).trans (show zm_step zT_X9_write zW_X (zm_V zT_X9_write zW_X) (20, [some (.ref 0), some (.int 0), some (.int l2), some (.long l3), none, some (.ref 54)], [.int 0], (I, J)) = if ((0 : Int32) : Int32) = 0 then zm_V zT_X9_write zW_X (23, [some (.ref 0), some (.int 0), some (.int l2), some (.long l3), none, some (.ref 54)], [], (I, J)) else zm_V zT_X9_write zW_X (26, [some (.ref 0), some (.int 0), some (.int l2), some (.long l3), none, some (.ref 54)], [], (I, J)) from rfl)) ?_
  rw [if_pos (rfl)]
  show zm_V zT_X9_write zW_X (23, [some (.ref 0), some (.int 0), some (.int l2), some (.long l3), none, some (.ref 54)], [], (I, J)) = _
  refine Eq.trans ((zm_V_eq _ _ _).trans (show zm_step zT_X9_write zW_X (zm_V zT_X9_write zW_X) (23, [some (.ref 0), some (.int 0), some (.int l2), some (.long l3), none, some (.ref 54)], [], (I, J)) = some (some (.int (-6)), (I, J)) from rfl)) ?_
  rfl
set_option maxRecDepth 20000 in
theorem zpx_write_56 (h : zy_X I J) (l2 : Int32) (l3 : Int64) : zF_X9_write zW_X [.ref 0, .int 1, .int l2, .long l3] (I, J) = some (some (.int (-6)), (I, J)) := by
  show zm_V zT_X9_write zW_X (0, [some (.ref 0), some (.int 1), some (.int l2), some (.long l3), none, none], [], (I, J)) = _
  refine Eq.trans ((zm_V_eq _ _ _).trans ((show zm_step zT_X9_write zW_X (zm_V zT_X9_write zW_X) (0, [some (.ref 0), some (.int 1), some (.int l2), some (.long l3), none, none], [], (I, J)) = zm_app (2, some 9, true, [], zF_X9_rowAt) zW_X [.ref 0, .int 1] (I, J) (fun v N => zm_V zT_X9_write zW_X (5, [some (.ref 0), some (.int 1), some (.int l2), some (.long l3), none, none], v.toList ++ [], N)) from rfl).trans (zm_app_s rfl rfl (zgx_rowAt_r1)))) ?_
  show zm_V zT_X9_write zW_X (5, [some (.ref 0), some (.int 1), some (.int l2), some (.long l3), none, none], [.ref 56], (I, J)) = _
  refine Eq.trans ((zm_V_eq _ _ _).trans (show zm_step zT_X9_write zW_X (zm_V zT_X9_write zW_X) (5, [some (.ref 0), some (.int 1), some (.int l2), some (.long l3), none, none], [.ref 56], (I, J)) = zm_V zT_X9_write zW_X (15, [some (.ref 0), some (.int 1), some (.int l2), some (.long l3), none, some (.ref 56)], [], (I, J)) from rfl)) ?_
  show zm_V zT_X9_write zW_X (15, [some (.ref 0), some (.int 1), some (.int l2), some (.long l3), none, some (.ref 56)], [], (I, J)) = _
  refine Eq.trans ((zm_V_eq _ _ _).trans ((show zm_step zT_X9_write zW_X (zm_V zT_X9_write zW_X) (15, [some (.ref 0), some (.int 1), some (.int l2), some (.long l3), none, some (.ref 56)], [], (I, J)) = zm_app (1, some 7, false, [(0, 2)], zF_X7_isMade) zW_X [.ref 56] (I, J) (fun v N => zm_V zT_X9_write zW_X (20, [some (.ref 0), some (.int 1), some (.int l2), some (.long l3), none, some (.ref 56)], v.toList ++ [], N)) from rfl).trans (zm_app_l (bs := [(56, 2)]) rfl rfl rfl rfl rfl rfl (zgx_isMade_56 h)))) ?_
  simp only [zm_mrg_id]
  show zm_V zT_X9_write zW_X (20, [some (.ref 0), some (.int 1), some (.int l2), some (.long l3), none, some (.ref 56)], [.int 0], (I, J)) = _
  refine Eq.trans ((zm_V_eq _ _ _).trans (show zm_step zT_X9_write zW_X (zm_V zT_X9_write zW_X) (20, [some (.ref 0), some (.int 1), some (.int l2), some (.long l3), none, some (.ref 56)], [.int 0], (I, J)) = if ((0 : Int32) : Int32) = 0 then zm_V zT_X9_write zW_X (23, [some (.ref 0), some (.int 1), some (.int l2), some (.long l3), none, some (.ref 56)], [], (I, J)) else zm_V zT_X9_write zW_X (26, [some (.ref 0), some (.int 1), some (.int l2), some (.long l3), none, some (.ref 56)], [], (I, J)) from rfl)) ?_
  rw [if_pos (rfl)]
  show zm_V zT_X9_write zW_X (23, [some (.ref 0), some (.int 1), some (.int l2), some (.long l3), none, some (.ref 56)], [], (I, J)) = _
  refine Eq.trans ((zm_V_eq _ _ _).trans (show zm_step zT_X9_write zW_X (zm_V zT_X9_write zW_X) (23, [some (.ref 0), some (.int 1), some (.int l2), some (.long l3), none, some (.ref 56)], [], (I, J)) = some (some (.int (-6)), (I, J)) from rfl)) ?_
  rfl
set_option maxRecDepth 20000 in
theorem zpx_write_58 (h : zy_X I J) (l2 : Int32) (l3 : Int64) : zF_X9_write zW_X [.ref 0, .int 2, .int l2, .long l3] (I, J) = some (some (.int (-6)), (I, J)) := by
  show zm_V zT_X9_write zW_X (0, [some (.ref 0), some (.int 2), some (.int l2), some (.long l3), none, none], [], (I, J)) = _
  refine Eq.trans ((zm_V_eq _ _ _).trans ((show zm_step zT_X9_write zW_X (zm_V zT_X9_write zW_X) (0, [some (.ref 0), some (.int 2), some (.int l2), some (.long l3), none, none], [], (I, J)) = zm_app (2, some 9, true, [], zF_X9_rowAt) zW_X [.ref 0, .int 2] (I, J) (fun v N => zm_V zT_X9_write zW_X (5, [some (.ref 0), some (.int 2), some (.int l2), some (.long l3), none, none], v.toList ++ [], N)) from rfl).trans (zm_app_s rfl rfl (zgx_rowAt_r2)))) ?_
  show zm_V zT_X9_write zW_X (5, [some (.ref 0), some (.int 2), some (.int l2), some (.long l3), none, none], [.ref 58], (I, J)) = _
  refine Eq.trans ((zm_V_eq _ _ _).trans (show zm_step zT_X9_write zW_X (zm_V zT_X9_write zW_X) (5, [some (.ref 0), some (.int 2), some (.int l2), some (.long l3), none, none], [.ref 58], (I, J)) = zm_V zT_X9_write zW_X (15, [some (.ref 0), some (.int 2), some (.int l2), some (.long l3), none, some (.ref 58)], [], (I, J)) from rfl)) ?_
  show zm_V zT_X9_write zW_X (15, [some (.ref 0), some (.int 2), some (.int l2), some (.long l3), none, some (.ref 58)], [], (I, J)) = _
  refine Eq.trans ((zm_V_eq _ _ _).trans ((show zm_step zT_X9_write zW_X (zm_V zT_X9_write zW_X) (15, [some (.ref 0), some (.int 2), some (.int l2), some (.long l3), none, some (.ref 58)], [], (I, J)) = zm_app (1, some 7, false, [(0, 2)], zF_X7_isMade) zW_X [.ref 58] (I, J) (fun v N => zm_V zT_X9_write zW_X (20, [some (.ref 0), some (.int 2), some (.int l2), some (.long l3), none, some (.ref 58)], v.toList ++ [], N)) from rfl).trans (zm_app_l (bs := [(58, 2)]) rfl rfl rfl rfl rfl rfl (zgx_isMade_58 h)))) ?_
  simp only [zm_mrg_id]
  show zm_V zT_X9_write zW_X (20, [some (.ref 0), some (.int 2), some (.int l2), some (.long l3), none, some (.ref 58)], [.int 0], (I, J)) = _
  refine Eq.trans ((zm_V_eq _ _ _).trans (show zm_step zT_X9_write zW_X (zm_V zT_X9_write zW_X) (20, [some (.ref 0), some (.int 2), some (.int l2), some (.long l3), none, some (.ref 58)], [.int 0], (I, J)) = if ((0 : Int32) : Int32) = 0 then zm_V zT_X9_write zW_X (23, [some (.ref 0), some (.int 2), some (.int l2), some (.long l3), none, some (.ref 58)], [], (I, J)) else zm_V zT_X9_write zW_X (26, [some (.ref 0), some (.int 2), some (.int l2), some (.long l3), none, some (.ref 58)], [], (I, J)) from rfl)) ?_
  rw [if_pos (rfl)]
  show zm_V zT_X9_write zW_X (23, [some (.ref 0), some (.int 2), some (.int l2), some (.long l3), none, some (.ref 58)], [], (I, J)) = _
  refine Eq.trans ((zm_V_eq _ _ _).trans (show zm_step zT_X9_write zW_X (zm_V zT_X9_write zW_X) (23, [some (.ref 0), some (.int 2), some (.int l2), some (.long l3), none, some (.ref 58)], [], (I, J)) = some (some (.int (-6)), (I, J)) from rfl)) ?_
  rfl
set_option maxRecDepth 20000 in
theorem zpx_write_60 (h : zy_X I J) (l2 : Int32) (l3 : Int64) : zF_X9_write zW_X [.ref 0, .int 3, .int l2, .long l3] (I, J) = some (some (.int (-6)), (I, J)) := by
  show zm_V zT_X9_write zW_X (0, [some (.ref 0), some (.int 3), some (.int l2), some (.long l3), none, none], [], (I, J)) = _
  refine Eq.trans ((zm_V_eq _ _ _).trans ((show zm_step zT_X9_write zW_X (zm_V zT_X9_write zW_X) (0, [some (.ref 0), some (.int 3), some (.int l2), some (.long l3), none, none], [], (I, J)) = zm_app (2, some 9, true, [], zF_X9_rowAt) zW_X [.ref 0, .int 3] (I, J) (fun v N => zm_V zT_X9_write zW_X (5, [some (.ref 0), some (.int 3), some (.int l2), some (.long l3), none, none], v.toList ++ [], N)) from rfl).trans (zm_app_s rfl rfl (zgx_rowAt_r3)))) ?_
  show zm_V zT_X9_write zW_X (5, [some (.ref 0), some (.int 3), some (.int l2), some (.long l3), none, none], [.ref 60], (I, J)) = _
  refine Eq.trans ((zm_V_eq _ _ _).trans (show zm_step zT_X9_write zW_X (zm_V zT_X9_write zW_X) (5, [some (.ref 0), some (.int 3), some (.int l2), some (.long l3), none, none], [.ref 60], (I, J)) = zm_V zT_X9_write zW_X (15, [some (.ref 0), some (.int 3), some (.int l2), some (.long l3), none, some (.ref 60)], [], (I, J)) from rfl)) ?_
  show zm_V zT_X9_write zW_X (15, [some (.ref 0), some (.int 3), some (.int l2), some (.long l3), none, some (.ref 60)], [], (I, J)) = _
  refine Eq.trans ((zm_V_eq _ _ _).trans ((show zm_step zT_X9_write zW_X (zm_V zT_X9_write zW_X) (15, [some (.ref 0), some (.int 3), some (.int l2), some (.long l3), none, some (.ref 60)], [], (I, J)) = zm_app (1, some 7, false, [(0, 2)], zF_X7_isMade) zW_X [.ref 60] (I, J) (fun v N => zm_V zT_X9_write zW_X (20, [some (.ref 0), some (.int 3), some (.int l2), some (.long l3), none, some (.ref 60)], v.toList ++ [], N)) from rfl).trans (zm_app_l (bs := [(60, 2)]) rfl rfl rfl rfl rfl rfl (zgx_isMade_60 h)))) ?_
  simp only [zm_mrg_id]
  show zm_V zT_X9_write zW_X (20, [some (.ref 0), some (.int 3), some (.int l2), some (.long l3), none, some (.ref 60)], [.int 0], (I, J)) = _
  refine Eq.trans ((zm_V_eq _ _ _).trans (show zm_step zT_X9_write zW_X (zm_V zT_X9_write zW_X) (20, [some (.ref 0), some (.int 3), some (.int l2), some (.long l3), none, some (.ref 60)], [.int 0], (I, J)) = if ((0 : Int32) : Int32) = 0 then zm_V zT_X9_write zW_X (23, [some (.ref 0), some (.int 3), some (.int l2), some (.long l3), none, some (.ref 60)], [], (I, J)) else zm_V zT_X9_write zW_X (26, [some (.ref 0), some (.int 3), some (.int l2), some (.long l3), none, some (.ref 60)], [], (I, J)) from rfl)) ?_
  rw [if_pos (rfl)]
  show zm_V zT_X9_write zW_X (23, [some (.ref 0), some (.int 3), some (.int l2), some (.long l3), none, some (.ref 60)], [], (I, J)) = _
  refine Eq.trans ((zm_V_eq _ _ _).trans (show zm_step zT_X9_write zW_X (zm_V zT_X9_write zW_X) (23, [some (.ref 0), some (.int 3), some (.int l2), some (.long l3), none, some (.ref 60)], [], (I, J)) = some (some (.int (-6)), (I, J)) from rfl)) ?_
  rfl
set_option maxRecDepth 20000 in
theorem zpx_paste_n {l1 : Int32} (hn : l1 < 0 ∨ 4 ≤ l1) (l2 l3 l4 l5 : Int32) (hq : zF_X9_rowAt zW_X [.ref 0, .int l3] (I, J) = some (some .null, (I, J))) : zF_X9_paste zW_X [.ref 0, .int l1, .int l2, .int l3, .int l4, .int l5] (I, J) = some (some (.int (-2)), (I, J)) := by
  show zm_V zT_X9_paste zW_X (0, [some (.ref 0), some (.int l1), some (.int l2), some (.int l3), some (.int l4), some (.int l5), none, none], [], (I, J)) = _
  refine Eq.trans ((zm_V_eq _ _ _).trans ((show zm_step zT_X9_paste zW_X (zm_V zT_X9_paste zW_X) (0, [some (.ref 0), some (.int l1), some (.int l2), some (.int l3), some (.int l4), some (.int l5), none, none], [], (I, J)) = zm_app (2, some 9, true, [], zF_X9_rowAt) zW_X [.ref 0, .int l1] (I, J) (fun v N => zm_V zT_X9_paste zW_X (5, [some (.ref 0), some (.int l1), some (.int l2), some (.int l3), some (.int l4), some (.int l5), none, none], v.toList ++ [], N)) from rfl).trans (zm_app_s rfl rfl (zgx_rowAt_n hn)))) ?_
  show zm_V zT_X9_paste zW_X (5, [some (.ref 0), some (.int l1), some (.int l2), some (.int l3), some (.int l4), some (.int l5), none, none], [.null], (I, J)) = _
  refine Eq.trans ((zm_V_eq _ _ _).trans ((show zm_step zT_X9_paste zW_X (zm_V zT_X9_paste zW_X) (5, [some (.ref 0), some (.int l1), some (.int l2), some (.int l3), some (.int l4), some (.int l5), none, none], [.null], (I, J)) = zm_app (2, some 9, true, [], zF_X9_rowAt) zW_X [.ref 0, .int l3] (I, J) (fun v N => zm_V zT_X9_paste zW_X (12, [some (.ref 0), some (.int l1), some (.int l2), some (.int l3), some (.int l4), some (.int l5), some (.null), none], v.toList ++ [], N)) from rfl).trans (zm_app_s rfl rfl (hq)))) ?_
  show zm_V zT_X9_paste zW_X (12, [some (.ref 0), some (.int l1), some (.int l2), some (.int l3), some (.int l4), some (.int l5), some (.null), none], [.null], (I, J)) = _
  refine Eq.trans ((zm_V_eq _ _ _).trans (show zm_step zT_X9_paste zW_X (zm_V zT_X9_paste zW_X) (12, [some (.ref 0), some (.int l1), some (.int l2), some (.int l3), some (.int l4), some (.int l5), some (.null), none], [.null], (I, J)) = zm_V zT_X9_paste zW_X (24, [some (.ref 0), some (.int l1), some (.int l2), some (.int l3), some (.int l4), some (.int l5), some (.null), some (.null)], [], (I, J)) from rfl)) ?_
  show zm_V zT_X9_paste zW_X (24, [some (.ref 0), some (.int l1), some (.int l2), some (.int l3), some (.int l4), some (.int l5), some (.null), some (.null)], [], (I, J)) = _
  refine Eq.trans ((zm_V_eq _ _ _).trans (show zm_step zT_X9_paste zW_X (zm_V zT_X9_paste zW_X) (24, [some (.ref 0), some (.int l1), some (.int l2), some (.int l3), some (.int l4), some (.int l5), some (.null), some (.null)], [], (I, J)) = some (some (.int (-2)), (I, J)) from rfl)) ?_
  rfl
set_option maxRecDepth 20000 in
theorem zpx_paste_m {l1 : Int32} (hn : l1 < 0 ∨ 4 ≤ l1) (l2 l3 l4 l5 : Int32) {hh : Nat} (hq : zF_X9_rowAt zW_X [.ref 0, .int l3] (I, J) = some (some (.ref hh), (I, J))) : zF_X9_paste zW_X [.ref 0, .int l1, .int l2, .int l3, .int l4, .int l5] (I, J) = some (some (.int (-2)), (I, J)) := by
  show zm_V zT_X9_paste zW_X (0, [some (.ref 0), some (.int l1), some (.int l2), some (.int l3), some (.int l4), some (.int l5), none, none], [], (I, J)) = _
  refine Eq.trans ((zm_V_eq _ _ _).trans ((show zm_step zT_X9_paste zW_X (zm_V zT_X9_paste zW_X) (0, [some (.ref 0), some (.int l1), some (.int l2), some (.int l3), some (.int l4), some (.int l5), none, none], [], (I, J)) = zm_app (2, some 9, true, [], zF_X9_rowAt) zW_X [.ref 0, .int l1] (I, J) (fun v N => zm_V zT_X9_paste zW_X (5, [some (.ref 0), some (.int l1), some (.int l2), some (.int l3), some (.int l4), some (.int l5), none, none], v.toList ++ [], N)) from rfl).trans (zm_app_s rfl rfl (zgx_rowAt_n hn)))) ?_
  show zm_V zT_X9_paste zW_X (5, [some (.ref 0), some (.int l1), some (.int l2), some (.int l3), some (.int l4), some (.int l5), none, none], [.null], (I, J)) = _
  refine Eq.trans ((zm_V_eq _ _ _).trans ((show zm_step zT_X9_paste zW_X (zm_V zT_X9_paste zW_X) (5, [some (.ref 0), some (.int l1), some (.int l2), some (.int l3), some (.int l4), some (.int l5), none, none], [.null], (I, J)) = zm_app (2, some 9, true, [], zF_X9_rowAt) zW_X [.ref 0, .int l3] (I, J) (fun v N => zm_V zT_X9_paste zW_X (12, [some (.ref 0), some (.int l1), some (.int l2), some (.int l3), some (.int l4), some (.int l5), some (.null), none], v.toList ++ [], N)) from rfl).trans (zm_app_s rfl rfl (hq)))) ?_
  show zm_V zT_X9_paste zW_X (12, [some (.ref 0), some (.int l1), some (.int l2), some (.int l3), some (.int l4), some (.int l5), some (.null), none], [.ref hh], (I, J)) = _
  refine Eq.trans ((zm_V_eq _ _ _).trans (show zm_step zT_X9_paste zW_X (zm_V zT_X9_paste zW_X) (12, [some (.ref 0), some (.int l1), some (.int l2), some (.int l3), some (.int l4), some (.int l5), some (.null), none], [.ref hh], (I, J)) = zm_V zT_X9_paste zW_X (24, [some (.ref 0), some (.int l1), some (.int l2), some (.int l3), some (.int l4), some (.int l5), some (.null), some (.ref hh)], [], (I, J)) from rfl)) ?_
  show zm_V zT_X9_paste zW_X (24, [some (.ref 0), some (.int l1), some (.int l2), some (.int l3), some (.int l4), some (.int l5), some (.null), some (.ref hh)], [], (I, J)) = _
  refine Eq.trans ((zm_V_eq _ _ _).trans (show zm_step zT_X9_paste zW_X (zm_V zT_X9_paste zW_X) (24, [some (.ref 0), some (.int l1), some (.int l2), some (.int l3), some (.int l4), some (.int l5), some (.null), some (.ref hh)], [], (I, J)) = some (some (.int (-2)), (I, J)) from rfl)) ?_
  rfl
set_option maxRecDepth 20000 in
theorem zpx_paste_54n (l2 l3 l4 l5 : Int32) (hq : zF_X9_rowAt zW_X [.ref 0, .int l3] (I, J) = some (some .null, (I, J))) : zF_X9_paste zW_X [.ref 0, .int 0, .int l2, .int l3, .int l4, .int l5] (I, J) = some (some (.int (-2)), (I, J)) := by
  show zm_V zT_X9_paste zW_X (0, [some (.ref 0), some (.int 0), some (.int l2), some (.int l3), some (.int l4), some (.int l5), none, none], [], (I, J)) = _
  refine Eq.trans ((zm_V_eq _ _ _).trans ((show zm_step zT_X9_paste zW_X (zm_V zT_X9_paste zW_X) (0, [some (.ref 0), some (.int 0), some (.int l2), some (.int l3), some (.int l4), some (.int l5), none, none], [], (I, J)) = zm_app (2, some 9, true, [], zF_X9_rowAt) zW_X [.ref 0, .int 0] (I, J) (fun v N => zm_V zT_X9_paste zW_X (5, [some (.ref 0), some (.int 0), some (.int l2), some (.int l3), some (.int l4), some (.int l5), none, none], v.toList ++ [], N)) from rfl).trans (zm_app_s rfl rfl (zgx_rowAt_r0)))) ?_
  show zm_V zT_X9_paste zW_X (5, [some (.ref 0), some (.int 0), some (.int l2), some (.int l3), some (.int l4), some (.int l5), none, none], [.ref 54], (I, J)) = _
  refine Eq.trans ((zm_V_eq _ _ _).trans ((show zm_step zT_X9_paste zW_X (zm_V zT_X9_paste zW_X) (5, [some (.ref 0), some (.int 0), some (.int l2), some (.int l3), some (.int l4), some (.int l5), none, none], [.ref 54], (I, J)) = zm_app (2, some 9, true, [], zF_X9_rowAt) zW_X [.ref 0, .int l3] (I, J) (fun v N => zm_V zT_X9_paste zW_X (12, [some (.ref 0), some (.int 0), some (.int l2), some (.int l3), some (.int l4), some (.int l5), some (.ref 54), none], v.toList ++ [], N)) from rfl).trans (zm_app_s rfl rfl (hq)))) ?_
  show zm_V zT_X9_paste zW_X (12, [some (.ref 0), some (.int 0), some (.int l2), some (.int l3), some (.int l4), some (.int l5), some (.ref 54), none], [.null], (I, J)) = _
  refine Eq.trans ((zm_V_eq _ _ _).trans (show zm_step zT_X9_paste zW_X (zm_V zT_X9_paste zW_X) (12, [some (.ref 0), some (.int 0), some (.int l2), some (.int l3), some (.int l4), some (.int l5), some (.ref 54), none], [.null], (I, J)) = zm_V zT_X9_paste zW_X (19, [some (.ref 0), some (.int 0), some (.int l2), some (.int l3), some (.int l4), some (.int l5), some (.ref 54), some (.null)], [], (I, J)) from rfl)) ?_
  show zm_V zT_X9_paste zW_X (19, [some (.ref 0), some (.int 0), some (.int l2), some (.int l3), some (.int l4), some (.int l5), some (.ref 54), some (.null)], [], (I, J)) = _
  refine Eq.trans ((zm_V_eq _ _ _).trans (show zm_step zT_X9_paste zW_X (zm_V zT_X9_paste zW_X) (19, [some (.ref 0), some (.int 0), some (.int l2), some (.int l3), some (.int l4), some (.int l5), some (.ref 54), some (.null)], [], (I, J)) = zm_V zT_X9_paste zW_X (24, [some (.ref 0), some (.int 0), some (.int l2), some (.int l3), some (.int l4), some (.int l5), some (.ref 54), some (.null)], [], (I, J)) from rfl)) ?_
  show zm_V zT_X9_paste zW_X (24, [some (.ref 0), some (.int 0), some (.int l2), some (.int l3), some (.int l4), some (.int l5), some (.ref 54), some (.null)], [], (I, J)) = _
  refine Eq.trans ((zm_V_eq _ _ _).trans (show zm_step zT_X9_paste zW_X (zm_V zT_X9_paste zW_X) (24, [some (.ref 0), some (.int 0), some (.int l2), some (.int l3), some (.int l4), some (.int l5), some (.ref 54), some (.null)], [], (I, J)) = some (some (.int (-2)), (I, J)) from rfl)) ?_
  rfl
set_option maxRecDepth 20000 in
theorem zpx_paste_54r (h : zy_X I J) (l2 l3 l4 l5 : Int32) {hh : Nat} (hq : zF_X9_rowAt zW_X [.ref 0, .int l3] (I, J) = some (some (.ref hh), (I, J))) : zF_X9_paste zW_X [.ref 0, .int 0, .int l2, .int l3, .int l4, .int l5] (I, J) = some (some (.int (-6)), (I, J)) := by
  show zm_V zT_X9_paste zW_X (0, [some (.ref 0), some (.int 0), some (.int l2), some (.int l3), some (.int l4), some (.int l5), none, none], [], (I, J)) = _
  refine Eq.trans ((zm_V_eq _ _ _).trans ((show zm_step zT_X9_paste zW_X (zm_V zT_X9_paste zW_X) (0, [some (.ref 0), some (.int 0), some (.int l2), some (.int l3), some (.int l4), some (.int l5), none, none], [], (I, J)) = zm_app (2, some 9, true, [], zF_X9_rowAt) zW_X [.ref 0, .int 0] (I, J) (fun v N => zm_V zT_X9_paste zW_X (5, [some (.ref 0), some (.int 0), some (.int l2), some (.int l3), some (.int l4), some (.int l5), none, none], v.toList ++ [], N)) from rfl).trans (zm_app_s rfl rfl (zgx_rowAt_r0)))) ?_
  show zm_V zT_X9_paste zW_X (5, [some (.ref 0), some (.int 0), some (.int l2), some (.int l3), some (.int l4), some (.int l5), none, none], [.ref 54], (I, J)) = _
  refine Eq.trans ((zm_V_eq _ _ _).trans ((show zm_step zT_X9_paste zW_X (zm_V zT_X9_paste zW_X) (5, [some (.ref 0), some (.int 0), some (.int l2), some (.int l3), some (.int l4), some (.int l5), none, none], [.ref 54], (I, J)) = zm_app (2, some 9, true, [], zF_X9_rowAt) zW_X [.ref 0, .int l3] (I, J) (fun v N => zm_V zT_X9_paste zW_X (12, [some (.ref 0), some (.int 0), some (.int l2), some (.int l3), some (.int l4), some (.int l5), some (.ref 54), none], v.toList ++ [], N)) from rfl).trans (zm_app_s rfl rfl (hq)))) ?_
  show zm_V zT_X9_paste zW_X (12, [some (.ref 0), some (.int 0), some (.int l2), some (.int l3), some (.int l4), some (.int l5), some (.ref 54), none], [.ref hh], (I, J)) = _
  refine Eq.trans ((zm_V_eq _ _ _).trans (show zm_step zT_X9_paste zW_X (zm_V zT_X9_paste zW_X) (12, [some (.ref 0), some (.int 0), some (.int l2), some (.int l3), some (.int l4), some (.int l5), some (.ref 54), none], [.ref hh], (I, J)) = zm_V zT_X9_paste zW_X (19, [some (.ref 0), some (.int 0), some (.int l2), some (.int l3), some (.int l4), some (.int l5), some (.ref 54), some (.ref hh)], [], (I, J)) from rfl)) ?_
  show zm_V zT_X9_paste zW_X (19, [some (.ref 0), some (.int 0), some (.int l2), some (.int l3), some (.int l4), some (.int l5), some (.ref 54), some (.ref hh)], [], (I, J)) = _
  refine Eq.trans ((zm_V_eq _ _ _).trans (show zm_step zT_X9_paste zW_X (zm_V zT_X9_paste zW_X) (19, [some (.ref 0), some (.int 0), some (.int l2), some (.int l3), some (.int l4), some (.int l5), some (.ref 54), some (.ref hh)], [], (I, J)) = zm_V zT_X9_paste zW_X (27, [some (.ref 0), some (.int 0), some (.int l2), some (.int l3), some (.int l4), some (.int l5), some (.ref 54), some (.ref hh)], [], (I, J)) from rfl)) ?_
  show zm_V zT_X9_paste zW_X (27, [some (.ref 0), some (.int 0), some (.int l2), some (.int l3), some (.int l4), some (.int l5), some (.ref 54), some (.ref hh)], [], (I, J)) = _
  refine Eq.trans ((zm_V_eq _ _ _).trans ((show zm_step zT_X9_paste zW_X (zm_V zT_X9_paste zW_X) (27, [some (.ref 0), some (.int 0), some (.int l2), some (.int l3), some (.int l4), some (.int l5), some (.ref 54), some (.ref hh)], [], (I, J)) = zm_app (1, some 7, false, [(0, 2)], zF_X7_isMade) zW_X [.ref 54] (I, J) (fun v N => zm_V zT_X9_paste zW_X (32, [some (.ref 0), some (.int 0), some (.int l2), some (.int l3), some (.int l4), some (.int l5), some (.ref 54), some (.ref hh)], v.toList ++ [], N)) from rfl).trans (zm_app_l (bs := [(54, 2)]) rfl rfl rfl rfl rfl rfl (zgx_isMade_54 h)))) ?_
  simp only [zm_mrg_id]
  show zm_V zT_X9_paste zW_X (32, [some (.ref 0), some (.int 0), some (.int l2), some (.int l3), some (.int l4), some (.int l5), some (.ref 54), some (.ref hh)], [.int 0], (I, J)) = _
  refine Eq.trans ((zm_V_eq _ _ _).trans (show zm_step zT_X9_paste zW_X (zm_V zT_X9_paste zW_X) (32, [some (.ref 0), some (.int 0), some (.int l2), some (.int l3), some (.int l4), some (.int l5), some (.ref 54), some (.ref hh)], [.int 0], (I, J)) = if ((0 : Int32) : Int32) = 0 then zm_V zT_X9_paste zW_X (43, [some (.ref 0), some (.int 0), some (.int l2), some (.int l3), some (.int l4), some (.int l5), some (.ref 54), some (.ref hh)], [], (I, J)) else zm_V zT_X9_paste zW_X (35, [some (.ref 0), some (.int 0), some (.int l2), some (.int l3), some (.int l4), some (.int l5), some (.ref 54), some (.ref hh)], [], (I, J)) from rfl)) ?_
  rw [if_pos (rfl)]
  show zm_V zT_X9_paste zW_X (43, [some (.ref 0), some (.int 0), some (.int l2), some (.int l3), some (.int l4), some (.int l5), some (.ref 54), some (.ref hh)], [], (I, J)) = _
  refine Eq.trans ((zm_V_eq _ _ _).trans (show zm_step zT_X9_paste zW_X (zm_V zT_X9_paste zW_X) (43, [some (.ref 0), some (.int 0), some (.int l2), some (.int l3), some (.int l4), some (.int l5), some (.ref 54), some (.ref hh)], [], (I, J)) = some (some (.int (-6)), (I, J)) from rfl)) ?_
  rfl
set_option maxRecDepth 20000 in
theorem zpx_paste_56n (l2 l3 l4 l5 : Int32) (hq : zF_X9_rowAt zW_X [.ref 0, .int l3] (I, J) = some (some .null, (I, J))) : zF_X9_paste zW_X [.ref 0, .int 1, .int l2, .int l3, .int l4, .int l5] (I, J) = some (some (.int (-2)), (I, J)) := by
  show zm_V zT_X9_paste zW_X (0, [some (.ref 0), some (.int 1), some (.int l2), some (.int l3), some (.int l4), some (.int l5), none, none], [], (I, J)) = _
  refine Eq.trans ((zm_V_eq _ _ _).trans ((show zm_step zT_X9_paste zW_X (zm_V zT_X9_paste zW_X) (0, [some (.ref 0), some (.int 1), some (.int l2), some (.int l3), some (.int l4), some (.int l5), none, none], [], (I, J)) = zm_app (2, some 9, true, [], zF_X9_rowAt) zW_X [.ref 0, .int 1] (I, J) (fun v N => zm_V zT_X9_paste zW_X (5, [some (.ref 0), some (.int 1), some (.int l2), some (.int l3), some (.int l4), some (.int l5), none, none], v.toList ++ [], N)) from rfl).trans (zm_app_s rfl rfl (zgx_rowAt_r1)))) ?_
  show zm_V zT_X9_paste zW_X (5, [some (.ref 0), some (.int 1), some (.int l2), some (.int l3), some (.int l4), some (.int l5), none, none], [.ref 56], (I, J)) = _
  refine Eq.trans ((zm_V_eq _ _ _).trans ((show zm_step zT_X9_paste zW_X (zm_V zT_X9_paste zW_X) (5, [some (.ref 0), some (.int 1), some (.int l2), some (.int l3), some (.int l4), some (.int l5), none, none], [.ref 56], (I, J)) = zm_app (2, some 9, true, [], zF_X9_rowAt) zW_X [.ref 0, .int l3] (I, J) (fun v N => zm_V zT_X9_paste zW_X (12, [some (.ref 0), some (.int 1), some (.int l2), some (.int l3), some (.int l4), some (.int l5), some (.ref 56), none], v.toList ++ [], N)) from rfl).trans (zm_app_s rfl rfl (hq)))) ?_
  show zm_V zT_X9_paste zW_X (12, [some (.ref 0), some (.int 1), some (.int l2), some (.int l3), some (.int l4), some (.int l5), some (.ref 56), none], [.null], (I, J)) = _
  refine Eq.trans ((zm_V_eq _ _ _).trans (show zm_step zT_X9_paste zW_X (zm_V zT_X9_paste zW_X) (12, [some (.ref 0), some (.int 1), some (.int l2), some (.int l3), some (.int l4), some (.int l5), some (.ref 56), none], [.null], (I, J)) = zm_V zT_X9_paste zW_X (19, [some (.ref 0), some (.int 1), some (.int l2), some (.int l3), some (.int l4), some (.int l5), some (.ref 56), some (.null)], [], (I, J)) from rfl)) ?_
  show zm_V zT_X9_paste zW_X (19, [some (.ref 0), some (.int 1), some (.int l2), some (.int l3), some (.int l4), some (.int l5), some (.ref 56), some (.null)], [], (I, J)) = _
  refine Eq.trans ((zm_V_eq _ _ _).trans (show zm_step zT_X9_paste zW_X (zm_V zT_X9_paste zW_X) (19, [some (.ref 0), some (.int 1), some (.int l2), some (.int l3), some (.int l4), some (.int l5), some (.ref 56), some (.null)], [], (I, J)) = zm_V zT_X9_paste zW_X (24, [some (.ref 0), some (.int 1), some (.int l2), some (.int l3), some (.int l4), some (.int l5), some (.ref 56), some (.null)], [], (I, J)) from rfl)) ?_
  show zm_V zT_X9_paste zW_X (24, [some (.ref 0), some (.int 1), some (.int l2), some (.int l3), some (.int l4), some (.int l5), some (.ref 56), some (.null)], [], (I, J)) = _
  refine Eq.trans ((zm_V_eq _ _ _).trans (show zm_step zT_X9_paste zW_X (zm_V zT_X9_paste zW_X) (24, [some (.ref 0), some (.int 1), some (.int l2), some (.int l3), some (.int l4), some (.int l5), some (.ref 56), some (.null)], [], (I, J)) = some (some (.int (-2)), (I, J)) from rfl)) ?_
  rfl
set_option maxRecDepth 20000 in
theorem zpx_paste_56r (h : zy_X I J) (l2 l3 l4 l5 : Int32) {hh : Nat} (hq : zF_X9_rowAt zW_X [.ref 0, .int l3] (I, J) = some (some (.ref hh), (I, J))) : zF_X9_paste zW_X [.ref 0, .int 1, .int l2, .int l3, .int l4, .int l5] (I, J) = some (some (.int (-6)), (I, J)) := by
  show zm_V zT_X9_paste zW_X (0, [some (.ref 0), some (.int 1), some (.int l2), some (.int l3), some (.int l4), some (.int l5), none, none], [], (I, J)) = _
  refine Eq.trans ((zm_V_eq _ _ _).trans ((show zm_step zT_X9_paste zW_X (zm_V zT_X9_paste zW_X) (0, [some (.ref 0), some (.int 1), some (.int l2), some (.int l3), some (.int l4), some (.int l5), none, none], [], (I, J)) = zm_app (2, some 9, true, [], zF_X9_rowAt) zW_X [.ref 0, .int 1] (I, J) (fun v N => zm_V zT_X9_paste zW_X (5, [some (.ref 0), some (.int 1), some (.int l2), some (.int l3), some (.int l4), some (.int l5), none, none], v.toList ++ [], N)) from rfl).trans (zm_app_s rfl rfl (zgx_rowAt_r1)))) ?_
  show zm_V zT_X9_paste zW_X (5, [some (.ref 0), some (.int 1), some (.int l2), some (.int l3), some (.int l4), some (.int l5), none, none], [.ref 56], (I, J)) = _
  refine Eq.trans ((zm_V_eq _ _ _).trans ((show zm_step zT_X9_paste zW_X (zm_V zT_X9_paste zW_X) (5, [some (.ref 0), some (.int 1), some (.int l2), some (.int l3), some (.int l4), some (.int l5), none, none], [.ref 56], (I, J)) = zm_app (2, some 9, true, [], zF_X9_rowAt) zW_X [.ref 0, .int l3] (I, J) (fun v N => zm_V zT_X9_paste zW_X (12, [some (.ref 0), some (.int 1), some (.int l2), some (.int l3), some (.int l4), some (.int l5), some (.ref 56), none], v.toList ++ [], N)) from rfl).trans (zm_app_s rfl rfl (hq)))) ?_
  show zm_V zT_X9_paste zW_X (12, [some (.ref 0), some (.int 1), some (.int l2), some (.int l3), some (.int l4), some (.int l5), some (.ref 56), none], [.ref hh], (I, J)) = _
  refine Eq.trans ((zm_V_eq _ _ _).trans (show zm_step zT_X9_paste zW_X (zm_V zT_X9_paste zW_X) (12, [some (.ref 0), some (.int 1), some (.int l2), some (.int l3), some (.int l4), some (.int l5), some (.ref 56), none], [.ref hh], (I, J)) = zm_V zT_X9_paste zW_X (19, [some (.ref 0), some (.int 1), some (.int l2), some (.int l3), some (.int l4), some (.int l5), some (.ref 56), some (.ref hh)], [], (I, J)) from rfl)) ?_
  show zm_V zT_X9_paste zW_X (19, [some (.ref 0), some (.int 1), some (.int l2), some (.int l3), some (.int l4), some (.int l5), some (.ref 56), some (.ref hh)], [], (I, J)) = _
  refine Eq.trans ((zm_V_eq _ _ _).trans (show zm_step zT_X9_paste zW_X (zm_V zT_X9_paste zW_X) (19, [some (.ref 0), some (.int 1), some (.int l2), some (.int l3), some (.int l4), some (.int l5), some (.ref 56), some (.ref hh)], [], (I, J)) = zm_V zT_X9_paste zW_X (27, [some (.ref 0), some (.int 1), some (.int l2), some (.int l3), some (.int l4), some (.int l5), some (.ref 56), some (.ref hh)], [], (I, J)) from rfl)) ?_
  show zm_V zT_X9_paste zW_X (27, [some (.ref 0), some (.int 1), some (.int l2), some (.int l3), some (.int l4), some (.int l5), some (.ref 56), some (.ref hh)], [], (I, J)) = _
  refine Eq.trans ((zm_V_eq _ _ _).trans ((show zm_step zT_X9_paste zW_X (zm_V zT_X9_paste zW_X) (27, [some (.ref 0), some (.int 1), some (.int l2), some (.int l3), some (.int l4), some (.int l5), some (.ref 56), some (.ref hh)], [], (I, J)) = zm_app (1, some 7, false, [(0, 2)], zF_X7_isMade) zW_X [.ref 56] (I, J) (fun v N => zm_V zT_X9_paste zW_X (32, [some (.ref 0), some (.int 1), some (.int l2), some (.int l3), some (.int l4), some (.int l5), some (.ref 56), some (.ref hh)], v.toList ++ [], N)) from rfl).trans (zm_app_l (bs := [(56, 2)]) rfl rfl rfl rfl rfl rfl (zgx_isMade_56 h)))) ?_
  simp only [zm_mrg_id]
  show zm_V zT_X9_paste zW_X (32, [some (.ref 0), some (.int 1), some (.int l2), some (.int l3), some (.int l4), some (.int l5), some (.ref 56), some (.ref hh)], [.int 0], (I, J)) = _
  refine Eq.trans ((zm_V_eq _ _ _).trans (show zm_step zT_X9_paste zW_X (zm_V zT_X9_paste zW_X) (32, [some (.ref 0), some (.int 1), some (.int l2), some (.int l3), some (.int l4), some (.int l5), some (.ref 56), some (.ref hh)], [.int 0], (I, J)) = if ((0 : Int32) : Int32) = 0 then zm_V zT_X9_paste zW_X (43, [some (.ref 0), some (.int 1), some (.int l2), some (.int l3), some (.int l4), some (.int l5), some (.ref 56), some (.ref hh)], [], (I, J)) else zm_V zT_X9_paste zW_X (35, [some (.ref 0), some (.int 1), some (.int l2), some (.int l3), some (.int l4), some (.int l5), some (.ref 56), some (.ref hh)], [], (I, J)) from rfl)) ?_
  rw [if_pos (rfl)]
  show zm_V zT_X9_paste zW_X (43, [some (.ref 0), some (.int 1), some (.int l2), some (.int l3), some (.int l4), some (.int l5), some (.ref 56), some (.ref hh)], [], (I, J)) = _
  refine Eq.trans ((zm_V_eq _ _ _).trans (show zm_step zT_X9_paste zW_X (zm_V zT_X9_paste zW_X) (43, [some (.ref 0), some (.int 1), some (.int l2), some (.int l3), some (.int l4), some (.int l5), some (.ref 56), some (.ref hh)], [], (I, J)) = some (some (.int (-6)), (I, J)) from rfl)) ?_
  rfl
set_option maxRecDepth 20000 in
theorem zpx_paste_58n (l2 l3 l4 l5 : Int32) (hq : zF_X9_rowAt zW_X [.ref 0, .int l3] (I, J) = some (some .null, (I, J))) : zF_X9_paste zW_X [.ref 0, .int 2, .int l2, .int l3, .int l4, .int l5] (I, J) = some (some (.int (-2)), (I, J)) := by
  show zm_V zT_X9_paste zW_X (0, [some (.ref 0), some (.int 2), some (.int l2), some (.int l3), some (.int l4), some (.int l5), none, none], [], (I, J)) = _
  refine Eq.trans ((zm_V_eq _ _ _).trans ((show zm_step zT_X9_paste zW_X (zm_V zT_X9_paste zW_X) (0, [some (.ref 0), some (.int 2), some (.int l2), some (.int l3), some (.int l4), some (.int l5), none, none], [], (I, J)) = zm_app (2, some 9, true, [], zF_X9_rowAt) zW_X [.ref 0, .int 2] (I, J) (fun v N => zm_V zT_X9_paste zW_X (5, [some (.ref 0), some (.int 2), some (.int l2), some (.int l3), some (.int l4), some (.int l5), none, none], v.toList ++ [], N)) from rfl).trans (zm_app_s rfl rfl (zgx_rowAt_r2)))) ?_
  show zm_V zT_X9_paste zW_X (5, [some (.ref 0), some (.int 2), some (.int l2), some (.int l3), some (.int l4), some (.int l5), none, none], [.ref 58], (I, J)) = _
  refine Eq.trans ((zm_V_eq _ _ _).trans ((show zm_step zT_X9_paste zW_X (zm_V zT_X9_paste zW_X) (5, [some (.ref 0), some (.int 2), some (.int l2), some (.int l3), some (.int l4), some (.int l5), none, none], [.ref 58], (I, J)) = zm_app (2, some 9, true, [], zF_X9_rowAt) zW_X [.ref 0, .int l3] (I, J) (fun v N => zm_V zT_X9_paste zW_X (12, [some (.ref 0), some (.int 2), some (.int l2), some (.int l3), some (.int l4), some (.int l5), some (.ref 58), none], v.toList ++ [], N)) from rfl).trans (zm_app_s rfl rfl (hq)))) ?_
  show zm_V zT_X9_paste zW_X (12, [some (.ref 0), some (.int 2), some (.int l2), some (.int l3), some (.int l4), some (.int l5), some (.ref 58), none], [.null], (I, J)) = _
  refine Eq.trans ((zm_V_eq _ _ _).trans (show zm_step zT_X9_paste zW_X (zm_V zT_X9_paste zW_X) (12, [some (.ref 0), some (.int 2), some (.int l2), some (.int l3), some (.int l4), some (.int l5), some (.ref 58), none], [.null], (I, J)) = zm_V zT_X9_paste zW_X (19, [some (.ref 0), some (.int 2), some (.int l2), some (.int l3), some (.int l4), some (.int l5), some (.ref 58), some (.null)], [], (I, J)) from rfl)) ?_
  show zm_V zT_X9_paste zW_X (19, [some (.ref 0), some (.int 2), some (.int l2), some (.int l3), some (.int l4), some (.int l5), some (.ref 58), some (.null)], [], (I, J)) = _
  refine Eq.trans ((zm_V_eq _ _ _).trans (show zm_step zT_X9_paste zW_X (zm_V zT_X9_paste zW_X) (19, [some (.ref 0), some (.int 2), some (.int l2), some (.int l3), some (.int l4), some (.int l5), some (.ref 58), some (.null)], [], (I, J)) = zm_V zT_X9_paste zW_X (24, [some (.ref 0), some (.int 2), some (.int l2), some (.int l3), some (.int l4), some (.int l5), some (.ref 58), some (.null)], [], (I, J)) from rfl)) ?_
  show zm_V zT_X9_paste zW_X (24, [some (.ref 0), some (.int 2), some (.int l2), some (.int l3), some (.int l4), some (.int l5), some (.ref 58), some (.null)], [], (I, J)) = _
  refine Eq.trans ((zm_V_eq _ _ _).trans (show zm_step zT_X9_paste zW_X (zm_V zT_X9_paste zW_X) (24, [some (.ref 0), some (.int 2), some (.int l2), some (.int l3), some (.int l4), some (.int l5), some (.ref 58), some (.null)], [], (I, J)) = some (some (.int (-2)), (I, J)) from rfl)) ?_
  rfl
set_option maxRecDepth 20000 in
theorem zpx_paste_58r (h : zy_X I J) (l2 l3 l4 l5 : Int32) {hh : Nat} (hq : zF_X9_rowAt zW_X [.ref 0, .int l3] (I, J) = some (some (.ref hh), (I, J))) : zF_X9_paste zW_X [.ref 0, .int 2, .int l2, .int l3, .int l4, .int l5] (I, J) = some (some (.int (-6)), (I, J)) := by
  show zm_V zT_X9_paste zW_X (0, [some (.ref 0), some (.int 2), some (.int l2), some (.int l3), some (.int l4), some (.int l5), none, none], [], (I, J)) = _
  refine Eq.trans ((zm_V_eq _ _ _).trans ((show zm_step zT_X9_paste zW_X (zm_V zT_X9_paste zW_X) (0, [some (.ref 0), some (.int 2), some (.int l2), some (.int l3), some (.int l4), some (.int l5), none, none], [], (I, J)) = zm_app (2, some 9, true, [], zF_X9_rowAt) zW_X [.ref 0, .int 2] (I, J) (fun v N => zm_V zT_X9_paste zW_X (5, [some (.ref 0), some (.int 2), some (.int l2), some (.int l3), some (.int l4), some (.int l5), none, none], v.toList ++ [], N)) from rfl).trans (zm_app_s rfl rfl (zgx_rowAt_r2)))) ?_
  show zm_V zT_X9_paste zW_X (5, [some (.ref 0), some (.int 2), some (.int l2), some (.int l3), some (.int l4), some (.int l5), none, none], [.ref 58], (I, J)) = _
  refine Eq.trans ((zm_V_eq _ _ _).trans ((show zm_step zT_X9_paste zW_X (zm_V zT_X9_paste zW_X) (5, [some (.ref 0), some (.int 2), some (.int l2), some (.int l3), some (.int l4), some (.int l5), none, none], [.ref 58], (I, J)) = zm_app (2, some 9, true, [], zF_X9_rowAt) zW_X [.ref 0, .int l3] (I, J) (fun v N => zm_V zT_X9_paste zW_X (12, [some (.ref 0), some (.int 2), some (.int l2), some (.int l3), some (.int l4), some (.int l5), some (.ref 58), none], v.toList ++ [], N)) from rfl).trans (zm_app_s rfl rfl (hq)))) ?_
  show zm_V zT_X9_paste zW_X (12, [some (.ref 0), some (.int 2), some (.int l2), some (.int l3), some (.int l4), some (.int l5), some (.ref 58), none], [.ref hh], (I, J)) = _
  refine Eq.trans ((zm_V_eq _ _ _).trans (show zm_step zT_X9_paste zW_X (zm_V zT_X9_paste zW_X) (12, [some (.ref 0), some (.int 2), some (.int l2), some (.int l3), some (.int l4), some (.int l5), some (.ref 58), none], [.ref hh], (I, J)) = zm_V zT_X9_paste zW_X (19, [some (.ref 0), some (.int 2), some (.int l2), some (.int l3), some (.int l4), some (.int l5), some (.ref 58), some (.ref hh)], [], (I, J)) from rfl)) ?_
  show zm_V zT_X9_paste zW_X (19, [some (.ref 0), some (.int 2), some (.int l2), some (.int l3), some (.int l4), some (.int l5), some (.ref 58), some (.ref hh)], [], (I, J)) = _
  refine Eq.trans ((zm_V_eq _ _ _).trans (show zm_step zT_X9_paste zW_X (zm_V zT_X9_paste zW_X) (19, [some (.ref 0), some (.int 2), some (.int l2), some (.int l3), some (.int l4), some (.int l5), some (.ref 58), some (.ref hh)], [], (I, J)) = zm_V zT_X9_paste zW_X (27, [some (.ref 0), some (.int 2), some (.int l2), some (.int l3), some (.int l4), some (.int l5), some (.ref 58), some (.ref hh)], [], (I, J)) from rfl)) ?_
  show zm_V zT_X9_paste zW_X (27, [some (.ref 0), some (.int 2), some (.int l2), some (.int l3), some (.int l4), some (.int l5), some (.ref 58), some (.ref hh)], [], (I, J)) = _
  refine Eq.trans ((zm_V_eq _ _ _).trans ((show zm_step zT_X9_paste zW_X (zm_V zT_X9_paste zW_X) (27, [some (.ref 0), some (.int 2), some (.int l2), some (.int l3), some (.int l4), some (.int l5), some (.ref 58), some (.ref hh)], [], (I, J)) = zm_app (1, some 7, false, [(0, 2)], zF_X7_isMade) zW_X [.ref 58] (I, J) (fun v N => zm_V zT_X9_paste zW_X (32, [some (.ref 0), some (.int 2), some (.int l2), some (.int l3), some (.int l4), some (.int l5), some (.ref 58), some (.ref hh)], v.toList ++ [], N)) from rfl).trans (zm_app_l (bs := [(58, 2)]) rfl rfl rfl rfl rfl rfl (zgx_isMade_58 h)))) ?_
  simp only [zm_mrg_id]
  show zm_V zT_X9_paste zW_X (32, [some (.ref 0), some (.int 2), some (.int l2), some (.int l3), some (.int l4), some (.int l5), some (.ref 58), some (.ref hh)], [.int 0], (I, J)) = _
  refine Eq.trans ((zm_V_eq _ _ _).trans (show zm_step zT_X9_paste zW_X (zm_V zT_X9_paste zW_X) (32, [some (.ref 0), some (.int 2), some (.int l2), some (.int l3), some (.int l4), some (.int l5), some (.ref 58), some (.ref hh)], [.int 0], (I, J)) = if ((0 : Int32) : Int32) = 0 then zm_V zT_X9_paste zW_X (43, [some (.ref 0), some (.int 2), some (.int l2), some (.int l3), some (.int l4), some (.int l5), some (.ref 58), some (.ref hh)], [], (I, J)) else zm_V zT_X9_paste zW_X (35, [some (.ref 0), some (.int 2), some (.int l2), some (.int l3), some (.int l4), some (.int l5), some (.ref 58), some (.ref hh)], [], (I, J)) from rfl)) ?_
  rw [if_pos (rfl)]
  show zm_V zT_X9_paste zW_X (43, [some (.ref 0), some (.int 2), some (.int l2), some (.int l3), some (.int l4), some (.int l5), some (.ref 58), some (.ref hh)], [], (I, J)) = _
  refine Eq.trans ((zm_V_eq _ _ _).trans (show zm_step zT_X9_paste zW_X (zm_V zT_X9_paste zW_X) (43, [some (.ref 0), some (.int 2), some (.int l2), some (.int l3), some (.int l4), some (.int l5), some (.ref 58), some (.ref hh)], [], (I, J)) = some (some (.int (-6)), (I, J)) from rfl)) ?_
  rfl
set_option maxRecDepth 20000 in
theorem zpx_paste_60n (l2 l3 l4 l5 : Int32) (hq : zF_X9_rowAt zW_X [.ref 0, .int l3] (I, J) = some (some .null, (I, J))) : zF_X9_paste zW_X [.ref 0, .int 3, .int l2, .int l3, .int l4, .int l5] (I, J) = some (some (.int (-2)), (I, J)) := by
  show zm_V zT_X9_paste zW_X (0, [some (.ref 0), some (.int 3), some (.int l2), some (.int l3), some (.int l4), some (.int l5), none, none], [], (I, J)) = _
  refine Eq.trans ((zm_V_eq _ _ _).trans ((show zm_step zT_X9_paste zW_X (zm_V zT_X9_paste zW_X) (0, [some (.ref 0), some (.int 3), some (.int l2), some (.int l3), some (.int l4), some (.int l5), none, none], [], (I, J)) = zm_app (2, some 9, true, [], zF_X9_rowAt) zW_X [.ref 0, .int 3] (I, J) (fun v N => zm_V zT_X9_paste zW_X (5, [some (.ref 0), some (.int 3), some (.int l2), some (.int l3), some (.int l4), some (.int l5), none, none], v.toList ++ [], N)) from rfl).trans (zm_app_s rfl rfl (zgx_rowAt_r3)))) ?_
  show zm_V zT_X9_paste zW_X (5, [some (.ref 0), some (.int 3), some (.int l2), some (.int l3), some (.int l4), some (.int l5), none, none], [.ref 60], (I, J)) = _
  refine Eq.trans ((zm_V_eq _ _ _).trans ((show zm_step zT_X9_paste zW_X (zm_V zT_X9_paste zW_X) (5, [some (.ref 0), some (.int 3), some (.int l2), some (.int l3), some (.int l4), some (.int l5), none, none], [.ref 60], (I, J)) = zm_app (2, some 9, true, [], zF_X9_rowAt) zW_X [.ref 0, .int l3] (I, J) (fun v N => zm_V zT_X9_paste zW_X (12, [some (.ref 0), some (.int 3), some (.int l2), some (.int l3), some (.int l4), some (.int l5), some (.ref 60), none], v.toList ++ [], N)) from rfl).trans (zm_app_s rfl rfl (hq)))) ?_
  show zm_V zT_X9_paste zW_X (12, [some (.ref 0), some (.int 3), some (.int l2), some (.int l3), some (.int l4), some (.int l5), some (.ref 60), none], [.null], (I, J)) = _
  refine Eq.trans ((zm_V_eq _ _ _).trans (show zm_step zT_X9_paste zW_X (zm_V zT_X9_paste zW_X) (12, [some (.ref 0), some (.int 3), some (.int l2), some (.int l3), some (.int l4), some (.int l5), some (.ref 60), none], [.null], (I, J)) = zm_V zT_X9_paste zW_X (19, [some (.ref 0), some (.int 3), some (.int l2), some (.int l3), some (.int l4), some (.int l5), some (.ref 60), some (.null)], [], (I, J)) from rfl)) ?_
  show zm_V zT_X9_paste zW_X (19, [some (.ref 0), some (.int 3), some (.int l2), some (.int l3), some (.int l4), some (.int l5), some (.ref 60), some (.null)], [], (I, J)) = _
  refine Eq.trans ((zm_V_eq _ _ _).trans (show zm_step zT_X9_paste zW_X (zm_V zT_X9_paste zW_X) (19, [some (.ref 0), some (.int 3), some (.int l2), some (.int l3), some (.int l4), some (.int l5), some (.ref 60), some (.null)], [], (I, J)) = zm_V zT_X9_paste zW_X (24, [some (.ref 0), some (.int 3), some (.int l2), some (.int l3), some (.int l4), some (.int l5), some (.ref 60), some (.null)], [], (I, J)) from rfl)) ?_
  show zm_V zT_X9_paste zW_X (24, [some (.ref 0), some (.int 3), some (.int l2), some (.int l3), some (.int l4), some (.int l5), some (.ref 60), some (.null)], [], (I, J)) = _
  refine Eq.trans ((zm_V_eq _ _ _).trans (show zm_step zT_X9_paste zW_X (zm_V zT_X9_paste zW_X) (24, [some (.ref 0), some (.int 3), some (.int l2), some (.int l3), some (.int l4), some (.int l5), some (.ref 60), some (.null)], [], (I, J)) = some (some (.int (-2)), (I, J)) from rfl)) ?_
  rfl
set_option maxRecDepth 20000 in
theorem zpx_paste_60r (h : zy_X I J) (l2 l3 l4 l5 : Int32) {hh : Nat} (hq : zF_X9_rowAt zW_X [.ref 0, .int l3] (I, J) = some (some (.ref hh), (I, J))) : zF_X9_paste zW_X [.ref 0, .int 3, .int l2, .int l3, .int l4, .int l5] (I, J) = some (some (.int (-6)), (I, J)) := by
  show zm_V zT_X9_paste zW_X (0, [some (.ref 0), some (.int 3), some (.int l2), some (.int l3), some (.int l4), some (.int l5), none, none], [], (I, J)) = _
  refine Eq.trans ((zm_V_eq _ _ _).trans ((show zm_step zT_X9_paste zW_X (zm_V zT_X9_paste zW_X) (0, [some (.ref 0), some (.int 3), some (.int l2), some (.int l3), some (.int l4), some (.int l5), none, none], [], (I, J)) = zm_app (2, some 9, true, [], zF_X9_rowAt) zW_X [.ref 0, .int 3] (I, J) (fun v N => zm_V zT_X9_paste zW_X (5, [some (.ref 0), some (.int 3), some (.int l2), some (.int l3), some (.int l4), some (.int l5), none, none], v.toList ++ [], N)) from rfl).trans (zm_app_s rfl rfl (zgx_rowAt_r3)))) ?_
  show zm_V zT_X9_paste zW_X (5, [some (.ref 0), some (.int 3), some (.int l2), some (.int l3), some (.int l4), some (.int l5), none, none], [.ref 60], (I, J)) = _
  refine Eq.trans ((zm_V_eq _ _ _).trans ((show zm_step zT_X9_paste zW_X (zm_V zT_X9_paste zW_X) (5, [some (.ref 0), some (.int 3), some (.int l2), some (.int l3), some (.int l4), some (.int l5), none, none], [.ref 60], (I, J)) = zm_app (2, some 9, true, [], zF_X9_rowAt) zW_X [.ref 0, .int l3] (I, J) (fun v N => zm_V zT_X9_paste zW_X (12, [some (.ref 0), some (.int 3), some (.int l2), some (.int l3), some (.int l4), some (.int l5), some (.ref 60), none], v.toList ++ [], N)) from rfl).trans (zm_app_s rfl rfl (hq)))) ?_
  show zm_V zT_X9_paste zW_X (12, [some (.ref 0), some (.int 3), some (.int l2), some (.int l3), some (.int l4), some (.int l5), some (.ref 60), none], [.ref hh], (I, J)) = _
  refine Eq.trans ((zm_V_eq _ _ _).trans (show zm_step zT_X9_paste zW_X (zm_V zT_X9_paste zW_X) (12, [some (.ref 0), some (.int 3), some (.int l2), some (.int l3), some (.int l4), some (.int l5), some (.ref 60), none], [.ref hh], (I, J)) = zm_V zT_X9_paste zW_X (19, [some (.ref 0), some (.int 3), some (.int l2), some (.int l3), some (.int l4), some (.int l5), some (.ref 60), some (.ref hh)], [], (I, J)) from rfl)) ?_
  show zm_V zT_X9_paste zW_X (19, [some (.ref 0), some (.int 3), some (.int l2), some (.int l3), some (.int l4), some (.int l5), some (.ref 60), some (.ref hh)], [], (I, J)) = _
  refine Eq.trans ((zm_V_eq _ _ _).trans (show zm_step zT_X9_paste zW_X (zm_V zT_X9_paste zW_X) (19, [some (.ref 0), some (.int 3), some (.int l2), some (.int l3), some (.int l4), some (.int l5), some (.ref 60), some (.ref hh)], [], (I, J)) = zm_V zT_X9_paste zW_X (27, [some (.ref 0), some (.int 3), some (.int l2), some (.int l3), some (.int l4), some (.int l5), some (.ref 60), some (.ref hh)], [], (I, J)) from rfl)) ?_
  show zm_V zT_X9_paste zW_X (27, [some (.ref 0), some (.int 3), some (.int l2), some (.int l3), some (.int l4), some (.int l5), some (.ref 60), some (.ref hh)], [], (I, J)) = _
  refine Eq.trans ((zm_V_eq _ _ _).trans ((show zm_step zT_X9_paste zW_X (zm_V zT_X9_paste zW_X) (27, [some (.ref 0), some (.int 3), some (.int l2), some (.int l3), some (.int l4), some (.int l5), some (.ref 60), some (.ref hh)], [], (I, J)) = zm_app (1, some 7, false, [(0, 2)], zF_X7_isMade) zW_X [.ref 60] (I, J) (fun v N => zm_V zT_X9_paste zW_X (32, [some (.ref 0), some (.int 3), some (.int l2), some (.int l3), some (.int l4), some (.int l5), some (.ref 60), some (.ref hh)], v.toList ++ [], N)) from rfl).trans (zm_app_l (bs := [(60, 2)]) rfl rfl rfl rfl rfl rfl (zgx_isMade_60 h)))) ?_
  simp only [zm_mrg_id]
  show zm_V zT_X9_paste zW_X (32, [some (.ref 0), some (.int 3), some (.int l2), some (.int l3), some (.int l4), some (.int l5), some (.ref 60), some (.ref hh)], [.int 0], (I, J)) = _
  refine Eq.trans ((zm_V_eq _ _ _).trans (show zm_step zT_X9_paste zW_X (zm_V zT_X9_paste zW_X) (32, [some (.ref 0), some (.int 3), some (.int l2), some (.int l3), some (.int l4), some (.int l5), some (.ref 60), some (.ref hh)], [.int 0], (I, J)) = if ((0 : Int32) : Int32) = 0 then zm_V zT_X9_paste zW_X (43, [some (.ref 0), some (.int 3), some (.int l2), some (.int l3), some (.int l4), some (.int l5), some (.ref 60), some (.ref hh)], [], (I, J)) else zm_V zT_X9_paste zW_X (35, [some (.ref 0), some (.int 3), some (.int l2), some (.int l3), some (.int l4), some (.int l5), some (.ref 60), some (.ref hh)], [], (I, J)) from rfl)) ?_
  rw [if_pos (rfl)]
  show zm_V zT_X9_paste zW_X (43, [some (.ref 0), some (.int 3), some (.int l2), some (.int l3), some (.int l4), some (.int l5), some (.ref 60), some (.ref hh)], [], (I, J)) = _
  refine Eq.trans ((zm_V_eq _ _ _).trans (show zm_step zT_X9_paste zW_X (zm_V zT_X9_paste zW_X) (43, [some (.ref 0), some (.int 3), some (.int l2), some (.int l3), some (.int l4), some (.int l5), some (.ref 60), some (.ref hh)], [], (I, J)) = some (some (.int (-6)), (I, J)) from rfl)) ?_
  rfl
set_option maxRecDepth 20000 in
theorem zgx_countRows (h : zy_X I J) : zF_X9_countRows zW_X [.ref 0] (I, J) = some (some (.int 0), (I, J)) := by
  show zm_V zT_X9_countRows zW_X (0, [some (.ref 0), none, none, none], [], (I, J)) = _
  refine Eq.trans ((zm_V_eq _ _ _).trans (show zm_step zT_X9_countRows zW_X (zm_V zT_X9_countRows zW_X) (0, [some (.ref 0), none, none, none], [], (I, J)) = zm_V zT_X9_countRows zW_X (4, [some (.ref 0), some (.int 0), some (.int 0), none], [], (I, J)) from rfl)) ?_
  show zm_V zT_X9_countRows zW_X (4, [some (.ref 0), some (.int 0), some (.int 0), none], [], (I, J)) = _
  refine Eq.trans ((zm_V_eq _ _ _).trans (show zm_step zT_X9_countRows zW_X (zm_V zT_X9_countRows zW_X) (4, [some (.ref 0), some (.int 0), some (.int 0), none], [], (I, J)) = if (4 : Int32) ≤ (0 : Int32) then zm_V zT_X9_countRows zW_X (36, [some (.ref 0), some (.int 0), some (.int 0), none], [], (I, J)) else zm_V zT_X9_countRows zW_X (9, [some (.ref 0), some (.int 0), some (.int 0), none], [], (I, J)) from rfl)) ?_
  rw [if_neg (by decide)]
  show zm_V zT_X9_countRows zW_X (9, [some (.ref 0), some (.int 0), some (.int 0), none], [], (I, J)) = _
  refine Eq.trans ((zm_V_eq _ _ _).trans (show zm_step zT_X9_countRows zW_X (zm_V zT_X9_countRows zW_X) (9, [some (.ref 0), some (.int 0), some (.int 0), none], [], (I, J)) = zm_V zT_X9_countRows zW_X (20, [some (.ref 0), some (.int 0), some (.int 0), some (.ref 54)], [], (I, J)) from rfl)) ?_
  show zm_V zT_X9_countRows zW_X (20, [some (.ref 0), some (.int 0), some (.int 0), some (.ref 54)], [], (I, J)) = _
  refine Eq.trans ((zm_V_eq _ _ _).trans ((show zm_step zT_X9_countRows zW_X (zm_V zT_X9_countRows zW_X) (20, [some (.ref 0), some (.int 0), some (.int 0), some (.ref 54)], [], (I, J)) = zm_app (1, some 7, false, [(0, 2)], zF_X7_isMade) zW_X [.ref 54] (I, J) (fun v N => zm_V zT_X9_countRows zW_X (24, [some (.ref 0), some (.int 0), some (.int 0), some (.ref 54)], v.toList ++ [], N)) from rfl).trans (zm_app_l (bs := [(54, 2)]) rfl rfl rfl rfl rfl rfl (zgx_isMade_54 h)))) ?_
  simp only [zm_mrg_id]
  show zm_V zT_X9_countRows zW_X (24, [some (.ref 0), some (.int 0), some (.int 0), some (.ref 54)], [.int 0], (I, J)) = _
  refine Eq.trans ((zm_V_eq _ _ _).trans (show zm_step zT_X9_countRows zW_X (zm_V zT_X9_countRows zW_X) (24, [some (.ref 0), some (.int 0), some (.int 0), some (.ref 54)], [.int 0], (I, J)) = if ((0 : Int32) : Int32) = 0 then zm_V zT_X9_countRows zW_X (30, [some (.ref 0), some (.int 0), some (.int 0), some (.ref 54)], [], (I, J)) else zm_V zT_X9_countRows zW_X (27, [some (.ref 0), some (.int 0), some (.int 0), some (.ref 54)], [], (I, J)) from rfl)) ?_
  rw [if_pos (rfl)]
  show zm_V zT_X9_countRows zW_X (30, [some (.ref 0), some (.int 0), some (.int 0), some (.ref 54)], [], (I, J)) = _
  refine Eq.trans ((zm_V_eq _ _ _).trans (show zm_step zT_X9_countRows zW_X (zm_V zT_X9_countRows zW_X) (30, [some (.ref 0), some (.int 0), some (.int 0), some (.ref 54)], [], (I, J)) = zm_V zT_X9_countRows zW_X (4, [some (.ref 0), some (.int 0), some (.int (0 + 1)), some (.ref 54)], [], (I, J)) from rfl)) ?_
  show zm_V zT_X9_countRows zW_X (4, [some (.ref 0), some (.int 0), some (.int 1), some (.ref 54)], [], (I, J)) = _
  refine Eq.trans ((zm_V_eq _ _ _).trans (show zm_step zT_X9_countRows zW_X (zm_V zT_X9_countRows zW_X) (4, [some (.ref 0), some (.int 0), some (.int 1), some (.ref 54)], [], (I, J)) = if (4 : Int32) ≤ (1 : Int32) then zm_V zT_X9_countRows zW_X (36, [some (.ref 0), some (.int 0), some (.int 1), some (.ref 54)], [], (I, J)) else zm_V zT_X9_countRows zW_X (9, [some (.ref 0), some (.int 0), some (.int 1), some (.ref 54)], [], (I, J)) from rfl)) ?_
  rw [if_neg (by decide)]
  show zm_V zT_X9_countRows zW_X (9, [some (.ref 0), some (.int 0), some (.int 1), some (.ref 54)], [], (I, J)) = _
  refine Eq.trans ((zm_V_eq _ _ _).trans (show zm_step zT_X9_countRows zW_X (zm_V zT_X9_countRows zW_X) (9, [some (.ref 0), some (.int 0), some (.int 1), some (.ref 54)], [], (I, J)) = zm_V zT_X9_countRows zW_X (20, [some (.ref 0), some (.int 0), some (.int 1), some (.ref 56)], [], (I, J)) from rfl)) ?_
  show zm_V zT_X9_countRows zW_X (20, [some (.ref 0), some (.int 0), some (.int 1), some (.ref 56)], [], (I, J)) = _
  refine Eq.trans ((zm_V_eq _ _ _).trans ((show zm_step zT_X9_countRows zW_X (zm_V zT_X9_countRows zW_X) (20, [some (.ref 0), some (.int 0), some (.int 1), some (.ref 56)], [], (I, J)) = zm_app (1, some 7, false, [(0, 2)], zF_X7_isMade) zW_X [.ref 56] (I, J) (fun v N => zm_V zT_X9_countRows zW_X (24, [some (.ref 0), some (.int 0), some (.int 1), some (.ref 56)], v.toList ++ [], N)) from rfl).trans (zm_app_l (bs := [(56, 2)]) rfl rfl rfl rfl rfl rfl (zgx_isMade_56 h)))) ?_
  simp only [zm_mrg_id]
  show zm_V zT_X9_countRows zW_X (24, [some (.ref 0), some (.int 0), some (.int 1), some (.ref 56)], [.int 0], (I, J)) = _
  refine Eq.trans ((zm_V_eq _ _ _).trans (show zm_step zT_X9_countRows zW_X (zm_V zT_X9_countRows zW_X) (24, [some (.ref 0), some (.int 0), some (.int 1), some (.ref 56)], [.int 0], (I, J)) = if ((0 : Int32) : Int32) = 0 then zm_V zT_X9_countRows zW_X (30, [some (.ref 0), some (.int 0), some (.int 1), some (.ref 56)], [], (I, J)) else zm_V zT_X9_countRows zW_X (27, [some (.ref 0), some (.int 0), some (.int 1), some (.ref 56)], [], (I, J)) from rfl)) ?_
  rw [if_pos (rfl)]
  show zm_V zT_X9_countRows zW_X (30, [some (.ref 0), some (.int 0), some (.int 1), some (.ref 56)], [], (I, J)) = _
  refine Eq.trans ((zm_V_eq _ _ _).trans (show zm_step zT_X9_countRows zW_X (zm_V zT_X9_countRows zW_X) (30, [some (.ref 0), some (.int 0), some (.int 1), some (.ref 56)], [], (I, J)) = zm_V zT_X9_countRows zW_X (4, [some (.ref 0), some (.int 0), some (.int (1 + 1)), some (.ref 56)], [], (I, J)) from rfl)) ?_
  show zm_V zT_X9_countRows zW_X (4, [some (.ref 0), some (.int 0), some (.int 2), some (.ref 56)], [], (I, J)) = _
  refine Eq.trans ((zm_V_eq _ _ _).trans (show zm_step zT_X9_countRows zW_X (zm_V zT_X9_countRows zW_X) (4, [some (.ref 0), some (.int 0), some (.int 2), some (.ref 56)], [], (I, J)) = if (4 : Int32) ≤ (2 : Int32) then zm_V zT_X9_countRows zW_X (36, [some (.ref 0), some (.int 0), some (.int 2), some (.ref 56)], [], (I, J)) else zm_V zT_X9_countRows zW_X (9, [some (.ref 0), some (.int 0), some (.int 2), some (.ref 56)], [], (I, J)) from rfl)) ?_
  rw [if_neg (by decide)]
  show zm_V zT_X9_countRows zW_X (9, [some (.ref 0), some (.int 0), some (.int 2), some (.ref 56)], [], (I, J)) = _
  refine Eq.trans ((zm_V_eq _ _ _).trans (show zm_step zT_X9_countRows zW_X (zm_V zT_X9_countRows zW_X) (9, [some (.ref 0), some (.int 0), some (.int 2), some (.ref 56)], [], (I, J)) = zm_V zT_X9_countRows zW_X (20, [some (.ref 0), some (.int 0), some (.int 2), some (.ref 58)], [], (I, J)) from rfl)) ?_
  show zm_V zT_X9_countRows zW_X (20, [some (.ref 0), some (.int 0), some (.int 2), some (.ref 58)], [], (I, J)) = _
  refine Eq.trans ((zm_V_eq _ _ _).trans ((show zm_step zT_X9_countRows zW_X (zm_V zT_X9_countRows zW_X) (20, [some (.ref 0), some (.int 0), some (.int 2), some (.ref 58)], [], (I, J)) = zm_app (1, some 7, false, [(0, 2)], zF_X7_isMade) zW_X [.ref 58] (I, J) (fun v N => zm_V zT_X9_countRows zW_X (24, [some (.ref 0), some (.int 0), some (.int 2), some (.ref 58)], v.toList ++ [], N)) from rfl).trans (zm_app_l (bs := [(58, 2)]) rfl rfl rfl rfl rfl rfl (zgx_isMade_58 h)))) ?_
  simp only [zm_mrg_id]
  show zm_V zT_X9_countRows zW_X (24, [some (.ref 0), some (.int 0), some (.int 2), some (.ref 58)], [.int 0], (I, J)) = _
  refine Eq.trans ((zm_V_eq _ _ _).trans (show zm_step zT_X9_countRows zW_X (zm_V zT_X9_countRows zW_X) (24, [some (.ref 0), some (.int 0), some (.int 2), some (.ref 58)], [.int 0], (I, J)) = if ((0 : Int32) : Int32) = 0 then zm_V zT_X9_countRows zW_X (30, [some (.ref 0), some (.int 0), some (.int 2), some (.ref 58)], [], (I, J)) else zm_V zT_X9_countRows zW_X (27, [some (.ref 0), some (.int 0), some (.int 2), some (.ref 58)], [], (I, J)) from rfl)) ?_
  rw [if_pos (rfl)]
  show zm_V zT_X9_countRows zW_X (30, [some (.ref 0), some (.int 0), some (.int 2), some (.ref 58)], [], (I, J)) = _
  refine Eq.trans ((zm_V_eq _ _ _).trans (show zm_step zT_X9_countRows zW_X (zm_V zT_X9_countRows zW_X) (30, [some (.ref 0), some (.int 0), some (.int 2), some (.ref 58)], [], (I, J)) = zm_V zT_X9_countRows zW_X (4, [some (.ref 0), some (.int 0), some (.int (2 + 1)), some (.ref 58)], [], (I, J)) from rfl)) ?_
  show zm_V zT_X9_countRows zW_X (4, [some (.ref 0), some (.int 0), some (.int 3), some (.ref 58)], [], (I, J)) = _
  refine Eq.trans ((zm_V_eq _ _ _).trans (show zm_step zT_X9_countRows zW_X (zm_V zT_X9_countRows zW_X) (4, [some (.ref 0), some (.int 0), some (.int 3), some (.ref 58)], [], (I, J)) = if (4 : Int32) ≤ (3 : Int32) then zm_V zT_X9_countRows zW_X (36, [some (.ref 0), some (.int 0), some (.int 3), some (.ref 58)], [], (I, J)) else zm_V zT_X9_countRows zW_X (9, [some (.ref 0), some (.int 0), some (.int 3), some (.ref 58)], [], (I, J)) from rfl)) ?_
  rw [if_neg (by decide)]
  show zm_V zT_X9_countRows zW_X (9, [some (.ref 0), some (.int 0), some (.int 3), some (.ref 58)], [], (I, J)) = _
  refine Eq.trans ((zm_V_eq _ _ _).trans (show zm_step zT_X9_countRows zW_X (zm_V zT_X9_countRows zW_X) (9, [some (.ref 0), some (.int 0), some (.int 3), some (.ref 58)], [], (I, J)) = zm_V zT_X9_countRows zW_X (20, [some (.ref 0), some (.int 0), some (.int 3), some (.ref 60)], [], (I, J)) from rfl)) ?_
  show zm_V zT_X9_countRows zW_X (20, [some (.ref 0), some (.int 0), some (.int 3), some (.ref 60)], [], (I, J)) = _
  refine Eq.trans ((zm_V_eq _ _ _).trans ((show zm_step zT_X9_countRows zW_X (zm_V zT_X9_countRows zW_X) (20, [some (.ref 0), some (.int 0), some (.int 3), some (.ref 60)], [], (I, J)) = zm_app (1, some 7, false, [(0, 2)], zF_X7_isMade) zW_X [.ref 60] (I, J) (fun v N => zm_V zT_X9_countRows zW_X (24, [some (.ref 0), some (.int 0), some (.int 3), some (.ref 60)], v.toList ++ [], N)) from rfl).trans (zm_app_l (bs := [(60, 2)]) rfl rfl rfl rfl rfl rfl (zgx_isMade_60 h)))) ?_
  simp only [zm_mrg_id]
  show zm_V zT_X9_countRows zW_X (24, [some (.ref 0), some (.int 0), some (.int 3), some (.ref 60)], [.int 0], (I, J)) = _
  refine Eq.trans ((zm_V_eq _ _ _).trans (show zm_step zT_X9_countRows zW_X (zm_V zT_X9_countRows zW_X) (24, [some (.ref 0), some (.int 0), some (.int 3), some (.ref 60)], [.int 0], (I, J)) = if ((0 : Int32) : Int32) = 0 then zm_V zT_X9_countRows zW_X (30, [some (.ref 0), some (.int 0), some (.int 3), some (.ref 60)], [], (I, J)) else zm_V zT_X9_countRows zW_X (27, [some (.ref 0), some (.int 0), some (.int 3), some (.ref 60)], [], (I, J)) from rfl)) ?_
  rw [if_pos (rfl)]
  show zm_V zT_X9_countRows zW_X (30, [some (.ref 0), some (.int 0), some (.int 3), some (.ref 60)], [], (I, J)) = _
  refine Eq.trans ((zm_V_eq _ _ _).trans (show zm_step zT_X9_countRows zW_X (zm_V zT_X9_countRows zW_X) (30, [some (.ref 0), some (.int 0), some (.int 3), some (.ref 60)], [], (I, J)) = zm_V zT_X9_countRows zW_X (4, [some (.ref 0), some (.int 0), some (.int (3 + 1)), some (.ref 60)], [], (I, J)) from rfl)) ?_
  show zm_V zT_X9_countRows zW_X (4, [some (.ref 0), some (.int 0), some (.int 4), some (.ref 60)], [], (I, J)) = _
  refine Eq.trans ((zm_V_eq _ _ _).trans (show zm_step zT_X9_countRows zW_X (zm_V zT_X9_countRows zW_X) (4, [some (.ref 0), some (.int 0), some (.int 4), some (.ref 60)], [], (I, J)) = if (4 : Int32) ≤ (4 : Int32) then zm_V zT_X9_countRows zW_X (36, [some (.ref 0), some (.int 0), some (.int 4), some (.ref 60)], [], (I, J)) else zm_V zT_X9_countRows zW_X (9, [some (.ref 0), some (.int 0), some (.int 4), some (.ref 60)], [], (I, J)) from rfl)) ?_
  rw [if_pos (by decide)]
  show zm_V zT_X9_countRows zW_X (36, [some (.ref 0), some (.int 0), some (.int 4), some (.ref 60)], [], (I, J)) = _
  refine Eq.trans ((zm_V_eq _ _ _).trans (show zm_step zT_X9_countRows zW_X (zm_V zT_X9_countRows zW_X) (36, [some (.ref 0), some (.int 0), some (.int 4), some (.ref 60)], [], (I, J)) = some (some (.int 0), (I, J)) from rfl)) ?_
  rfl
end ZYR
