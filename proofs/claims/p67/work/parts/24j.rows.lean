/-! CONTRACTS BY HAND: rows of the class, paste, sights -/
theorem zi_four {l : Int32} (h0 : ¬ l < 0) (h4 : ¬ 4 ≤ l) : l = 0 ∨ l = 1 ∨ l = 2 ∨ l = 3 := by
  have h0 := Int32.not_lt.mp h0
  have h4 := Int32.not_le.mp h4
  rw [Int32.le_iff_toInt_le] at h0
  rw [Int32.lt_iff_toInt_lt] at h4
  have e0 : (0 : Int32).toInt = 0 := by decide
  have e4 : (4 : Int32).toInt = 4 := by decide
  have h : l.toInt = 0 ∨ l.toInt = 1 ∨ l.toInt = 2 ∨ l.toInt = 3 := by omega
  rcases h with h | h | h | h
  · exact Or.inl (Int32.toInt_inj.mp (h.trans (by decide)))
  · exact Or.inr (Or.inl (Int32.toInt_inj.mp (h.trans (by decide))))
  · exact Or.inr (Or.inr (Or.inl (Int32.toInt_inj.mp (h.trans (by decide)))))
  · exact Or.inr (Or.inr (Or.inr (Int32.toInt_inj.mp (h.trans (by decide)))))
section ZYR
variable {I : Nat → Nat → Int32} {J : Nat → Nat → Int64}
set_option maxRecDepth 20000 in
theorem zgx_rowAt_1 {l : Int32} (h : l < 0) : zF_X9_rowAt zW_X [.ref 0, .int l] (I, J) = some (some .null, (I, J)) := by
  show zm_V zT_X9_rowAt zW_X (0, [some (.ref 0), some (.int l)], [], (I, J)) = _
  refine Eq.trans ((zm_V_eq _ _ _).trans (show zm_step zT_X9_rowAt zW_X (zm_V zT_X9_rowAt zW_X) (0, [some (.ref 0), some (.int l)], [], (I, J)) = if (l : Int32) < 0 then zm_V zT_X9_rowAt zW_X (18, [some (.ref 0), some (.int l)], [], (I, J)) else zm_V zT_X9_rowAt zW_X (4, [some (.ref 0), some (.int l)], [], (I, J)) from rfl)) ?_
  rw [if_pos (h)]
  show zm_V zT_X9_rowAt zW_X (18, [some (.ref 0), some (.int l)], [], (I, J)) = _
  refine Eq.trans ((zm_V_eq _ _ _).trans (show zm_step zT_X9_rowAt zW_X (zm_V zT_X9_rowAt zW_X) (18, [some (.ref 0), some (.int l)], [], (I, J)) = zm_V zT_X9_rowAt zW_X (19, [some (.ref 0), some (.int l)], [.null], (I, J)) from rfl)) ?_
  show zm_V zT_X9_rowAt zW_X (19, [some (.ref 0), some (.int l)], [.null], (I, J)) = _
  refine Eq.trans ((zm_V_eq _ _ _).trans (show zm_step zT_X9_rowAt zW_X (zm_V zT_X9_rowAt zW_X) (19, [some (.ref 0), some (.int l)], [.null], (I, J)) = some (some (.null), (I, J)) from rfl)) ?_
  rfl
set_option maxRecDepth 20000 in
theorem zgx_rowAt_2 {l : Int32} (h0 : ¬ l < 0) (h : 4 ≤ l) : zF_X9_rowAt zW_X [.ref 0, .int l] (I, J) = some (some .null, (I, J)) := by
  show zm_V zT_X9_rowAt zW_X (0, [some (.ref 0), some (.int l)], [], (I, J)) = _
  refine Eq.trans ((zm_V_eq _ _ _).trans (show zm_step zT_X9_rowAt zW_X (zm_V zT_X9_rowAt zW_X) (0, [some (.ref 0), some (.int l)], [], (I, J)) = if (l : Int32) < 0 then zm_V zT_X9_rowAt zW_X (18, [some (.ref 0), some (.int l)], [], (I, J)) else zm_V zT_X9_rowAt zW_X (4, [some (.ref 0), some (.int l)], [], (I, J)) from rfl)) ?_
  rw [if_neg (h0)]
  show zm_V zT_X9_rowAt zW_X (4, [some (.ref 0), some (.int l)], [], (I, J)) = _
  refine Eq.trans ((zm_V_eq _ _ _).trans (show zm_step zT_X9_rowAt zW_X (zm_V zT_X9_rowAt zW_X) (4, [some (.ref 0), some (.int l)], [], (I, J)) = if (4 : Int32) ≤ l then zm_V zT_X9_rowAt zW_X (18, [some (.ref 0), some (.int l)], [], (I, J)) else zm_V zT_X9_rowAt zW_X (9, [some (.ref 0), some (.int l)], [], (I, J)) from rfl)) ?_
  rw [if_pos (h)]
  show zm_V zT_X9_rowAt zW_X (18, [some (.ref 0), some (.int l)], [], (I, J)) = _
  refine Eq.trans ((zm_V_eq _ _ _).trans (show zm_step zT_X9_rowAt zW_X (zm_V zT_X9_rowAt zW_X) (18, [some (.ref 0), some (.int l)], [], (I, J)) = zm_V zT_X9_rowAt zW_X (19, [some (.ref 0), some (.int l)], [.null], (I, J)) from rfl)) ?_
  show zm_V zT_X9_rowAt zW_X (19, [some (.ref 0), some (.int l)], [.null], (I, J)) = _
  refine Eq.trans ((zm_V_eq _ _ _).trans (show zm_step zT_X9_rowAt zW_X (zm_V zT_X9_rowAt zW_X) (19, [some (.ref 0), some (.int l)], [.null], (I, J)) = some (some (.null), (I, J)) from rfl)) ?_
  rfl
theorem zgx_rowAt_n {l : Int32} (h : l < 0 ∨ 4 ≤ l) : zF_X9_rowAt zW_X [.ref 0, .int l] (I, J) = some (some .null, (I, J)) := by
  by_cases h0 : l < 0
  · exact zgx_rowAt_1 h0
  · exact zgx_rowAt_2 h0 (h.resolve_left h0)
set_option maxRecDepth 20000 in
theorem zgx_rowAt_r0 : zF_X9_rowAt zW_X [.ref 0, .int 0] (I, J) = some (some (.ref 54), (I, J)) := by
  show zm_V zT_X9_rowAt zW_X (0, [some (.ref 0), some (.int 0)], [], (I, J)) = _
  refine Eq.trans ((zm_V_eq _ _ _).trans (show zm_step zT_X9_rowAt zW_X (zm_V zT_X9_rowAt zW_X) (0, [some (.ref 0), some (.int 0)], [], (I, J)) = if ((0 : Int32) : Int32) < 0 then zm_V zT_X9_rowAt zW_X (18, [some (.ref 0), some (.int 0)], [], (I, J)) else zm_V zT_X9_rowAt zW_X (4, [some (.ref 0), some (.int 0)], [], (I, J)) from rfl)) ?_
  rw [if_neg (by decide)]
  show zm_V zT_X9_rowAt zW_X (4, [some (.ref 0), some (.int 0)], [], (I, J)) = _
  refine Eq.trans ((zm_V_eq _ _ _).trans (show zm_step zT_X9_rowAt zW_X (zm_V zT_X9_rowAt zW_X) (4, [some (.ref 0), some (.int 0)], [], (I, J)) = if (4 : Int32) ≤ (0 : Int32) then zm_V zT_X9_rowAt zW_X (18, [some (.ref 0), some (.int 0)], [], (I, J)) else zm_V zT_X9_rowAt zW_X (9, [some (.ref 0), some (.int 0)], [], (I, J)) from rfl)) ?_
  rw [if_neg (by decide)]
  show zm_V zT_X9_rowAt zW_X (9, [some (.ref 0), some (.int 0)], [], (I, J)) = _
  refine Eq.trans ((zm_V_eq _ _ _).trans (show zm_step zT_X9_rowAt zW_X (zm_V zT_X9_rowAt zW_X) (9, [some (.ref 0), some (.int 0)], [], (I, J)) = zm_V zT_X9_rowAt zW_X (19, [some (.ref 0), some (.int 0)], [.ref 54], (I, J)) from rfl)) ?_
  show zm_V zT_X9_rowAt zW_X (19, [some (.ref 0), some (.int 0)], [.ref 54], (I, J)) = _
  refine Eq.trans ((zm_V_eq _ _ _).trans (show zm_step zT_X9_rowAt zW_X (zm_V zT_X9_rowAt zW_X) (19, [some (.ref 0), some (.int 0)], [.ref 54], (I, J)) = some (some (.ref 54), (I, J)) from rfl)) ?_
  rfl
set_option maxRecDepth 20000 in
theorem zgx_rowAt_r1 : zF_X9_rowAt zW_X [.ref 0, .int 1] (I, J) = some (some (.ref 56), (I, J)) := by
  show zm_V zT_X9_rowAt zW_X (0, [some (.ref 0), some (.int 1)], [], (I, J)) = _
  refine Eq.trans ((zm_V_eq _ _ _).trans (show zm_step zT_X9_rowAt zW_X (zm_V zT_X9_rowAt zW_X) (0, [some (.ref 0), some (.int 1)], [], (I, J)) = if ((1 : Int32) : Int32) < 0 then zm_V zT_X9_rowAt zW_X (18, [some (.ref 0), some (.int 1)], [], (I, J)) else zm_V zT_X9_rowAt zW_X (4, [some (.ref 0), some (.int 1)], [], (I, J)) from rfl)) ?_
  rw [if_neg (by decide)]
  show zm_V zT_X9_rowAt zW_X (4, [some (.ref 0), some (.int 1)], [], (I, J)) = _
  refine Eq.trans ((zm_V_eq _ _ _).trans (show zm_step zT_X9_rowAt zW_X (zm_V zT_X9_rowAt zW_X) (4, [some (.ref 0), some (.int 1)], [], (I, J)) = if (4 : Int32) ≤ (1 : Int32) then zm_V zT_X9_rowAt zW_X (18, [some (.ref 0), some (.int 1)], [], (I, J)) else zm_V zT_X9_rowAt zW_X (9, [some (.ref 0), some (.int 1)], [], (I, J)) from rfl)) ?_
  rw [if_neg (by decide)]
  show zm_V zT_X9_rowAt zW_X (9, [some (.ref 0), some (.int 1)], [], (I, J)) = _
  refine Eq.trans ((zm_V_eq _ _ _).trans (show zm_step zT_X9_rowAt zW_X (zm_V zT_X9_rowAt zW_X) (9, [some (.ref 0), some (.int 1)], [], (I, J)) = zm_V zT_X9_rowAt zW_X (19, [some (.ref 0), some (.int 1)], [.ref 56], (I, J)) from rfl)) ?_
  show zm_V zT_X9_rowAt zW_X (19, [some (.ref 0), some (.int 1)], [.ref 56], (I, J)) = _
  refine Eq.trans ((zm_V_eq _ _ _).trans (show zm_step zT_X9_rowAt zW_X (zm_V zT_X9_rowAt zW_X) (19, [some (.ref 0), some (.int 1)], [.ref 56], (I, J)) = some (some (.ref 56), (I, J)) from rfl)) ?_
  rfl
set_option maxRecDepth 20000 in
theorem zgx_rowAt_r2 : zF_X9_rowAt zW_X [.ref 0, .int 2] (I, J) = some (some (.ref 58), (I, J)) := by
  show zm_V zT_X9_rowAt zW_X (0, [some (.ref 0), some (.int 2)], [], (I, J)) = _
  refine Eq.trans ((zm_V_eq _ _ _).trans (show zm_step zT_X9_rowAt zW_X (zm_V zT_X9_rowAt zW_X) (0, [some (.ref 0), some (.int 2)], [], (I, J)) = if ((2 : Int32) : Int32) < 0 then zm_V zT_X9_rowAt zW_X (18, [some (.ref 0), some (.int 2)], [], (I, J)) else zm_V zT_X9_rowAt zW_X (4, [some (.ref 0), some (.int 2)], [], (I, J)) from rfl)) ?_
  rw [if_neg (by decide)]
  show zm_V zT_X9_rowAt zW_X (4, [some (.ref 0), some (.int 2)], [], (I, J)) = _
  refine Eq.trans ((zm_V_eq _ _ _).trans (show zm_step zT_X9_rowAt zW_X (zm_V zT_X9_rowAt zW_X) (4, [some (.ref 0), some (.int 2)], [], (I, J)) = if (4 : Int32) ≤ (2 : Int32) then zm_V zT_X9_rowAt zW_X (18, [some (.ref 0), some (.int 2)], [], (I, J)) else zm_V zT_X9_rowAt zW_X (9, [some (.ref 0), some (.int 2)], [], (I, J)) from rfl)) ?_
  rw [if_neg (by decide)]
  show zm_V zT_X9_rowAt zW_X (9, [some (.ref 0), some (.int 2)], [], (I, J)) = _
  refine Eq.trans ((zm_V_eq _ _ _).trans (show zm_step zT_X9_rowAt zW_X (zm_V zT_X9_rowAt zW_X) (9, [some (.ref 0), some (.int 2)], [], (I, J)) = zm_V zT_X9_rowAt zW_X (19, [some (.ref 0), some (.int 2)], [.ref 58], (I, J)) from rfl)) ?_
  show zm_V zT_X9_rowAt zW_X (19, [some (.ref 0), some (.int 2)], [.ref 58], (I, J)) = _
  refine Eq.trans ((zm_V_eq _ _ _).trans (show zm_step zT_X9_rowAt zW_X (zm_V zT_X9_rowAt zW_X) (19, [some (.ref 0), some (.int 2)], [.ref 58], (I, J)) = some (some (.ref 58), (I, J)) from rfl)) ?_
  rfl
set_option maxRecDepth 20000 in
theorem zgx_rowAt_r3 : zF_X9_rowAt zW_X [.ref 0, .int 3] (I, J) = some (some (.ref 60), (I, J)) := by
  show zm_V zT_X9_rowAt zW_X (0, [some (.ref 0), some (.int 3)], [], (I, J)) = _
  refine Eq.trans ((zm_V_eq _ _ _).trans (show zm_step zT_X9_rowAt zW_X (zm_V zT_X9_rowAt zW_X) (0, [some (.ref 0), some (.int 3)], [], (I, J)) = if ((3 : Int32) : Int32) < 0 then zm_V zT_X9_rowAt zW_X (18, [some (.ref 0), some (.int 3)], [], (I, J)) else zm_V zT_X9_rowAt zW_X (4, [some (.ref 0), some (.int 3)], [], (I, J)) from rfl)) ?_
  rw [if_neg (by decide)]
  show zm_V zT_X9_rowAt zW_X (4, [some (.ref 0), some (.int 3)], [], (I, J)) = _
  refine Eq.trans ((zm_V_eq _ _ _).trans (show zm_step zT_X9_rowAt zW_X (zm_V zT_X9_rowAt zW_X) (4, [some (.ref 0), some (.int 3)], [], (I, J)) = if (4 : Int32) ≤ (3 : Int32) then zm_V zT_X9_rowAt zW_X (18, [some (.ref 0), some (.int 3)], [], (I, J)) else zm_V zT_X9_rowAt zW_X (9, [some (.ref 0), some (.int 3)], [], (I, J)) from rfl)) ?_
  rw [if_neg (by decide)]
  show zm_V zT_X9_rowAt zW_X (9, [some (.ref 0), some (.int 3)], [], (I, J)) = _
  refine Eq.trans ((zm_V_eq _ _ _).trans (show zm_step zT_X9_rowAt zW_X (zm_V zT_X9_rowAt zW_X) (9, [some (.ref 0), some (.int 3)], [], (I, J)) = zm_V zT_X9_rowAt zW_X (19, [some (.ref 0), some (.int 3)], [.ref 60], (I, J)) from rfl)) ?_
  show zm_V zT_X9_rowAt zW_X (19, [some (.ref 0), some (.int 3)], [.ref 60], (I, J)) = _
  refine Eq.trans ((zm_V_eq _ _ _).trans (show zm_step zT_X9_rowAt zW_X (zm_V zT_X9_rowAt zW_X) (19, [some (.ref 0), some (.int 3)], [.ref 60], (I, J)) = some (some (.ref 60), (I, J)) from rfl)) ?_
  rfl
theorem zgx_rowAt_r {l : Int32} (h0 : ¬ l < 0) (h4 : ¬ 4 ≤ l) : ∃ hh, (hh = 54 ∨ hh = 56 ∨ hh = 58 ∨ hh = 60) ∧ zF_X9_rowAt zW_X [.ref 0, .int l] (I, J) = some (some (.ref hh), (I, J)) := by
  rcases zi_four h0 h4 with rfl | rfl | rfl | rfl
  · exact ⟨54, by simp, zgx_rowAt_r0⟩
  · exact ⟨56, by simp, zgx_rowAt_r1⟩
  · exact ⟨58, by simp, zgx_rowAt_r2⟩
  · exact ⟨60, by simp, zgx_rowAt_r3⟩
end ZYR
section ZHR
variable {I : Nat → Nat → Int32} {J : Nat → Nat → Int64}
theorem zh_rowAt (l : Int32) : (∃ h, zm_isRow h ∧ zF_X9_rowAt zW_X [.ref 0, .int l] (I, J) = some (some (.ref h), (I, J))) ∨ zF_X9_rowAt zW_X [.ref 0, .int l] (I, J) = some (some .null, (I, J)) := by
  by_cases h0 : l < 0
  · exact Or.inr (zgx_rowAt_n (Or.inl h0))
  · by_cases h4 : 4 ≤ l
    · exact Or.inr (zgx_rowAt_n (Or.inr h4))
    · obtain ⟨h, h1, h2⟩ := zgx_rowAt_r (I := I) (J := J) h0 h4
      exact Or.inl ⟨h, h1, h2⟩
theorem zh_isMadeV (M : zm_I) : ∃ r : Int32, zF_X7_isMade zW_R [.ref 0] M = some (some (.int r), M) := by
  have e : zF_X7_isMade zW_R [.ref 0] M = zv_X7_isMade_R_0 M.1 M.2 := zf_X7_isMade_R M.1 M.2
  rw [e, zq_X7_isMade_R_0]
  split
  · exact ⟨0, by rw [zq_X7_isMade_R_12, zq_X7_isMade_R_13, if_pos (Or.inl rfl)]⟩
  · exact ⟨1, by rw [zq_X7_isMade_R_8, zq_X7_isMade_R_13, if_pos (Or.inr rfl)]⟩
theorem zh_stretchV (M : zm_I) (a b : Int32) (hs : 0 ≤ (M.1 0 1).toInt ∧ (M.1 0 1).toInt ≤ 60) : ∃ r : Int32, zF_X7_hasStretch zW_R [.ref 0, .int a, .int b] M = some (some (.int r), M) ∧ (¬ r = 0 → 0 ≤ a.toInt ∧ 0 ≤ b.toInt ∧ a.toInt + b.toInt ≤ (M.1 0 1).toInt) := by
  have e : zF_X7_hasStretch zW_R [.ref 0, .int a, .int b] M = zv_X7_hasStretch_R_0 M.1 M.2 a b := zf_X7_hasStretch_R M.1 M.2 a b
  have e30 : zv_X7_hasStretch_R_30 M.1 M.2 a b = some (some (.int 0), M) := by rw [zq_X7_hasStretch_R_30, zq_X7_hasStretch_R_31, if_pos (Or.inl rfl)]
  rw [e, zq_X7_hasStretch_R_0]
  split
  · exact ⟨0, e30, fun h => absurd rfl h⟩
  · next h1 =>
    rw [zh_lt, zh_z0] at h1
    rw [zq_X7_hasStretch_R_4]
    split
    · exact ⟨0, e30, fun h => absurd rfl h⟩
    · next h2 =>
      rw [zh_lt, zh_z0] at h2
      rw [zq_X7_hasStretch_R_8]
      split
      · exact ⟨0, e30, fun h => absurd rfl h⟩
      · next h3 =>
        rw [zh_lt] at h3
        rw [zq_X7_hasStretch_R_16]
        split
        · exact ⟨0, e30, fun h => absurd rfl h⟩
        · next h4 =>
          rw [zh_lt, zh_sub (by omega) (by omega)] at h4
          exact ⟨1, by rw [zq_X7_hasStretch_R_26, zq_X7_hasStretch_R_31, if_pos (Or.inr rfl)], fun _ => by omega⟩
theorem zh_sub1 (h i : Nat) : (zm_sub2 [(h, 2)] (I, J)).1 0 i = I h i := rfl
theorem zh_sub2 (h i : Nat) : (zm_sub2 [(h, 2)] (I, J)).2 1 i = J (h + 1) i := rfl
def zh_cJ (h : Nat) (J0 J : Nat → Nat → Int64) : Prop := ∀ n i, ¬ (n = h + 1 ∧ i ≤ 59) → J n i = J0 n i
theorem zh_cJ_w {h : Nat} {J0 J : Nat → Nat → Int64} (hJ : zh_cJ h J0 J) {i : Nat} (hi : i ≤ 59) (x : Int64) : zh_cJ h J0 (zm_wl J (h + 1) i x) := by
  intro a b hab
  unfold zm_wl
  rw [if_neg (fun e => hab ⟨e.1, by omega⟩)]
  exact hJ a b hab
theorem zh_cs8 {h h2 : Nat} (hh : zm_isRow h) (hh2 : zm_isRow h2) {J0 : Nat → Nat → Int64} {l2 l3 l4 : Int32} {i k n : Nat} (hi : l2.toInt = i) (hk : l3.toInt = k) (hn : l4.toInt = n) (h1 : i + n ≤ 60) (h3 : k + n ≤ 60) : ∀ (f x : Nat) (J : Nat → Nat → Int64), zh_cJ h J0 J → x ≤ n → n - x < f → ∃ J', zv_X7_copyStretch_X_8 I J h h2 l2 l3 l4 (Int32.ofNat x) = some (none, (I, J')) ∧ zh_cJ h J0 J' := by
  intro f
  induction f with
  | zero => intro x J _ _ h; omega
  | succ f ih =>
    intro x J hJ hx hf
    have eo : (Int32.ofNat x).toInt = x := zh_of (by omega)
    rw [zq_X7_copyStretch_X_8 _ _ _ _ _ _ _ _ hh hh2]
    split
    · rw [zq_X7_copyStretch_X_39 _ _ _ _ _ _ _ _ hh hh2]
      exact ⟨J, zq_X7_copyStretch_X_77 I J h h2 l2 l3 l4 _ hh hh2, hJ⟩
    · next hle =>
      rw [zh_le, eo] at hle
      have e2 : (l2 + Int32.ofNat x).toInt = (i + x : Nat) := by rw [zh_add (by omega) (by omega), hi, eo]; omega
      have e3 : (l3 + Int32.ofNat x).toInt = (k + x : Nat) := by rw [zh_add (by omega) (by omega), hk, eo]; omega
      rw [zq_X7_copyStretch_X_15 _ _ _ _ _ _ _ _ hh hh2, if_neg (zh_in (by omega) (by omega)), if_neg (zh_in (by omega) (by omega)), zh_cl e3]
      have e1 : Int32.ofNat x + 1 = Int32.ofNat (x + 1) := by
        apply Int32.toInt_inj.mp
        rw [zh_add (by rw [zh_p1]; omega) (by rw [zh_p1]; omega), eo, zh_p1, zh_of (by omega)]
        omega
      rw [e1]
      exact ih (x + 1) _ (zh_cJ_w hJ (by omega) _) (by omega) (by omega)
theorem zh_idx {a b : Int32} {i n : Nat} (ha : a.toInt = i) (hb : 0 ≤ b.toInt) (hl : i + b.toInt < n) (hn : n ≤ 1000) : ¬ ((a + b) < 0 ∨ n ≤ (a + b).toNatClampNeg) ∧ (a + b).toNatClampNeg < n := by
  have e : (a + b).toInt = i + b.toInt := by rw [zh_add (by omega) (by omega), ha]
  have h1 := zs_clamp (i := a + b) (by omega)
  exact ⟨zh_in (by omega) (by omega), by omega⟩
theorem zh_dec {l : Int32} (h : 0 ≤ l.toInt) : (l + (-1)).toInt = l.toInt - 1 := by
  have := zt_rgI l
  rw [zh_add (by rw [zh_m1]; omega) (by rw [zh_m1]; omega), zh_m1]; omega
theorem zh_cs48 {h h2 : Nat} (hh : zm_isRow h) (hh2 : zm_isRow h2) {J0 : Nat → Nat → Int64} {l2 l3 l4 : Int32} {i k n : Nat} (hi : l2.toInt = i) (hk : l3.toInt = k) (h1 : i + n ≤ 60) (h3 : k + n ≤ 60) : ∀ (f : Nat) (l5 : Int32) (J : Nat → Nat → Int64), zh_cJ h J0 J → -1 ≤ l5.toInt → l5.toInt < n → l5.toInt + 1 < f → ∃ J', zv_X7_copyStretch_X_48 I J h h2 l2 l3 l4 l5 = some (none, (I, J')) ∧ zh_cJ h J0 J' := by
  intro f
  induction f with
  | zero => intro l5 J _ _ _ h; omega
  | succ f ih =>
    intro l5 J hJ hx0 hx hf
    rw [zq_X7_copyStretch_X_48 _ _ _ _ _ _ _ _ hh hh2]
    split
    · exact ⟨J, zq_X7_copyStretch_X_77 I J h h2 l2 l3 l4 _ hh hh2, hJ⟩
    · next hle =>
      rw [zh_lt, zh_z0] at hle
      have g2 := zh_idx (n := 60) hi (b := l5) (by omega) (by omega) (by omega)
      have g3 := zh_idx (n := 60) hk (b := l5) (by omega) (by omega) (by omega)
      have em := zh_dec (l := l5) (by omega)
      rw [zq_X7_copyStretch_X_53 _ _ _ _ _ _ _ _ hh hh2, if_neg g2.1, if_neg g3.1]
      refine ih _ _ (zh_cJ_w hJ (Nat.le_of_lt_succ g3.2) _) ?_ ?_ ?_
      · rw [em]; clear em g2 g3; omega
      · rw [em]; clear em g2 g3; omega
      · rw [em]; clear em g2 g3; omega
theorem zh_copyV {h h2 : Nat} (hh : zm_isRow h) (hh2 : zm_isRow h2) (J : Nat → Nat → Int64) {l2 l3 l4 : Int32} (h2' : 0 ≤ l2.toInt) (h3' : 0 ≤ l3.toInt) (h4' : 0 ≤ l4.toInt) (h1 : l2.toInt + l4.toInt ≤ 60) (h3 : l3.toInt + l4.toInt ≤ 60) : ∃ J', zF_X7_copyStretch zW_X [.ref h, .ref h2, .int l2, .int l3, .int l4] (I, J) = some (none, (I, J')) ∧ zh_cJ h J J' := by
  have hJ : zh_cJ h J J := fun _ _ _ => rfl
  rw [zf_X7_copyStretch_X, zq_X7_copyStretch_X_0 _ _ _ _ _ _ _ hh hh2]
  split
  · have e4 : (l4 - 1).toInt = l4.toInt - 1 := by rw [zh_sub (by rw [zh_p1]; omega) (by rw [zh_p1]; omega), zh_p1]
    rw [zq_X7_copyStretch_X_42 _ _ _ _ _ _ _ hh hh2]
    exact zh_cs48 hh hh2 (i := l2.toInt.toNat) (k := l3.toInt.toNat) (n := l4.toInt.toNat) (by omega) (by omega) (by omega) (by omega) 100 _ J hJ (by omega) (by omega) (by omega)
  · rw [zq_X7_copyStretch_X_5 _ _ _ _ _ _ _ hh hh2]
    exact zh_cs8 hh hh2 (i := l2.toInt.toNat) (k := l3.toInt.toNat) (n := l4.toInt.toNat) (by omega) (by omega) (by omega) (by omega) (by omega) 100 0 J hJ (by omega) (by omega)
theorem zh_pasteXV (J : Nat → Nat → Int64) (hs : ∀ h, zm_isRow h → 0 ≤ (I h 1).toInt ∧ (I h 1).toInt ≤ 60) (l1 l2 l3 l4 l5 : Int32) : ∃ (x : Int32) (J' : Nat → Nat → Int64), zF_X9_paste zW_X [.ref 0, .int l1, .int l2, .int l3, .int l4, .int l5] (I, J) = some (some (.int x), (I, J')) ∧ (-8 ≤ x.toInt ∧ x.toInt ≤ 0) ∧ (J' = J ∨ ∃ h, zm_isRow h ∧ zh_cJ h J J') := by
  have e2 : (-2 : Int32).toInt = -2 := by decide
  have e6 : (-6 : Int32).toInt = -6 := by decide
  have e7 : (-7 : Int32).toInt = -7 := by decide
  have e8 : (-8 : Int32).toInt = -8 := by decide
  rcases zh_rowAt (I := I) (J := J) l1 with ⟨h, hh, hr⟩ | hr
  · rcases zh_rowAt (I := I) (J := J) l3 with ⟨h2, hh2, hr2⟩ | hr2
    · rw [zf_X9_paste_X, zc_X9_paste_X_0 _ _ _ _ _ _ _ hr, zc_X9_paste_X_5 _ _ _ _ _ _ _ _ hh hr2, zq_X9_paste_X_12 _ _ _ _ _ _ _ _ _ hh hh2, zq_X9_paste_X_19 _ _ _ _ _ _ _ _ _ hh hh2]
      obtain ⟨r, q⟩ := zh_isMadeV (zm_sub2 [(h, 2)] (I, J))
      rw [zc_X9_paste_X_27 _ _ _ _ _ _ _ _ _ hh hh2 q]
      simp only [zm_mrg_id]
      have e43 := zq_X9_paste_X_43 I J h h2 l1 l2 l3 l4 l5 hh hh2
      rw [zq_X9_paste_X_32 _ _ _ _ _ _ _ _ _ _ hh hh2]
      split
      · exact ⟨_, J, e43, by omega, Or.inl rfl⟩
      · obtain ⟨r2, q2⟩ := zh_isMadeV (zm_sub2 [(h2, 2)] (I, J))
        rw [zc_X9_paste_X_35 _ _ _ _ _ _ _ _ _ hh hh2 q2]
        simp only [zm_mrg_id]
        rw [zq_X9_paste_X_40 _ _ _ _ _ _ _ _ _ _ hh hh2]
        split
        · exact ⟨_, J, e43, by omega, Or.inl rfl⟩
        · rw [zq_X9_paste_X_46 _ _ _ _ _ _ _ _ _ hh hh2]
          split
          · obtain ⟨r3, q3, c3⟩ := zh_stretchV (zm_sub2 [(h, 2)] (I, J)) l2 l5 (hs h hh)
            rw [zc_X9_paste_X_62 _ _ _ _ _ _ _ _ _ hh hh2 q3]
            simp only [zm_mrg_id]
            have e85 := zq_X9_paste_X_85 I J h h2 l1 l2 l3 l4 l5 hh hh2
            rw [zq_X9_paste_X_70 _ _ _ _ _ _ _ _ _ _ hh hh2]
            split
            · exact ⟨_, J, e85, by omega, Or.inl rfl⟩
            · next d3 =>
              obtain ⟨r4, q4, c4⟩ := zh_stretchV (zm_sub2 [(h2, 2)] (I, J)) l4 l5 (hs h2 hh2)
              rw [zc_X9_paste_X_73 _ _ _ _ _ _ _ _ _ hh hh2 q4]
              simp only [zm_mrg_id]
              rw [zq_X9_paste_X_82 _ _ _ _ _ _ _ _ _ _ hh hh2]
              split
              · exact ⟨_, J, e85, by omega, Or.inl rfl⟩
              · next d4 =>
                have c3 := c3 d3
                have c4 := c4 d4
                rw [zh_sub1] at c3 c4
                have m1 := hs h hh
                have m2 := hs h2 hh2
                obtain ⟨J', q5, c5⟩ := zh_copyV (I := I) hh2 hh J (l2 := l2) (l3 := l4) (l4 := l5) (by omega) (by omega) (by omega) (by omega) (by omega)
                rw [zc_X9_paste_X_88 _ _ _ _ _ _ _ _ _ hh hh2 q5]
                exact ⟨0, J', zq_X9_paste_X_100 I J' h h2 l1 l2 l3 l4 l5 hh hh2, by rw [zh_z0]; omega, Or.inr ⟨h2, hh2, c5⟩⟩
          · exact ⟨_, J, zq_X9_paste_X_59 I J h h2 l1 l2 l3 l4 l5 hh hh2, by omega, Or.inl rfl⟩
    · rw [zf_X9_paste_Xrn, zc_X9_paste_Xrn_0 _ _ _ _ _ _ _ hr, zc_X9_paste_Xrn_5 _ _ _ _ _ _ _ _ hh hr2, zq_X9_paste_Xrn_12 _ _ _ _ _ _ _ _ hh, zq_X9_paste_Xrn_19 _ _ _ _ _ _ _ _ hh]
      exact ⟨_, J, zq_X9_paste_Xrn_24 _ _ _ _ _ _ _ _ hh, by omega, Or.inl rfl⟩
  · rcases zh_rowAt (I := I) (J := J) l3 with ⟨h2, hh2, hr2⟩ | hr2
    · rw [zf_X9_paste_Xnr, zc_X9_paste_Xnr_0 _ _ _ _ _ _ _ hr, zc_X9_paste_Xnr_5 _ _ _ _ _ _ _ hr2, zq_X9_paste_Xnr_12 _ _ _ _ _ _ _ _ hh2]
      exact ⟨_, J, zq_X9_paste_Xnr_24 _ _ _ _ _ _ _ _ hh2, by omega, Or.inl rfl⟩
    · rw [zf_X9_paste_Xnn, zc_X9_paste_Xnn_0 _ _ _ _ _ _ _ hr, zc_X9_paste_Xnn_5 _ _ _ _ _ _ _ hr2, zq_X9_paste_Xnn_12]
      exact ⟨_, J, zq_X9_paste_Xnn_24 _ _ _ _ _ _ _, by omega, Or.inl rfl⟩
end ZHR
theorem zh_rowG {M : zm_I} (hG : zt_Gs zo_g1 M) : ∀ h, zm_isRow h → 0 ≤ (M.1 h 1).toInt ∧ (M.1 h 1).toInt ≤ 60 := by
  intro h hh
  rcases hh with rfl | rfl | rfl | rfl
  · exact hG 54 _ rfl 1 (.ofNat 0, .ofNat 60) rfl
  · exact hG 56 _ rfl 1 (.ofNat 0, .ofNat 60) rfl
  · exact hG 58 _ rfl 1 (.ofNat 0, .ofNat 60) rfl
  · exact hG 60 _ rfl 1 (.ofNat 0, .ofNat 60) rfl
theorem zh_gsJ {G : zt_G} {M : zm_I} {J' : Nat → Nat → Int64} (hG : zt_Gs G M) : zt_Gs G (M.1, J') := fun n g hg i b hb => hG n g hg i b hb
theorem zh_pasteX (v : Nat) (hd : Nat × Option Nat × Bool × List (Nat × Nat)) : zt_Con zo_Om (zo_Rel v) (hd, (1, ([zjr 0, zt_top, zt_top, zt_top, zt_top, zt_top], [], []), [(55, 0, 59), (57, 0, 59), (59, 0, 59), (61, 0, 59)], [(some (zj (.negSucc 7) (.ofNat 0)), [], [], [])])) zF_X9_paste :=
  zh_con (w0 := zW_X) (G := zo_g1) rfl (by decide +kernel) (fun as M hs _ _ hG => by
    obtain ⟨vs, rfl, h1⟩ := zh_ref hs
    obtain ⟨l1, vs, rfl, h2⟩ := zh_top h1
    obtain ⟨l2, vs, rfl, h3⟩ := zh_top h2
    obtain ⟨l3, vs, rfl, h4⟩ := zh_top h3
    obtain ⟨l4, vs, rfl, h5⟩ := zh_top h4
    obtain ⟨l5, vs, rfl, h6⟩ := zh_top h5
    obtain rfl := zh_nil h6
    obtain ⟨x, J', q1, q2, q3⟩ := zh_pasteXV (I := M.1) M.2 (zh_rowG hG) l1 l2 l3 l4 l5
    refine ⟨_, (M.1, J'), q1, zh_gsJ hG, fun n i hh => ⟨rfl, ?_⟩, _, List.mem_cons_self, zh_res q2.1 q2.2⟩
    rcases q3 with rfl | ⟨h, hr, q3⟩
    · rfl
    · refine q3 n i (fun c => ?_)
      have : zt_hit [(55, 0, 59), (57, 0, 59), (59, 0, 59), (61, 0, 59)] n i = true := by
        rcases hr with rfl | rfl | rfl | rfl <;> (rw [c.1]; simp [zt_hit]; omega)
      rw [this] at hh
      cases hh)
