/-! THE TAPE'S LENGTH, on both sides: feed, end -/
theorem ze_ix {x : Int32} (h0 : 0 ≤ x.toInt) (h : x.toInt < 800) : ¬ (x < 0 ∨ 800 ≤ Int32.toNatClampNeg x) := by
  intro q
  have e := ze_nat h0
  rcases q with q | q
  · rw [Int32.lt_iff_toInt_lt, show (0 : Int32).toInt = 0 by decide] at q
    omega
  · omega
theorem ze_800 {x : Int32} (h : x.toInt < 800) : ¬ (800 : Int32) ≤ x := by
  rw [Int32.le_iff_toInt_le, show (800 : Int32).toInt = 800 by decide]
  omega
theorem ze_put1 {I : Nat → Nat → Int32} {J : Nat → Nat → Int64} {l l2 : Int32} (hl : ¬ l2 < 0) (h0 : 0 ≤ (I 0 1).toInt) (h : (I 0 1).toInt < 800) : ∃ I', zv_X8_put_T_3 I J l l2 = zv_X8_put_T_3 I' J l (l2 + (-8)) ∧ (I' 0 1).toInt = (I 0 1).toInt + 1 := by
  refine ⟨_, (zq_X8_put_T_3 I J l l2).trans ((if_neg hl).trans ((zq_X8_put_T_7 I J l l2).trans ((if_neg (ze_800 h)).trans ((zq_X8_put_T_17 I J l l2).trans (if_neg (ze_ix h0 h)))))), ?_⟩
  rw [ze_wi, ze_wo (by decide), ze_add (by rw [show (1 : Int32).toInt = 1 by decide]; omega) (by rw [show (1 : Int32).toInt = 1 by decide]; omega), show (1 : Int32).toInt = 1 by decide]
theorem ze_put {I : Nat → Nat → Int32} {J : Nat → Nat → Int64} (l : Int32) (h0 : 0 ≤ (I 0 1).toInt) (h : (I 0 1).toInt ≤ 796) : ∃ I', zF_X8_put zW_T [.ref 0, .int l] (I, J) = some (none, (I', J)) ∧ (I' 0 1).toInt = (I 0 1).toInt + 4 := by
  obtain ⟨I1, a1, b1⟩ := ze_put1 (I := I) (J := J) (l := l) (l2 := 24) (by decide) h0 (by omega)
  obtain ⟨I2, a2, b2⟩ := ze_put1 (I := I1) (J := J) (l := l) (l2 := 24 + (-8)) (by decide) (by omega) (by omega)
  obtain ⟨I3, a3, b3⟩ := ze_put1 (I := I2) (J := J) (l := l) (l2 := 24 + (-8) + (-8)) (by decide) (by omega) (by omega)
  obtain ⟨I4, a4, b4⟩ := ze_put1 (I := I3) (J := J) (l := l) (l2 := 24 + (-8) + (-8) + (-8)) (by decide) (by omega) (by omega)
  refine ⟨I4, ?_, by omega⟩
  rw [zf_X8_put_T, zq_X8_put_T_0, a1, a2, a3, a4, zq_X8_put_T_3, if_pos (by decide), zq_X8_put_T_49]
theorem ze_putX {M : zm_I} (l : Int32) (h0 : 0 ≤ (M.1 51 1).toInt) (h : (M.1 51 1).toInt ≤ 796) : ∃ N, zF_X8_put zW_T [.ref 0, .int l] (zm_sub2 [(51, 2)] M) = some (none, N) ∧ ((zm_mrg [(51, 2)] M N).1 51 1).toInt = (M.1 51 1).toInt + 4 := by
  obtain ⟨I', e1, e2⟩ := ze_put (I := (zm_sub2 [(51, 2)] M).1) (J := (zm_sub2 [(51, 2)] M).2) l h0 h
  exact ⟨_, e1, e2⟩
theorem ze_roomX {M : zm_I} : zF_X8_hasRoom zW_T [.ref 0, .int 20] (zm_sub2 [(51, 2)] M) = some (some (.int (if (800 : Int32) < M.1 51 1 + 20 then 0 else 1)), zm_sub2 [(51, 2)] M) := by
  have e := zf_X8_hasRoom_T (zm_sub2 [(51, 2)] M).1 (zm_sub2 [(51, 2)] M).2 20
  rw [zq_X8_hasRoom_T_0, zq_X8_hasRoom_T_16, zq_X8_hasRoom_T_12, zq_X8_hasRoom_T_17, zq_X8_hasRoom_T_17, if_pos (Or.inl rfl), if_pos (Or.inr rfl)] at e
  have e : zF_X8_hasRoom zW_T [.ref 0, .int 20] (zm_sub2 [(51, 2)] M) = if (800 : Int32) < M.1 51 1 + 20 then some (some (.int 0), zm_sub2 [(51, 2)] M) else some (some (.int 1), zm_sub2 [(51, 2)] M) := e
  rw [e]
  split <;> rfl
theorem ze_20 {x : Int32} (h0 : 0 ≤ x.toInt) (h : x.toInt ≤ 800) : (x + 20).toInt = x.toInt + 20 := by
  have e : (20 : Int32).toInt = 20 := by decide
  rw [ze_add (by rw [e]; omega) (by rw [e]; omega), e]
theorem ze_feedX {M : zm_I} (a b c d e : Int32) (h0 : 0 ≤ (M.1 51 1).toInt) (h8 : (M.1 51 1).toInt ≤ 800) {x : Int32} {N : zm_I} (h : zF_X9_feed zW_X [.ref 0, .int a, .int b, .int c, .int d, .int e] M = some (some (.int x), N)) : ((M.1 51 1).toInt ≤ 780 ∧ x.toInt = (M.1 51 1).toInt + 20 ∧ (N.1 51 1).toInt = (M.1 51 1).toInt + 20) ∨ (780 < (M.1 51 1).toInt ∧ x.toInt = -1 ∧ (N.1 51 1).toInt = (M.1 51 1).toInt) := by
  have hz := (zf_X9_feed_X M.1 M.2 a b c d e).trans (zc_X9_feed_X_0 M.1 M.2 a b c d e (ze_roomX (M := M)))
  have hz : zF_X9_feed zW_X [.ref 0, .int a, .int b, .int c, .int d, .int e] M = _ := hz
  rw [h] at hz
  have hid : zm_mrg [(51, 2)] (M.1, M.2) (zm_sub2 [(51, 2)] M) = M := zm_mrg_id _ _
  rw [hid, zq_X9_feed_X_9] at hz
  by_cases hr : (M.1 51 1).toInt ≤ 780
  · have hr1 : ¬ (800 : Int32) < M.1 51 1 + 20 := by
      rw [Int32.lt_iff_toInt_lt, ze_20 h0 h8, show (800 : Int32).toInt = 800 by decide]
      omega
    rw [if_neg hr1, if_neg (by decide)] at hz
    obtain ⟨N1, p1, q1⟩ := ze_putX (M := M) a h0 (by omega)
    rw [zc_X9_feed_X_14 _ _ _ _ _ _ _ p1] at hz
    generalize zm_mrg [(51, 2)] (M.1, M.2) N1 = M1 at hz q1
    obtain ⟨N2, p2, q2⟩ := ze_putX (M := M1) b (by omega) (by omega)
    rw [zc_X9_feed_X_22 _ _ _ _ _ _ _ p2] at hz
    generalize zm_mrg [(51, 2)] (M1.1, M1.2) N2 = M2 at hz q2
    obtain ⟨N3, p3, q3⟩ := ze_putX (M := M2) c (by omega) (by omega)
    rw [zc_X9_feed_X_30 _ _ _ _ _ _ _ p3] at hz
    generalize zm_mrg [(51, 2)] (M2.1, M2.2) N3 = M3 at hz q3
    obtain ⟨N4, p4, q4⟩ := ze_putX (M := M3) d (by omega) (by omega)
    rw [zc_X9_feed_X_38 _ _ _ _ _ _ _ p4] at hz
    generalize zm_mrg [(51, 2)] (M3.1, M3.2) N4 = M4 at hz q4
    obtain ⟨N5, p5, q5⟩ := ze_putX (M := M4) e (by omega) (by omega)
    rw [zc_X9_feed_X_47 _ _ _ _ _ _ _ p5] at hz
    generalize zm_mrg [(51, 2)] (M4.1, M4.2) N5 = M5 at hz q5
    rw [zq_X9_feed_X_56] at hz
    cases hz
    refine Or.inl ⟨hr, ?_, ?_⟩ <;> (try dsimp only) <;> omega
  · have hr1 : (800 : Int32) < M.1 51 1 + 20 := by
      rw [Int32.lt_iff_toInt_lt, ze_20 h0 h8, show (800 : Int32).toInt = 800 by decide]
      omega
    rw [if_pos hr1, if_pos rfl, zq_X9_feed_X_12] at hz
    cases hz
    exact Or.inr ⟨by omega, by decide, rfl⟩
theorem ze_four1 {I : Nat → Nat → Int32} {J : Nat → Nat → Int64} {l l2 : Int32} (hl : ¬ l2 < 0) (h0 : 0 ≤ (I 0 6).toInt) (h : (I 0 6).toInt < 800) : ∃ I', zv_X10_four_M_3 I J l l2 = zv_X10_four_M_3 I' J l (l2 + (-8)) ∧ (I' 0 6).toInt = (I 0 6).toInt + 1 := by
  refine ⟨_, (zq_X10_four_M_3 I J l l2).trans ((if_neg hl).trans ((zq_X10_four_M_7 I J l l2).trans (if_neg (ze_ix h0 h)))), ?_⟩
  rw [ze_wi, ze_wo (by decide), ze_add (by rw [show (1 : Int32).toInt = 1 by decide]; omega) (by rw [show (1 : Int32).toInt = 1 by decide]; omega), show (1 : Int32).toInt = 1 by decide]
theorem ze_four {I : Nat → Nat → Int32} {J : Nat → Nat → Int64} (l : Int32) (h0 : 0 ≤ (I 0 6).toInt) (h : (I 0 6).toInt ≤ 796) : ∃ I', zF_X10_four zW_M [.ref 0, .int l] (I, J) = some (none, (I', J)) ∧ (I' 0 6).toInt = (I 0 6).toInt + 4 := by
  obtain ⟨I1, a1, b1⟩ := ze_four1 (I := I) (J := J) (l := l) (l2 := 24) (by decide) h0 (by omega)
  obtain ⟨I2, a2, b2⟩ := ze_four1 (I := I1) (J := J) (l := l) (l2 := 24 + (-8)) (by decide) (by omega) (by omega)
  obtain ⟨I3, a3, b3⟩ := ze_four1 (I := I2) (J := J) (l := l) (l2 := 24 + (-8) + (-8)) (by decide) (by omega) (by omega)
  obtain ⟨I4, a4, b4⟩ := ze_four1 (I := I3) (J := J) (l := l) (l2 := 24 + (-8) + (-8) + (-8)) (by decide) (by omega) (by omega)
  refine ⟨I4, ?_, by omega⟩
  rw [zf_X10_four_M, zq_X10_four_M_0, a1, a2, a3, a4, zq_X10_four_M_3, if_pos (by decide), zq_X10_four_M_36]
theorem ze_feedM {M : zm_I} (a b c d e : Int32) (h0 : 0 ≤ (M.1 0 6).toInt) (h8 : (M.1 0 6).toInt ≤ 800) {x : Int32} {N : zm_I} (h : zF_X10_feed zW_M [.ref 0, .int a, .int b, .int c, .int d, .int e] M = some (some (.int x), N)) : ((M.1 0 6).toInt ≤ 780 ∧ x.toInt = (M.1 0 6).toInt + 20 ∧ (N.1 0 6).toInt = (M.1 0 6).toInt + 20) ∨ (780 < (M.1 0 6).toInt ∧ x.toInt = -1 ∧ (N.1 0 6).toInt = (M.1 0 6).toInt) := by
  have hz : zF_X10_feed zW_M [.ref 0, .int a, .int b, .int c, .int d, .int e] M = _ := zf_X10_feed_M M.1 M.2 a b c d e
  have e6 : zm_w M.1 0 0 0 0 6 = M.1 0 6 := by
    unfold zm_w
    rw [if_neg (by decide)]
  rw [h, zq_X10_feed_M_0, e6] at hz
  by_cases hr : (M.1 0 6).toInt ≤ 780
  · have hr1 : M.1 0 6 + 20 ≤ (800 : Int32) := by
      rw [Int32.le_iff_toInt_le, ze_20 h0 h8, show (800 : Int32).toInt = 800 by decide]
      omega
    rw [if_pos hr1] at hz
    have e6' : ((zm_w M.1 0 0 0) 0 6).toInt = (M.1 0 6).toInt := by rw [e6]
    generalize zm_w M.1 0 0 0 = I0 at hz e6'
    obtain ⟨I1, p1, q1⟩ := ze_four (I := I0) (J := M.2) a (by omega) (by omega)
    rw [zc_X10_feed_M_20 _ _ _ _ _ _ _ p1] at hz
    obtain ⟨I2, p2, q2⟩ := ze_four (I := I1) (J := M.2) b (by omega) (by omega)
    rw [zc_X10_feed_M_25 _ _ _ _ _ _ _ p2] at hz
    obtain ⟨I3, p3, q3⟩ := ze_four (I := I2) (J := M.2) c (by omega) (by omega)
    rw [zc_X10_feed_M_30 _ _ _ _ _ _ _ p3] at hz
    obtain ⟨I4, p4, q4⟩ := ze_four (I := I3) (J := M.2) d (by omega) (by omega)
    rw [zc_X10_feed_M_35 _ _ _ _ _ _ _ p4] at hz
    obtain ⟨I5, p5, q5⟩ := ze_four (I := I4) (J := M.2) e (by omega) (by omega)
    rw [zc_X10_feed_M_41 _ _ _ _ _ _ _ p5, zq_X10_feed_M_47] at hz
    cases hz
    refine Or.inl ⟨hr, ?_, ?_⟩
    · omega
    · show (I5 0 6).toInt = _
      omega
  · have hr1 : ¬ M.1 0 6 + 20 ≤ (800 : Int32) := by
      rw [Int32.le_iff_toInt_le, ze_20 h0 h8, show (800 : Int32).toInt = 800 by decide]
      omega
    rw [if_neg hr1, zq_X10_feed_M_18] at hz
    cases hz
    refine Or.inr ⟨by omega, by decide, ?_⟩
    show ((zm_w M.1 0 0 0) 0 6).toInt = _
    rw [e6]
theorem ze_endX {M : zm_I} (n : Int32) {x : Int32} {N : zm_I} (h : zF_X9_end zW_X [.ref 0, .int n] M = some (some (.int x), N)) : (0 ≤ n.toInt ∧ n.toInt ≤ (M.1 51 1).toInt ∧ x = n ∧ N.1 51 1 = n) ∨ ((n.toInt < 0 ∨ (M.1 51 1).toInt < n.toInt) ∧ x = -1 ∧ N.1 51 1 = M.1 51 1) := by
  have hz : zF_X9_end zW_X [.ref 0, .int n] M = _ := zf_X9_end_X M.1 M.2 n
  rw [h, zq_X9_end_X_0, zq_X9_end_X_4, zq_X9_end_X_15, zq_X9_end_X_17] at hz
  have z0 : (0 : Int32).toInt = 0 := by decide
  by_cases h0 : n < 0
  · rw [if_pos h0] at hz
    cases hz
    rw [Int32.lt_iff_toInt_lt, z0] at h0
    exact Or.inr ⟨Or.inl h0, rfl, rfl⟩
  · rw [if_neg h0] at hz
    rw [Int32.lt_iff_toInt_lt, z0] at h0
    by_cases h1 : n ≤ M.1 51 1
    · rw [if_pos h1] at hz
      cases hz
      rw [Int32.le_iff_toInt_le] at h1
      exact Or.inl ⟨by omega, h1, rfl, (show zm_w M.1 51 1 n 51 1 = n from ze_wi)⟩
    · rw [if_neg h1] at hz
      cases hz
      rw [Int32.le_iff_toInt_le] at h1
      exact Or.inr ⟨Or.inr (by omega), rfl, rfl⟩
theorem ze_inM {I : Nat → Nat → Int32} {J : Nat → Nat → Int64} (a b c : Int64) : zF_X10_in zW_M [.long a, .long b, .long c] (I, J) = some (some (.int (if a < b then 0 else if c < a then 0 else 1)), (I, J)) := by
  rw [zf_X10_in_M, zq_X10_in_M_0]
  by_cases h1 : a < b
  · rw [if_pos ((lg_cmp_lt a b).mpr h1), if_pos h1, zq_X10_in_M_17, zq_X10_in_M_18, if_pos (Or.inl rfl)]
  · rw [if_neg (fun q => h1 ((lg_cmp_lt a b).mp q)), if_neg h1, zq_X10_in_M_6]
    by_cases h2 : c < a
    · rw [if_pos ((lg_cmp_gt a c).mpr h2), if_pos h2, zq_X10_in_M_17, zq_X10_in_M_18, if_pos (Or.inl rfl)]
    · rw [if_neg (fun q => h2 ((lg_cmp_gt a c).mp q)), if_neg h2, zq_X10_in_M_13, zq_X10_in_M_18, if_pos (Or.inr rfl)]
theorem ze_endM {M : zm_I} (n : Int32) {x : Int32} {N : zm_I} (h : zF_X10_end zW_M [.ref 0, .int n] M = some (some (.int x), N)) : (0 ≤ n.toInt ∧ n.toInt ≤ (M.1 0 6).toInt ∧ x = n ∧ N.1 0 6 = n) ∨ ((n.toInt < 0 ∨ (M.1 0 6).toInt < n.toInt) ∧ x = -1 ∧ N.1 0 6 = M.1 0 6) := by
  have e6 : zm_w M.1 0 0 0 0 6 = M.1 0 6 := by
    unfold zm_w
    rw [if_neg (by decide)]
  have hz : zF_X10_end zW_M [.ref 0, .int n] M = _ := (zf_X10_end_M M.1 M.2 n).trans (zc_X10_end_M_0 M.1 M.2 n (ze_inM _ _ _))
  rw [h, zq_X10_end_M_16, zq_X10_end_M_19, zq_X10_end_M_21, e6] at hz
  have z0 : (0 : Int64).toInt = 0 := by decide
  by_cases h0 : Int32.toInt64 n < 0
  · rw [if_pos h0, if_pos rfl] at hz
    cases hz
    rw [Int64.lt_iff_toInt_lt, Int32.toInt_toInt64, z0] at h0
    exact Or.inr ⟨Or.inl h0, rfl, e6⟩
  · rw [if_neg h0] at hz
    rw [Int64.lt_iff_toInt_lt, Int32.toInt_toInt64, z0] at h0
    by_cases h1 : Int32.toInt64 (M.1 0 6) < Int32.toInt64 n
    · rw [if_pos h1, if_pos rfl] at hz
      cases hz
      rw [Int64.lt_iff_toInt_lt, Int32.toInt_toInt64, Int32.toInt_toInt64] at h1
      exact Or.inr ⟨Or.inr h1, rfl, e6⟩
    · rw [if_neg h1, if_neg (by decide)] at hz
      cases hz
      rw [Int64.lt_iff_toInt_lt, Int32.toInt_toInt64, Int32.toInt_toInt64] at h1
      exact Or.inl ⟨by omega, by omega, rfl, (show zm_w (zm_w M.1 0 0 0) 0 6 n 0 6 = n from ze_wi)⟩
