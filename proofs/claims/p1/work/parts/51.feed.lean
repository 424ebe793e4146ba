/-! A FRESH OBJECT: feed, count, back, row (printed by program, wip/gen/gen51.py) -/
def zc_ok (b : Int32) (a : Int32) : Bool := decide (¬ b ≤ a) && decide (¬ (a < 0 ∨ 800 ≤ Int32.toNatClampNeg a))
def zs_put (I : Nat → Nat → Int32) (l1 l2 : Int32) : Nat → Nat → Int32 := zm_w (zm_w I 1 (Int32.toNatClampNeg (I 0 1)) (((Int32.toUInt32 l1 >>> (Int32.toUInt32 l2 &&& Int32.toUInt32 31)).toInt32) &&& 255)) 0 1 (((zm_w I 1 (Int32.toNatClampNeg (I 0 1)) (((Int32.toUInt32 l1 >>> (Int32.toUInt32 l2 &&& Int32.toUInt32 31)).toInt32) &&& 255)) 0 1) + 1)
theorem zs_put_at (I : Nat → Nat → Int32) (l1 l2 : Int32) : zs_put I l1 l2 0 1 = I 0 1 + 1 := by simp [zs_put, zm_w]
theorem zp_put1 {I : Nat → Nat → Int32} {J : Nat → Nat → Int64} {v a l2 : Int32} (h : I 0 1 = a) (h1 : ¬ l2 < 0) (h2 : zc_ok 800 a = true) : zv_X8_put_T_3 I J v l2 = zv_X8_put_T_3 (zs_put I v l2) J v (l2 + (-8)) := by
  subst h
  simp only [zc_ok, Bool.and_eq_true, decide_eq_true_eq] at h2
  rw [zq_X8_put_T_3, if_neg h1, zq_X8_put_T_7, if_neg h2.1, zq_X8_put_T_17, if_neg h2.2]
  rfl
theorem zp_put {I : Nat → Nat → Int32} {J : Nat → Nat → Int64} {v a : Int32} (h : I 0 1 = a) (h0 : zc_ok 800 a = true) (h1 : zc_ok 800 (a + 1) = true) (h2 : zc_ok 800 (a + 1 + 1) = true) (h3 : zc_ok 800 (a + 1 + 1 + 1) = true) : ∃ I' : Nat → Nat → Int32, zF_X8_put zW_T [.ref 0, .int v] (I, J) = some (none, (I', J)) ∧ I' 0 1 = a + 1 + 1 + 1 + 1 := by
  have a1 : zs_put I v 24 0 1 = a + 1 := by rw [zs_put_at, h]
  have a2 : zs_put (zs_put I v 24) v (24 + (-8)) 0 1 = a + 1 + 1 := by rw [zs_put_at, a1]
  have a3 : zs_put (zs_put (zs_put I v 24) v (24 + (-8))) v (24 + (-8) + (-8)) 0 1 = a + 1 + 1 + 1 := by rw [zs_put_at, a2]
  refine ⟨zs_put (zs_put (zs_put (zs_put I v 24) v (24 + (-8))) v (24 + (-8) + (-8))) v (24 + (-8) + (-8) + (-8)), ?_, by rw [zs_put_at, a3]⟩
  rw [zf_X8_put_T, zq_X8_put_T_0, zp_put1 h (by decide) h0, zp_put1 a1 (by decide) h1, zp_put1 a2 (by decide) h2, zp_put1 a3 (by decide) h3, zq_X8_put_T_3, if_pos (by decide), zq_X8_put_T_49]
theorem zp_feedput {I : Nat → Nat → Int32} {J : Nat → Nat → Int64} (v : Int32) {a : Int32} (h : I 51 1 = a) (h0 : zc_ok 800 a = true) (h1 : zc_ok 800 (a + 1) = true) (h2 : zc_ok 800 (a + 1 + 1) = true) (h3 : zc_ok 800 (a + 1 + 1 + 1) = true) : ∃ N : zm_I, zF_X8_put zW_T [.ref 0, .int v] (zm_sub2 [(51, 2)] (I, J)) = some (none, N) ∧ (zm_mrg [(51, 2)] (I, J) N).1 51 1 = a + 1 + 1 + 1 + 1 := by
  obtain ⟨P, e, s⟩ := zp_put (I := (zm_sub2 [(51, 2)] (I, J)).1) (J := (zm_sub2 [(51, 2)] (I, J)).2) (v := v) (a := a) h h0 h1 h2 h3
  exact ⟨_, e, s⟩
theorem zg_hasRoom {I : Nat → Nat → Int32} {J : Nat → Nat → Int64} (h : I 0 1 = 0) : zF_X8_hasRoom zW_T [.ref 0, .int 20] (I, J) = some (some (.int 1), (I, J)) := by
  rw [zf_X8_hasRoom_T, zq_X8_hasRoom_T_0, h, if_neg (by decide), zq_X8_hasRoom_T_12, zq_X8_hasRoom_T_17, if_pos (Or.inr rfl)]
theorem zpx_feed {I : Nat → Nat → Int32} {J : Nat → Nat → Int64} (h : zy_X I J) (l1 l2 l3 l4 l5 : Int32) : ∃ N : zm_I, zF_X9_feed zW_X [.ref 0, .int l1, .int l2, .int l3, .int l4, .int l5] (I, J) = some (some (.int 20), N) := by
  have s0 : I 51 1 = 0 := (h.1 51 1 (by decide)).trans (by decide)
  have hr : zF_X8_hasRoom zW_T [.ref 0, .int 20] (zm_sub2 [(51, 2)] (I, J)) = some (some (.int 1), zm_sub2 [(51, 2)] (I, J)) := zg_hasRoom s0
  rw [zf_X9_feed_X, zc_X9_feed_X_0 _ _ _ _ _ _ _ hr]
  simp only [zm_mrg_id]
  rw [zq_X9_feed_X_9, if_neg (by decide)]
  obtain ⟨N1, e1, s1⟩ := zp_feedput (J := J) l1 s0 (by decide) (by decide) (by decide) (by decide)
  rw [zc_X9_feed_X_14 _ _ _ _ _ _ _ e1]
  obtain ⟨N2, e2, s2⟩ := zp_feedput (J := (zm_mrg [(51, 2)] (I, J) N1).2) l2 s1 (by decide) (by decide) (by decide) (by decide)
  rw [zc_X9_feed_X_22 _ _ _ _ _ _ _ e2]
  obtain ⟨N3, e3, s3⟩ := zp_feedput (J := (zm_mrg [(51, 2)] ((zm_mrg [(51, 2)] (I, J) N1).1, (zm_mrg [(51, 2)] (I, J) N1).2) N2).2) l3 s2 (by decide) (by decide) (by decide) (by decide)
  rw [zc_X9_feed_X_30 _ _ _ _ _ _ _ e3]
  generalize hI3 : (zm_mrg [(51, 2)] _ N3).1 = I3 at s3 ⊢
  generalize (zm_mrg [(51, 2)] _ N3).2 = J3
  obtain ⟨N4, e4, s4⟩ := zp_feedput (J := J3) l4 s3 (by decide) (by decide) (by decide) (by decide)
  rw [zc_X9_feed_X_38 _ _ _ _ _ _ _ e4]
  obtain ⟨N5, e5, s5⟩ := zp_feedput (J := (zm_mrg [(51, 2)] (I3, J3) N4).2) l5 s4 (by decide) (by decide) (by decide) (by decide)
  rw [zc_X9_feed_X_47 _ _ _ _ _ _ _ e5, zq_X9_feed_X_56, s5]
  exact ⟨_, rfl⟩
def zs_four (I : Nat → Nat → Int32) (l1 l2 : Int32) : Nat → Nat → Int32 := zm_w (zm_w I 5 (Int32.toNatClampNeg (I 0 6)) (vp_nar .byte ((Int32.toInt8 (l1 >>> (l2 &&& 31))).toInt32))) 0 6 (((zm_w I 5 (Int32.toNatClampNeg (I 0 6)) (vp_nar .byte ((Int32.toInt8 (l1 >>> (l2 &&& 31))).toInt32))) 0 6) + 1)
theorem zs_four_at (I : Nat → Nat → Int32) (l1 l2 : Int32) : zs_four I l1 l2 0 6 = I 0 6 + 1 := by simp [zs_four, zm_w]
theorem zp_four1 {I : Nat → Nat → Int32} {J : Nat → Nat → Int64} {v a l2 : Int32} (h : I 0 6 = a) (h1 : ¬ l2 < 0) (h2 : zc_ok 800 a = true) : zv_X10_four_M_3 I J v l2 = zv_X10_four_M_3 (zs_four I v l2) J v (l2 + (-8)) := by
  subst h
  simp only [zc_ok, Bool.and_eq_true, decide_eq_true_eq] at h2
  rw [zq_X10_four_M_3, if_neg h1, zq_X10_four_M_7, if_neg h2.2]
  rfl
theorem zp_four {I : Nat → Nat → Int32} {J : Nat → Nat → Int64} (v : Int32) {a : Int32} (h : I 0 6 = a) (h0 : zc_ok 800 a = true) (h1 : zc_ok 800 (a + 1) = true) (h2 : zc_ok 800 (a + 1 + 1) = true) (h3 : zc_ok 800 (a + 1 + 1 + 1) = true) : ∃ I' : Nat → Nat → Int32, zF_X10_four zW_M [.ref 0, .int v] (I, J) = some (none, (I', J)) ∧ I' 0 6 = a + 1 + 1 + 1 + 1 := by
  have a1 : zs_four I v 24 0 6 = a + 1 := by rw [zs_four_at, h]
  have a2 : zs_four (zs_four I v 24) v (24 + (-8)) 0 6 = a + 1 + 1 := by rw [zs_four_at, a1]
  have a3 : zs_four (zs_four (zs_four I v 24) v (24 + (-8))) v (24 + (-8) + (-8)) 0 6 = a + 1 + 1 + 1 := by rw [zs_four_at, a2]
  refine ⟨zs_four (zs_four (zs_four (zs_four I v 24) v (24 + (-8))) v (24 + (-8) + (-8))) v (24 + (-8) + (-8) + (-8)), ?_, by rw [zs_four_at, a3]⟩
  rw [zf_X10_four_M, zq_X10_four_M_0, zp_four1 h (by decide) h0, zp_four1 a1 (by decide) h1, zp_four1 a2 (by decide) h2, zp_four1 a3 (by decide) h3, zq_X10_four_M_3, if_pos (by decide), zq_X10_four_M_36]
theorem zpm_feed {I : Nat → Nat → Int32} {J : Nat → Nat → Int64} (h : zy_M I J) (l1 l2 l3 l4 l5 : Int32) : ∃ N : zm_I, zF_X10_feed zW_M [.ref 0, .int l1, .int l2, .int l3, .int l4, .int l5] (I, J) = some (some (.int 20), N) := by
  have s0 : (zm_w I 0 0 0) 0 6 = 0 := ((zy_M_t h).1 0 6 (by decide)).trans (by decide)
  rw [zf_X10_feed_M, zq_X10_feed_M_0, s0, if_pos (by decide)]
  obtain ⟨I1, e1, s1⟩ := zp_four (J := J) l1 s0 (by decide) (by decide) (by decide) (by decide)
  rw [zc_X10_feed_M_20 _ _ _ _ _ _ _ e1]
  obtain ⟨I2, e2, s2⟩ := zp_four (J := J) l2 s1 (by decide) (by decide) (by decide) (by decide)
  rw [zc_X10_feed_M_25 _ _ _ _ _ _ _ e2]
  obtain ⟨I3, e3, s3⟩ := zp_four (J := J) l3 s2 (by decide) (by decide) (by decide) (by decide)
  rw [zc_X10_feed_M_30 _ _ _ _ _ _ _ e3]
  obtain ⟨I4, e4, s4⟩ := zp_four (J := J) l4 s3 (by decide) (by decide) (by decide) (by decide)
  rw [zc_X10_feed_M_35 _ _ _ _ _ _ _ e4]
  obtain ⟨I5, e5, s5⟩ := zp_four (J := J) l5 s4 (by decide) (by decide) (by decide) (by decide)
  rw [zc_X10_feed_M_41 _ _ _ _ _ _ _ e5, zq_X10_feed_M_47, s5]
  exact ⟨_, rfl⟩
theorem zo_feed {I : Nat → Nat → Int32} {J : Nat → Nat → Int64} (hX : zy_X I J) (l1 l2 l3 l4 l5 : Int32) : ∃ (v : Int32) (N : zm_I), zF_X9_feed zW_X [.ref 0, .int l1, .int l2, .int l3, .int l4, .int l5] (I, J) = some (some (.int v), N) ∧ ∀ (I' : Nat → Nat → Int32) (J' : Nat → Nat → Int64), zy_M I' J' → ∃ N' : zm_I, zF_X10_feed zW_M [.ref 0, .int l1, .int l2, .int l3, .int l4, .int l5] (I', J') = some (some (.int v), N') := by
  obtain ⟨N, h1⟩ := zpx_feed hX l1 l2 l3 l4 l5
  exact ⟨20, N, h1, fun I' J' hM => zpm_feed hM l1 l2 l3 l4 l5⟩
theorem zi_ten {l : Int32} (h : ¬ (l.toInt < 0 ∨ 9 < l.toInt)) : l = 0 ∨ l = 1 ∨ l = 2 ∨ l = 3 ∨ l = 4 ∨ l = 5 ∨ l = 6 ∨ l = 7 ∨ l = 8 ∨ l = 9 := by
  have h : l.toInt = 0 ∨ l.toInt = 1 ∨ l.toInt = 2 ∨ l.toInt = 3 ∨ l.toInt = 4 ∨ l.toInt = 5 ∨ l.toInt = 6 ∨ l.toInt = 7 ∨ l.toInt = 8 ∨ l.toInt = 9 := by omega
  rcases h with h | h | h | h | h | h | h | h | h | h
  · exact Or.inl (Int32.toInt_inj.mp (h.trans (by decide)))
  · exact Or.inr (Or.inl (Int32.toInt_inj.mp (h.trans (by decide))))
  · exact Or.inr (Or.inr (Or.inl (Int32.toInt_inj.mp (h.trans (by decide)))))
  · exact Or.inr (Or.inr (Or.inr (Or.inl (Int32.toInt_inj.mp (h.trans (by decide))))))
  · exact Or.inr (Or.inr (Or.inr (Or.inr (Or.inl (Int32.toInt_inj.mp (h.trans (by decide)))))))
  · exact Or.inr (Or.inr (Or.inr (Or.inr (Or.inr (Or.inl (Int32.toInt_inj.mp (h.trans (by decide))))))))
  · exact Or.inr (Or.inr (Or.inr (Or.inr (Or.inr (Or.inr (Or.inl (Int32.toInt_inj.mp (h.trans (by decide)))))))))
  · exact Or.inr (Or.inr (Or.inr (Or.inr (Or.inr (Or.inr (Or.inr (Or.inl (Int32.toInt_inj.mp (h.trans (by decide))))))))))
  · exact Or.inr (Or.inr (Or.inr (Or.inr (Or.inr (Or.inr (Or.inr (Or.inr (Or.inl (Int32.toInt_inj.mp (h.trans (by decide)))))))))))
  · exact Or.inr (Or.inr (Or.inr (Or.inr (Or.inr (Or.inr (Or.inr (Or.inr (Or.inr (Int32.toInt_inj.mp (h.trans (by decide)))))))))))
section ZYC
variable {I : Nat → Nat → Int32} {J : Nat → Nat → Int64}
theorem zkx_0 : zv_X9_count_X_0 I J 0 = zv_X9_count_X_56 I J 0 := by
  rw [zq_X9_count_X_0]
  unfold zm_sw
  simp only []
  rw [if_neg (by decide)]
  rfl
theorem zkm_0 : zv_X10_count_M_0 I J 0 = zv_X10_count_M_64 (zm_w I 0 0 0) J 0 0 := by
  rw [zq_X10_count_M_0]
  unfold zm_sw
  simp only []
  rw [if_neg (by decide)]
  rfl
theorem zkx_1 : zv_X9_count_X_0 I J 1 = zv_X9_count_X_64 I J 1 := by
  rw [zq_X9_count_X_0]
  unfold zm_sw
  simp only []
  rw [if_neg (by decide)]
  rfl
theorem zkm_1 : zv_X10_count_M_0 I J 1 = zv_X10_count_M_69 (zm_w I 0 0 0) J 1 0 := by
  rw [zq_X10_count_M_0]
  unfold zm_sw
  simp only []
  rw [if_neg (by decide)]
  rfl
theorem zkx_2 : zv_X9_count_X_0 I J 2 = zv_X9_count_X_72 I J 2 := by
  rw [zq_X9_count_X_0]
  unfold zm_sw
  simp only []
  rw [if_neg (by decide)]
  rfl
theorem zkm_2 : zv_X10_count_M_0 I J 2 = zv_X10_count_M_69 (zm_w I 0 0 0) J 2 0 := by
  rw [zq_X10_count_M_0]
  unfold zm_sw
  simp only []
  rw [if_neg (by decide)]
  rfl
theorem zkx_3 : zv_X9_count_X_0 I J 3 = zv_X9_count_X_80 I J 3 := by
  rw [zq_X9_count_X_0]
  unfold zm_sw
  simp only []
  rw [if_neg (by decide)]
  rfl
theorem zkm_3 : zv_X10_count_M_0 I J 3 = zv_X10_count_M_69 (zm_w I 0 0 0) J 3 0 := by
  rw [zq_X10_count_M_0]
  unfold zm_sw
  simp only []
  rw [if_neg (by decide)]
  rfl
theorem zkx_4 : zv_X9_count_X_0 I J 4 = zv_X9_count_X_88 I J 4 := by
  rw [zq_X9_count_X_0]
  unfold zm_sw
  simp only []
  rw [if_neg (by decide)]
  rfl
theorem zkm_4 : zv_X10_count_M_0 I J 4 = zv_X10_count_M_69 (zm_w I 0 0 0) J 4 0 := by
  rw [zq_X10_count_M_0]
  unfold zm_sw
  simp only []
  rw [if_neg (by decide)]
  rfl
theorem zkx_5 : zv_X9_count_X_0 I J 5 = zv_X9_count_X_96 I J 5 := by
  rw [zq_X9_count_X_0]
  unfold zm_sw
  simp only []
  rw [if_neg (by decide)]
  rfl
theorem zkm_5 : zv_X10_count_M_0 I J 5 = zv_X10_count_M_78 (zm_w I 0 0 0) J 5 0 := by
  rw [zq_X10_count_M_0]
  unfold zm_sw
  simp only []
  rw [if_neg (by decide)]
  rfl
theorem zkx_6 : zv_X9_count_X_0 I J 6 = zv_X9_count_X_104 I J 6 := by
  rw [zq_X9_count_X_0]
  unfold zm_sw
  simp only []
  rw [if_neg (by decide)]
  rfl
theorem zkm_6 : zv_X10_count_M_0 I J 6 = zv_X10_count_M_78 (zm_w I 0 0 0) J 6 0 := by
  rw [zq_X10_count_M_0]
  unfold zm_sw
  simp only []
  rw [if_neg (by decide)]
  rfl
theorem zkx_7 : zv_X9_count_X_0 I J 7 = zv_X9_count_X_112 I J 7 := by
  rw [zq_X9_count_X_0]
  unfold zm_sw
  simp only []
  rw [if_neg (by decide)]
  rfl
theorem zkm_7 : zv_X10_count_M_0 I J 7 = zv_X10_count_M_85 (zm_w I 0 0 0) J 7 0 := by
  rw [zq_X10_count_M_0]
  unfold zm_sw
  simp only []
  rw [if_neg (by decide)]
  rfl
theorem zkx_8 : zv_X9_count_X_0 I J 8 = zv_X9_count_X_120 I J 8 := by
  rw [zq_X9_count_X_0]
  unfold zm_sw
  simp only []
  rw [if_neg (by decide)]
  rfl
theorem zkm_8 : zv_X10_count_M_0 I J 8 = zv_X10_count_M_92 (zm_w I 0 0 0) J 8 0 := by
  rw [zq_X10_count_M_0]
  unfold zm_sw
  simp only []
  rw [if_neg (by decide)]
  rfl
theorem zkx_9 : zv_X9_count_X_0 I J 9 = zv_X9_count_X_128 I J 9 := by
  rw [zq_X9_count_X_0]
  unfold zm_sw
  simp only []
  rw [if_neg (by decide)]
  rfl
theorem zkm_9 : zv_X10_count_M_0 I J 9 = zv_X10_count_M_97 (zm_w I 0 0 0) J 9 0 := by
  rw [zq_X10_count_M_0]
  unfold zm_sw
  simp only []
  rw [if_neg (by decide)]
  rfl
theorem zkx_d {l : Int32} (h : l.toInt < 0 ∨ 9 < l.toInt) : zv_X9_count_X_0 I J l = zv_X9_count_X_133 I J l := by
  rw [zq_X9_count_X_0]
  unfold zm_sw
  simp only []
  rw [if_pos h]
  rfl
theorem zkm_d {l : Int32} (h : l.toInt < 0 ∨ 9 < l.toInt) : zv_X10_count_M_0 I J l = zv_X10_count_M_130 (zm_w I 0 0 0) J l 0 := by
  rw [zq_X10_count_M_0]
  unfold zm_sw
  simp only []
  rw [if_pos h]
  rfl
theorem zkm_loop (h : zy_M I J) : zv_X10_count_M_97 I J 9 0 = some (some (.int 0), (I, J)) := by
  have w : ∀ (j : Nat) (l : Int32), j < 4 → Int32.toNatClampNeg l = j → I 1 (Int32.toNatClampNeg l) = -1 := fun j l hj he => by
    rw [he, h.1 1 j (by decide)]
    match j, hj with
    | 0, _ => decide
    | 1, _ => decide
    | 2, _ => decide
    | 3, _ => decide
    | n + 4, h => omega
  rw [zq_X10_count_M_97, zq_X10_count_M_99, if_neg (by decide), zq_X10_count_M_104, if_neg (by decide), if_pos (w 0 _ (by decide) (by decide)), zq_X10_count_M_115, zq_X10_count_M_120,
    zq_X10_count_M_99, if_neg (by decide), zq_X10_count_M_104, if_neg (by decide), if_pos (w 1 _ (by decide) (by decide)), zq_X10_count_M_115, zq_X10_count_M_120,
    zq_X10_count_M_99, if_neg (by decide), zq_X10_count_M_104, if_neg (by decide), if_pos (w 2 _ (by decide) (by decide)), zq_X10_count_M_115, zq_X10_count_M_120,
    zq_X10_count_M_99, if_neg (by decide), zq_X10_count_M_104, if_neg (by decide), if_pos (w 3 _ (by decide) (by decide)), zq_X10_count_M_115, zq_X10_count_M_120,
    zq_X10_count_M_99, if_pos (by decide), zq_X10_count_M_128]
  rfl
end ZYC
theorem zo_count {I : Nat → Nat → Int32} {J : Nat → Nat → Int64} (hX : zy_X I J) (l1 : Int32) : ∃ (v : Int32) (N : zm_I), zF_X9_count zW_X [.ref 0, .int l1] (I, J) = some (some (.int v), N) ∧ ∀ (I' : Nat → Nat → Int32) (J' : Nat → Nat → Int64), zy_M I' J' → ∃ N' : zm_I, zF_X10_count zW_M [.ref 0, .int l1] (I', J') = some (some (.int v), N') := by
  by_cases h : l1.toInt < 0 ∨ 9 < l1.toInt
  · exact ⟨-1, (I, J), by rw [zf_X9_count_X, zkx_d h, zq_X9_count_X_133], fun I' J' hM => ⟨(zm_w I' 0 0 0, J'), by rw [zf_X10_count_M, zkm_d h, zq_X10_count_M_130]⟩⟩
  · rcases zi_ten h with rfl | rfl | rfl | rfl | rfl | rfl | rfl | rfl | rfl | rfl
    · exact ⟨0, (I, J), by rw [zf_X9_count_X, zkx_0, zq_X9_count_X_56, (hX.1 1 5 (by decide)).trans (show zc_I 1 5 = 0 by decide)], fun I' J' hM => ⟨(zm_w I' 0 0 0, J'), by rw [zf_X10_count_M, zkm_0, zc_X10_count_M_64 _ _ _ _ (by rw [zf_X10_seats_M, zq_X10_seats_M_0, if_neg (by decide), show Int32.toNatClampNeg 4 = 4 by decide, ((zy_M_t hM).1 7 4 (by decide)).trans (show zc_M 7 4 = 0 by decide)]), zq_X10_count_M_68]⟩⟩
    · exact ⟨0, (I, J), by rw [zf_X9_count_X, zkx_1, zq_X9_count_X_64, (hX.1 1 1 (by decide)).trans (show zc_I 1 1 = 0 by decide)], fun I' J' hM => ⟨(zm_w I' 0 0 0, J'), by rw [zf_X10_count_M, zkm_1, zq_X10_count_M_69, if_neg (by decide), show Int32.toNatClampNeg (1 - 1) = 0 by decide, ((zy_M_t hM).1 7 0 (by decide)).trans (show zc_M 7 0 = 0 by decide)]⟩⟩
    · exact ⟨0, (I, J), by rw [zf_X9_count_X, zkx_2, zq_X9_count_X_72, (hX.1 1 2 (by decide)).trans (show zc_I 1 2 = 0 by decide)], fun I' J' hM => ⟨(zm_w I' 0 0 0, J'), by rw [zf_X10_count_M, zkm_2, zq_X10_count_M_69, if_neg (by decide), show Int32.toNatClampNeg (2 - 1) = 1 by decide, ((zy_M_t hM).1 7 1 (by decide)).trans (show zc_M 7 1 = 0 by decide)]⟩⟩
    · exact ⟨0, (I, J), by rw [zf_X9_count_X, zkx_3, zq_X9_count_X_80, (hX.1 1 3 (by decide)).trans (show zc_I 1 3 = 0 by decide)], fun I' J' hM => ⟨(zm_w I' 0 0 0, J'), by rw [zf_X10_count_M, zkm_3, zq_X10_count_M_69, if_neg (by decide), show Int32.toNatClampNeg (3 - 1) = 2 by decide, ((zy_M_t hM).1 7 2 (by decide)).trans (show zc_M 7 2 = 0 by decide)]⟩⟩
    · exact ⟨0, (I, J), by rw [zf_X9_count_X, zkx_4, zq_X9_count_X_88, (hX.1 1 4 (by decide)).trans (show zc_I 1 4 = 0 by decide)], fun I' J' hM => ⟨(zm_w I' 0 0 0, J'), by rw [zf_X10_count_M, zkm_4, zq_X10_count_M_69, if_neg (by decide), show Int32.toNatClampNeg (4 - 1) = 3 by decide, ((zy_M_t hM).1 7 3 (by decide)).trans (show zc_M 7 3 = 0 by decide)]⟩⟩
    · exact ⟨0, (I, J), by rw [zf_X9_count_X, zkx_5, zq_X9_count_X_96, (hX.1 1 6 (by decide)).trans (show zc_I 1 6 = 0 by decide)], fun I' J' hM => ⟨(zm_w I' 0 0 0, J'), by rw [zf_X10_count_M, zkm_5, zq_X10_count_M_78, if_neg (by decide), show Int32.toNatClampNeg 5 = 5 by decide, ((zy_M_t hM).1 7 5 (by decide)).trans (show zc_M 7 5 = 0 by decide)]⟩⟩
    · exact ⟨0, (I, J), by rw [zf_X9_count_X, zkx_6, zq_X9_count_X_104, (hX.1 1 7 (by decide)).trans (show zc_I 1 7 = 0 by decide)], fun I' J' hM => ⟨(zm_w I' 0 0 0, J'), by rw [zf_X10_count_M, zkm_6, zq_X10_count_M_78, if_neg (by decide), show Int32.toNatClampNeg 6 = 6 by decide, ((zy_M_t hM).1 7 6 (by decide)).trans (show zc_M 7 6 = 0 by decide)]⟩⟩
    · exact ⟨0, (I, J), by rw [zf_X9_count_X, zkx_7, zq_X9_count_X_112, (hX.1 1 0 (by decide)).trans (show zc_I 1 0 = 0 by decide)], fun I' J' hM => ⟨(zm_w I' 0 0 0, J'), by rw [zf_X10_count_M, zkm_7, zq_X10_count_M_85, if_neg (by decide), show Int32.toNatClampNeg 0 = 0 by decide, ((zy_M_t hM).1 6 0 (by decide)).trans (show zc_M 6 0 = 0 by decide)]⟩⟩
    · exact ⟨0, (I, J), by rw [zf_X9_count_X, zkx_8, zq_X9_count_X_120, (hX.1 51 1 (by decide)).trans (show zc_I 51 1 = 0 by decide)], fun I' J' hM => ⟨(zm_w I' 0 0 0, J'), by rw [zf_X10_count_M, zkm_8, zq_X10_count_M_92, ((zy_M_t hM).1 0 6 (by decide)).trans (show zc_M 0 6 = 0 by decide)]⟩⟩
    · exact ⟨0, (I, J), by rw [zf_X9_count_X, zkx_9, zc_X9_count_X_128 _ _ _ (zgx_countRows hX), zq_X9_count_X_132], fun I' J' hM => ⟨(zm_w I' 0 0 0, J'), by rw [zf_X10_count_M, zkm_9, zkm_loop (zy_M_t hM)]⟩⟩
