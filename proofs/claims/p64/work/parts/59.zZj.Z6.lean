/-! THE DAY'S ANSWERS: worn -/
section ZZ6
variable {X I : Nat → Nat → Int32} {Q J : Nat → Nat → Int64}
theorem zZ_woL {N : zm_I} {N' : Nat → Nat → Int32} {K' : Nat → Nat → Int64} {c : Nat} {s : Int32} (hc : c < 5) (ew : ∀ m, m < 61 → N.1 31 (5 * m + c) = N' 17 (61 * c + m)) : ∀ d m (b : Int32), m + d = 61 → ∃ r, zv_X3_minutesOn_Y_5 (zm_sub2 [(21, 11)] N).1 (zm_sub2 [(21, 11)] N).2 (Int32.ofNat c) s b (Int32.ofNat m) = some (some (.int r), zm_sub2 [(21, 11)] N) ∧ zv_X10_worn_M_35 N' K' (Int32.ofNat c) s b (Int32.ofNat m) = some (some (.int r), (N', K'))
  | 0, m, b, h => by
    have hm : m = 61 := by omega
    subst hm
    exact ⟨b, by rw [zq_X3_minutesOn_Y_5, if_pos (show (61 : Int32) ≤ Int32.ofNat 61 by decide), zq_X3_minutesOn_Y_32], by rw [zq_X10_worn_M_35, if_pos (show (60 : Int32) < Int32.ofNat 61 by decide), zq_X10_worn_M_72]⟩
  | d + 1, m, b, h => by
    have hm : m < 61 := by omega
    have n1 : ¬ (61 : Int32) ≤ Int32.ofNat m := fun z => by
      rw [ze_le, zp_o (by omega), show (61 : Int32).toInt = 61 by decide] at z
      omega
    have n2 : ¬ (60 : Int32) < Int32.ofNat m := fun z => by
      rw [ze_lt, zp_o (by omega), ze_i60] at z
      omega
    have a : zF_X3_seatAt zW_Y [.ref 0, .int (Int32.ofNat c), .int (Int32.ofNat m)] ((zm_sub2 [(21, 11)] N).1, (zm_sub2 [(21, 11)] N).2) = some (some (.int (N' 17 (61 * c + m))), ((zm_sub2 [(21, 11)] N).1, (zm_sub2 [(21, 11)] N).2)) := by
      have z := zZ_at (M := N) hm hc
      rw [ew m hm] at z
      exact z
    have g0 : zv_X10_worn_M_35 N' K' (Int32.ofNat c) s b (Int32.ofNat m) = if N' 17 (61 * c + m) = s then zv_X10_worn_M_59 N' K' (Int32.ofNat c) s b (Int32.ofNat m) b else zv_X10_worn_M_63 N' K' (Int32.ofNat c) s b (Int32.ofNat m) b := by
      rw [zq_X10_worn_M_35, if_neg n2, zq_X10_worn_M_42, zZ_x61 m hm c hc, if_neg (zp_in (by omega) (by omega)), zp_cl (by omega)]
    rw [zq_X3_minutesOn_Y_5, if_neg n1, zc_X3_minutesOn_Y_12 _ _ _ _ _ _ a, zq_X3_minutesOn_Y_19, g0]
    by_cases q : N' 17 (61 * c + m) = s
    · rw [if_pos q, if_pos q, zq_X3_minutesOn_Y_23, zq_X3_minutesOn_Y_26, zp_o1 (by omega), zq_X10_worn_M_59, zq_X10_worn_M_64, zp_o1 (by omega)]
      exact zZ_woL hc ew d (m + 1) (b + 1) (by omega)
    · rw [if_neg q, if_neg q, zq_X3_minutesOn_Y_26, zp_o1 (by omega), zq_X10_worn_M_63, zq_X10_worn_M_64, zp_o1 (by omega), show b + 0 = b from Int32.add_zero b]
      exact zZ_woL hc ew d (m + 1) b (by omega)
theorem zZ_worn (hG : zt_Gs zo_g1 (X, Q)) (hF : zdF (X, Q)) (hq : zqC 1 0 X I) (hM : zt_Gs zo_g22 (I, J)) (hP : zq_P (I, J)) (a0 a1 : Int32) {x y : Int32} {N1 N2 : zm_I} (h1 : zF_X9_worn zW_X [.ref 0, .int a0, .int a1] (X, Q) = some (some (.int x), N1)) (h2 : zF_X10_worn zW_M [.ref 0, .int a0, .int a1] (I, J) = some (some (.int y), N2)) : x = y := by
  have id1 : zm_mrg [(1, 10)] (X, Q) (zm_sub2 [(1, 10)] (X, Q)) = (X, Q) := zm_mrg_id _ _
  have hc := zp_hasCaller (zm_sub2 [(1, 10)] (X, Q)) a0
  rw [show (zm_sub2 [(1, 10)] (X, Q)).1 0 6 = X 1 6 from rfl] at hc
  have hs := zp_hasSeat (zm_sub2 [(1, 10)] (X, Q)) a1
  rw [show (zm_sub2 [(1, 10)] (X, Q)).1 0 5 = X 1 5 from rfl] at hs
  have q2 : X 1 5 = I 7 4 := hq.1.2.1
  have q3 : X 1 6 = I 7 5 := hq.1.2.2.1
  have g5 : (0 : Int) ≤ (X 1 5).toInt ∧ (X 1 5).toInt ≤ 6 := hG 1 _ rfl 5 _ rfl
  have g6 : (0 : Int) ≤ (X 1 6).toInt ∧ (X 1 6).toInt ≤ 5 := hG 1 _ rfl 6 _ rfl
  have w4 : zm_w I 0 0 0 7 4 = X 1 5 := (ze_wo (by decide)).trans q2.symm
  have h1 := (zf_X9_worn_X X Q a0 a1).symm.trans h1
  have h2 := (zf_X10_worn_M I J a0 a1).symm.trans h2
  rw [zc_X9_worn_X_0 _ _ _ _ hc, id1, zq_X9_worn_X_8] at h1
  rw [zc_X10_worn_M_0 _ _ _ _ (zp_isCallerM a0), zq_X10_worn_M_11, show zm_w I 0 0 0 7 5 = I 7 5 from ze_wo (by decide), ← q3] at h2
  by_cases c1 : 0 ≤ a0.toInt ∧ a0.toInt < (X 1 6).toInt
  rotate_left
  · rw [if_neg c1, if_pos rfl, zq_X9_worn_X_22] at h1
    rw [if_neg c1, if_pos rfl, zq_X10_worn_M_23] at h2
    cases h1
    cases h2
    rfl
  rw [if_pos c1, if_neg (by decide), zc_X9_worn_X_11 _ _ _ _ hs, id1, zq_X9_worn_X_19] at h1
  rw [if_pos c1, if_neg (by decide), zc_X10_worn_M_14 _ _ _ _ (zp_isSeatM a1 (by rw [w4]; exact g5.1)), zq_X10_worn_M_20, w4] at h2
  by_cases c2 : 0 ≤ a1.toInt ∧ a1.toInt < (X 1 5).toInt
  rotate_left
  · rw [if_neg c2, if_pos rfl, zq_X9_worn_X_22] at h1
    rw [if_neg c2, if_pos rfl, zq_X10_worn_M_23] at h2
    cases h1
    cases h2
    rfl
  obtain ⟨C, N, N', K', hC, e6, d1, d2, d3, d4, d5, d6, d7, d8, d9⟩ := zZ_days hG hF hq hM hP (Or.inr (Or.inl (by omega)))
  obtain ⟨c, hcc⟩ : ∃ c : Nat, a0.toInt = c := ⟨a0.toInt.toNat, by omega⟩
  have e0 : a0 = Int32.ofNat c := Int32.toInt_inj.mp (by rw [hcc, zp_o (by omega)])
  rw [e6, zp_o (by omega)] at c1
  rw [if_pos c2, if_neg (by decide), zc_X9_worn_X_25 _ _ _ _ d1] at h1
  rw [if_pos c2, if_neg (by decide), zc_X10_worn_M_26 _ _ _ _ d2, zq_X10_worn_M_30] at h2
  subst e0
  obtain ⟨r, r1, r2⟩ := zZ_woL (K' := K') (s := a1) (N := N) (N' := N') (show c < 5 by omega) (fun m hm => (d7 m c hm (by omega)).1) 61 0 0 (by omega)
  have hmin : zF_X3_minutesOn zW_Y [.ref 0, .int (Int32.ofNat c), .int a1] (zm_sub2 [(21, 11)] (N.1, N.2)) = some (some (.int r), zm_sub2 [(21, 11)] (N.1, N.2)) := (zf_X3_minutesOn_Y _ _ _ _).trans ((zq_X3_minutesOn_Y_0 _ _ _ _).trans r1)
  rw [zc_X9_worn_X_29 _ _ _ _ hmin, zq_X9_worn_X_34] at h1
  have h2 := r2.symm.trans h2
  cases h1
  cases h2
  rfl
end ZZ6
