/-! THE DAY'S ANSWERS: sits, called, waits, goes -/
theorem zZ_x5 : ∀ m, m < 61 → ∀ c, c < 5 → (Int32.ofNat m * 5 + Int32.ofNat c : Int32) = Int32.ofNat (5 * m + c) := by decide +kernel
theorem zZ_x61 : ∀ m, m < 61 → ∀ c, c < 5 → (61 * Int32.ofNat c + Int32.ofNat m : Int32) = Int32.ofNat (61 * c + m) := by decide +kernel
section ZZZ
variable {X I : Nat → Nat → Int32} {Q J : Nat → Nat → Int64}
theorem zZ_at {M : zm_I} {m c : Nat} (hm : m < 61) (hc : c < 5) : zF_X3_seatAt zW_Y [.ref 0, .int (Int32.ofNat c), .int (Int32.ofNat m)] (zm_sub2 [(21, 11)] M) = some (some (.int (M.1 31 (5 * m + c))), zm_sub2 [(21, 11)] M) := by
  have e : zF_X3_seatAt zW_Y [.ref 0, .int (Int32.ofNat c), .int (Int32.ofNat m)] (zm_sub2 [(21, 11)] M) = zv_X3_seatAt_Y_0 (zm_sub2 [(21, 11)] M).1 (zm_sub2 [(21, 11)] M).2 (Int32.ofNat c) (Int32.ofNat m) := zf_X3_seatAt_Y _ _ _ _
  rw [e, zq_X3_seatAt_Y_0, zZ_x5 m hm c hc, if_neg (zp_in (by omega) (by omega)), zp_cl (by omega)]
  rfl
theorem zZ_K {p : Nat → Int} {a b s t : Int32} {c : Nat} (h : zdK p a s c) (h2 : zdK p b t c) : s = t := Int32.toInt_inj.mp (h.1.trans h2.1.symm)
theorem zZ_sits (hG : zt_Gs zo_g1 (X, Q)) (hF : zdF (X, Q)) (hq : zqC 1 0 X I) (hM : zt_Gs zo_g22 (I, J)) (hP : zq_P (I, J)) (a0 a1 : Int32) {x y : Int32} {N1 N2 : zm_I} (h1 : zF_X9_sits zW_X [.ref 0, .int a0, .int a1] (X, Q) = some (some (.int x), N1)) (h2 : zF_X10_sits zW_M [.ref 0, .int a0, .int a1] (I, J) = some (some (.int y), N2)) : x = y := by
  have id1 : zm_mrg [(1, 10)] (X, Q) (zm_sub2 [(1, 10)] (X, Q)) = (X, Q) := zm_mrg_id _ _
  have hc := zp_hasCaller (zm_sub2 [(1, 10)] (X, Q)) a0
  rw [show (zm_sub2 [(1, 10)] (X, Q)).1 0 6 = X 1 6 from rfl] at hc
  have q3 : X 1 6 = I 7 5 := hq.1.2.2.1
  have g6 : (0 : Int) ≤ (X 1 6).toInt ∧ (X 1 6).toInt ≤ 5 := hG 1 _ rfl 6 _ rfl
  have h1 := (zf_X9_sits_X X Q a0 a1).symm.trans h1
  have h2 := (zf_X10_sits_M I J a0 a1).symm.trans h2
  rw [zc_X9_sits_X_0 _ _ _ _ hc, id1, zq_X9_sits_X_8] at h1
  rw [zc_X10_sits_M_0 _ _ _ _ (zp_isCallerM a0), zq_X10_sits_M_11, show zm_w I 0 0 0 7 5 = I 7 5 from ze_wo (by decide), ← q3] at h2
  by_cases c1 : 0 ≤ a0.toInt ∧ a0.toInt < (X 1 6).toInt
  rotate_left
  · rw [if_neg c1, if_pos rfl, zq_X9_sits_X_18] at h1
    rw [if_neg c1, if_pos rfl, zq_X10_sits_M_21] at h2
    cases h1
    cases h2
    rfl
  rw [if_pos c1, if_neg (by decide), zc_X9_sits_X_11 _ _ _ _ (zV_miX a1), zq_X9_sits_X_15] at h1
  rw [if_pos c1, if_neg (by decide), zc_X10_sits_M_14 _ _ _ _ (zV_miM a1), zq_X10_sits_M_18] at h2
  by_cases c2 : 0 ≤ a1.toInt ∧ a1.toInt ≤ 60
  rotate_left
  · rw [if_neg c2, if_pos rfl, zq_X9_sits_X_18] at h1
    rw [if_neg c2, if_pos rfl, zq_X10_sits_M_21] at h2
    cases h1
    cases h2
    rfl
  have hE := zY_E hq hP (Or.inr (Or.inr (by omega)))
  obtain ⟨N, l1, l2, l3, l4, l5⟩ := zY_lt hG hF hE
  obtain ⟨N', K', m1, m2, m3⟩ := zY_now hG hE hq hM
  obtain ⟨c, hcc⟩ : ∃ c : Nat, a0.toInt = c := ⟨a0.toInt.toNat, by omega⟩
  obtain ⟨m, hmm⟩ : ∃ m : Nat, a1.toInt = m := ⟨a1.toInt.toNat, by omega⟩
  have e0 : a0 = Int32.ofNat c := Int32.toInt_inj.mp (by rw [hcc, zp_o (by omega)])
  have e1 : a1 = Int32.ofNat m := Int32.toInt_inj.mp (by rw [hmm, zp_o (by omega)])
  rw [if_pos c2, if_neg (by decide), zc_X9_sits_X_21 _ _ _ _ (I2 := N.1) (J2 := N.2) l1] at h1
  rw [if_pos c2, if_neg (by decide), zc_X10_sits_M_24 _ _ _ _ m1, zq_X10_sits_M_28] at h2
  subst e0 e1
  rw [zc_X9_sits_X_25 _ _ _ _ (zZ_at (M := N) (by omega) (by omega)), zq_X9_sits_X_30] at h1
  rw [zZ_x61 m (by omega) c (by omega), if_neg (zp_in (by omega) (by omega)), zp_cl (by omega)] at h2
  cases h1
  cases h2
  have r := l2.1 m (by omega) c (by omega)
  rw [l3] at r
  have hcB : c < (zd_bx (X, Q)).1.1 := by
    show c < (X 1 6).toInt.toNat
    omega
  exact zZ_K (r hcB) (m2.2.2.2.2 m (by omega) c hcB)
theorem zZ_called (hG : zt_Gs zo_g1 (X, Q)) (hF : zdF (X, Q)) (hq : zqC 1 0 X I) (hM : zt_Gs zo_g22 (I, J)) (hP : zq_P (I, J)) (a0 : Int32) {x y : Int32} {N1 N2 : zm_I} (h1 : zF_X9_called zW_X [.ref 0, .int a0] (X, Q) = some (some (.int x), N1)) (h2 : zF_X10_called zW_M [.ref 0, .int a0] (I, J) = some (some (.int y), N2)) : x = y := by
  have id1 : zm_mrg [(1, 10)] (X, Q) (zm_sub2 [(1, 10)] (X, Q)) = (X, Q) := zm_mrg_id _ _
  have hc := zp_hasCaller (zm_sub2 [(1, 10)] (X, Q)) a0
  rw [show (zm_sub2 [(1, 10)] (X, Q)).1 0 6 = X 1 6 from rfl] at hc
  have q3 : X 1 6 = I 7 5 := hq.1.2.2.1
  have g6 : (0 : Int) ≤ (X 1 6).toInt ∧ (X 1 6).toInt ≤ 5 := hG 1 _ rfl 6 _ rfl
  have h1 := (zf_X9_called_X X Q a0).symm.trans h1
  have h2 := (zf_X10_called_M I J a0).symm.trans h2
  rw [zc_X9_called_X_0 _ _ _ hc, id1, zq_X9_called_X_8] at h1
  rw [zc_X10_called_M_0 _ _ _ (zp_isCallerM a0), zq_X10_called_M_11, show zm_w I 0 0 0 7 5 = I 7 5 from ze_wo (by decide), ← q3] at h2
  by_cases c1 : 0 ≤ a0.toInt ∧ a0.toInt < (X 1 6).toInt
  rotate_left
  · rw [if_neg c1, if_pos rfl, zq_X9_called_X_26, zq_X9_called_X_28] at h1
    rw [if_neg c1, if_pos rfl, zq_X10_called_M_14] at h2
    cases h1
    cases h2
    rfl
  have hE := zY_E hq hP (Or.inr (Or.inr (by omega)))
  obtain ⟨N, l1, l2, l3, l4, l5⟩ := zY_lt hG hF hE
  obtain ⟨N', K', m1, m2, m3⟩ := zY_now hG hE hq hM
  obtain ⟨c, hcc⟩ : ∃ c : Nat, a0.toInt = c := ⟨a0.toInt.toNat, by omega⟩
  have e0 : a0 = Int32.ofNat c := Int32.toInt_inj.mp (by rw [hcc, zp_o (by omega)])
  rw [if_pos c1, if_neg (by decide), zc_X9_called_X_11 _ _ _ (I2 := N.1) (J2 := N.2) l1, zq_X9_called_X_15] at h1
  rw [if_pos c1, if_neg (by decide), zc_X10_called_M_17 _ _ _ m1, zq_X10_called_M_21] at h2
  subst e0
  rw [if_neg (zp_in (by omega) (by omega)), zp_cl (by omega), zq_X9_called_X_28] at h1
  rw [if_neg (zp_in (by omega) (by omega)), zp_cl (by omega)] at h2
  cases h1
  cases h2
  have r := l2.2.1 c (by omega)
  rw [l3] at r
  exact Int32.toInt_inj.mp (r.trans (m2.2.2.1 c (by omega)).symm)
end ZZZ
