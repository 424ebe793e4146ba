/-! THE DAY'S ANSWERS: stands, free -/
section ZZ5
variable {X I : Nat → Nat → Int32} {Q J : Nat → Nat → Int64}
theorem zZ_or0 (x : Int32) : x ||| 0 = x := Int32.or_zero
theorem zZ_and (x : Int32) : x &&& x = x := Int32.and_self
theorem zZ_th {M : zm_I} {m c : Nat} (hm : m < 61) (hc : c < 5) : zF_X3_isThere zW_Y [.ref 0, .int (Int32.ofNat c), .int (Int32.ofNat m)] (zm_sub2 [(21, 11)] M) = some (some (.int (if M.1 30 (5 * m + c) = -1 then 0 else 1)), zm_sub2 [(21, 11)] M) := by
  have e : zF_X3_isThere zW_Y [.ref 0, .int (Int32.ofNat c), .int (Int32.ofNat m)] (zm_sub2 [(21, 11)] M) = zv_X3_isThere_Y_0 (zm_sub2 [(21, 11)] M).1 (zm_sub2 [(21, 11)] M).2 (Int32.ofNat c) (Int32.ofNat m) := zf_X3_isThere_Y _ _ _ _
  have a : zF_X3_ageAt zW_Y [.ref 0, .int (Int32.ofNat c), .int (Int32.ofNat m)] ((zm_sub2 [(21, 11)] M).1, (zm_sub2 [(21, 11)] M).2) = some (some (.int (M.1 30 (5 * m + c))), ((zm_sub2 [(21, 11)] M).1, (zm_sub2 [(21, 11)] M).2)) := by
    rw [zf_X3_ageAt_Y, zq_X3_ageAt_Y_0, zZ_x5 m hm c hc, if_neg (zp_in (by omega) (by omega)), zp_cl (by omega)]
    rfl
  rw [e, zc_X3_isThere_Y_0 _ _ _ _ a, zq_X3_isThere_Y_6]
  by_cases d : M.1 30 (5 * m + c) = -1
  · rw [if_pos d, if_pos d, zq_X3_isThere_Y_14, zq_X3_isThere_Y_15, if_pos (Or.inl rfl)]
  · rw [if_neg d, if_neg d, zq_X3_isThere_Y_10, zq_X3_isThere_Y_15, if_pos (Or.inr rfl)]
theorem zZ_stL {N : zm_I} {N' : Nat → Nat → Int32} {K' : Nat → Nat → Int64} {C m : Nat} (hC : C ≤ 5) (hm : m < 61) (e1 : N.1 1 6 = Int32.ofNat C) (e2 : N' 7 5 = Int32.ofNat C) (ew : ∀ c, c < C → N.1 31 (5 * m + c) = N' 17 (61 * c + m) ∧ (N.1 30 (5 * m + c) = -1 ↔ N' 16 (61 * c + m) = -1)) : ∀ d k (b : Int32), k + d = C → ∃ r, zv_X9_stands_X_27 N.1 N.2 (Int32.ofNat m) b (Int32.ofNat k) = some (some (.int r), N) ∧ zv_X10_stands_M_24 N' K' (Int32.ofNat m) b (Int32.ofNat k) = some (some (.int r), (N', K'))
  | 0, k, b, h => ⟨b, by rw [zq_X9_stands_X_27, e1, if_pos ((zp_le (by omega) (by omega)).mpr (by omega)), zq_X9_stands_X_73], by rw [zc_X10_stands_M_24 _ _ _ _ _ zdm_callers, zq_X10_stands_M_29, e2, if_pos ((zp_le (by omega) (by omega)).mpr (by omega)), zq_X10_stands_M_78]⟩
  | d + 1, k, b, h => by
    have n1 : ¬ (Int32.ofNat C : Int32) ≤ Int32.ofNat k := fun z => by
      have := (zp_le (by omega) (by omega)).mp z
      omega
    obtain ⟨w1, w2⟩ := ew k (by omega)
    have f0 : zv_X9_stands_X_27 N.1 N.2 (Int32.ofNat m) b (Int32.ofNat k) = if (if N.1 30 (5 * m + k) = -1 then (0 : Int32) else 1) = 0 then zv_X9_stands_X_67 N.1 N.2 (Int32.ofNat m) b (Int32.ofNat k) else zv_X9_stands_X_49 N.1 N.2 (Int32.ofNat m) b (Int32.ofNat k) := by
      rw [zq_X9_stands_X_27, e1, if_neg n1, zc_X9_stands_X_39 _ _ _ _ _ (zZ_th (M := (N.1, N.2)) hm (by omega)), zZ_id, zq_X9_stands_X_46]
    have g0 : zv_X10_stands_M_24 N' K' (Int32.ofNat m) b (Int32.ofNat k) = if N' 16 (61 * k + m) = -1 then zv_X10_stands_M_69 N' K' (Int32.ofNat m) b (Int32.ofNat k) b else zv_X10_stands_M_48 N' K' (Int32.ofNat m) b (Int32.ofNat k) b := by
      rw [zc_X10_stands_M_24 _ _ _ _ _ zdm_callers, zq_X10_stands_M_29, e2, if_neg n1, zq_X10_stands_M_32, zZ_x61 m hm k (by omega), if_neg (zp_in (by omega) (by omega)), zp_cl (by omega)]
    have f9 : ∀ b, zv_X9_stands_X_67 N.1 N.2 (Int32.ofNat m) b (Int32.ofNat k) = zv_X9_stands_X_27 N.1 N.2 (Int32.ofNat m) b (Int32.ofNat (k + 1)) := fun b => by rw [zq_X9_stands_X_67, zp_o1 (by omega)]
    have g9 : zv_X10_stands_M_69 N' K' (Int32.ofNat m) b (Int32.ofNat k) b = zv_X10_stands_M_24 N' K' (Int32.ofNat m) b (Int32.ofNat (k + 1)) := by rw [zq_X10_stands_M_69, zq_X10_stands_M_70, zZ_or0, zp_o1 (by omega)]
    by_cases c : N' 16 (61 * k + m) = -1
    · rw [f0, if_pos (w2.mpr c), if_pos rfl, f9, g0, if_pos c, g9]
      exact zZ_stL hC hm e1 e2 ew d (k + 1) b (by omega)
    · rw [f0, if_neg (fun z => c (w2.mp z)), if_neg (by decide), zc_X9_stands_X_49 _ _ _ _ _ (zZ_at (M := (N.1, N.2)) hm (by omega)), zZ_id, zq_X9_stands_X_56, g0, if_neg c, zq_X10_stands_M_48, zZ_x61 m hm k (by omega), if_neg (zp_in (by omega) (by omega)), zp_cl (by omega)]
      rw [show ((N.1, N.2) : zm_I).1 31 (5 * m + k) = N' 17 (61 * k + m) from w1]
      by_cases q : N' 17 (61 * k + m) = -1
      · rw [if_pos q, if_pos q, zq_X9_stands_X_60, f9, zq_X10_stands_M_63, zq_X10_stands_M_70, zp_o1 (by omega)]
        exact zZ_stL hC hm e1 e2 ew d (k + 1) _ (by omega)
      · rw [if_neg q, if_neg q, f9, g9]
        exact zZ_stL hC hm e1 e2 ew d (k + 1) b (by omega)
theorem zZ_stands (hG : zt_Gs zo_g1 (X, Q)) (hF : zdF (X, Q)) (hq : zqC 1 0 X I) (hM : zt_Gs zo_g22 (I, J)) (hP : zq_P (I, J)) (a0 : Int32) {x y : Int32} {N1 N2 : zm_I} (h1 : zF_X9_stands zW_X [.ref 0, .int a0] (X, Q) = some (some (.int x), N1)) (h2 : zF_X10_stands zW_M [.ref 0, .int a0] (I, J) = some (some (.int y), N2)) : x = y := by
  have q1 : X 1 0 = I 6 0 := hq.1.1
  have h1 := (zf_X9_stands_X X Q a0).symm.trans h1
  have h2 := (zf_X10_stands_M I J a0).symm.trans h2
  rw [zc_X9_stands_X_0 _ _ _ zV_hbX, zq_X9_stands_X_4] at h1
  rw [zc_X10_stands_M_0 _ _ _ (zZ_time a0), zq_X10_stands_M_10, show zm_w I 0 0 0 6 0 = I 6 0 from ze_wo (by decide), ← q1] at h2
  by_cases c1 : (X 1 0).toInt ≤ 0
  · rw [if_pos c1, if_pos rfl, zq_X9_stands_X_14] at h1
    rw [if_neg (show ¬ (0 < (X 1 0).toInt ∧ 0 ≤ a0.toInt ∧ a0.toInt ≤ 60) by omega), if_pos rfl, zq_X10_stands_M_13] at h2
    cases h1
    cases h2
    rfl
  rw [if_neg c1, if_neg (by decide), zc_X9_stands_X_7 _ _ _ (zV_miX a0), zq_X9_stands_X_11] at h1
  by_cases c2 : 0 ≤ a0.toInt ∧ a0.toInt ≤ 60
  rotate_left
  · rw [if_neg c2, if_pos rfl, zq_X9_stands_X_14] at h1
    rw [if_neg (show ¬ (0 < (X 1 0).toInt ∧ 0 ≤ a0.toInt ∧ a0.toInt ≤ 60) by omega), if_pos rfl, zq_X10_stands_M_13] at h2
    cases h1
    cases h2
    rfl
  obtain ⟨C, N, N', K', hC, e6, d1, d2, d3, d4, d5, d6, d7, d8, d9⟩ := zZ_days hG hF hq hM hP (Or.inl (by omega))
  rw [if_pos c2, if_neg (by decide), zc_X9_stands_X_17 _ _ _ d1, zq_X9_stands_X_21] at h1
  rw [if_pos (show 0 < (X 1 0).toInt ∧ 0 ≤ a0.toInt ∧ a0.toInt ≤ 60 by omega), if_neg (by decide), zc_X10_stands_M_16 _ _ _ d2, zq_X10_stands_M_20] at h2
  obtain ⟨m, hmm⟩ : ∃ m : Nat, a0.toInt = m := ⟨a0.toInt.toNat, by omega⟩
  have e0 : a0 = Int32.ofNat m := Int32.toInt_inj.mp (by rw [hmm, zp_o (by omega)])
  subst e0
  obtain ⟨r, r1, r2⟩ := zZ_stL (K' := K') hC (show m < 61 by omega) d3 d4 (fun c hc => d7 m c (by omega) hc) C 0 0 (by omega)
  have h1 := r1.symm.trans h1
  have h2 := r2.symm.trans h2
  cases h1
  cases h2
  rfl
theorem zZ_frL {N : zm_I} {N' : Nat → Nat → Int32} {K' : Nat → Nat → Int64} {C m : Nat} (hC : C ≤ 5) (hm : m < 61) (e1 : N.1 1 6 = Int32.ofNat C) (e2 : N' 7 5 = Int32.ofNat C) (ew : ∀ c, c < C → N.1 31 (5 * m + c) = N' 17 (61 * c + m)) : ∀ d k (b : Int32) (l : Option Value), k + d = C → ∃ r, zv_X9_free_X_37 N.1 N.2 (Int32.ofNat m) b (Int32.ofNat k) l = some (some (.int r), N) ∧ zv_X10_free_M_31 N' K' (Int32.ofNat m) b (Int32.ofNat k) = some (some (.int r), (N', K'))
  | 0, k, b, l, h => ⟨b, by rw [zq_X9_free_X_37, e1, if_pos ((zp_le (by omega) (by omega)).mpr (by omega)), zq_X9_free_X_79], by rw [zc_X10_free_M_31 _ _ _ _ _ zdm_callers, zq_X10_free_M_36, e2, if_pos ((zp_le (by omega) (by omega)).mpr (by omega)), zq_X10_free_M_82]⟩
  | d + 1, k, b, l, h => by
    have n1 : ¬ (Int32.ofNat C : Int32) ≤ Int32.ofNat k := fun z => by
      have := (zp_le (by omega) (by omega)).mp z
      omega
    have w1 := ew k (by omega)
    have f0 : zv_X9_free_X_37 N.1 N.2 (Int32.ofNat m) b (Int32.ofNat k) l = if N' 17 (61 * k + m) = -1 then zv_X9_free_X_73 N.1 N.2 (Int32.ofNat m) b (Int32.ofNat k) (N' 17 (61 * k + m)) else zv_X9_free_X_64 N.1 N.2 (Int32.ofNat m) b (Int32.ofNat k) (N' 17 (61 * k + m)) := by
      rw [zq_X9_free_X_37, e1, if_neg n1, zc_X9_free_X_49 _ _ _ _ _ _ (zZ_at (M := (N.1, N.2)) hm (by omega)), zZ_id, zq_X9_free_X_56]
      rw [show ((N.1, N.2) : zm_I).1 31 (5 * m + k) = N' 17 (61 * k + m) from w1]
    have g0 : zv_X10_free_M_31 N' K' (Int32.ofNat m) b (Int32.ofNat k) = if N' 17 (61 * k + m) = -1 then zv_X10_free_M_55 N' K' (Int32.ofNat m) b (Int32.ofNat k) b else zv_X10_free_M_59 N' K' (Int32.ofNat m) b (Int32.ofNat k) b := by
      rw [zc_X10_free_M_31 _ _ _ _ _ zdm_callers, zq_X10_free_M_36, e2, if_neg n1, zq_X10_free_M_39, zZ_x61 m hm k (by omega), if_neg (zp_in (by omega) (by omega)), zp_cl (by omega)]
    by_cases q : N' 17 (61 * k + m) = -1
    · rw [f0, if_pos q, zq_X9_free_X_73, zp_o1 (by omega), g0, if_pos q, zq_X10_free_M_55, zq_X10_free_M_74, zZ_and, zp_o1 (by omega)]
      exact zZ_frL hC hm e1 e2 ew d (k + 1) b _ (by omega)
    · rw [f0, if_neg q, zq_X9_free_X_64, zq_X9_free_X_73, zp_o1 (by omega), g0, if_neg q, zq_X10_free_M_59, zZ_x61 m hm k (by omega), if_neg (zp_in (by omega) (by omega)), zp_cl (by omega), zq_X10_free_M_74, zp_o1 (by omega)]
      exact zZ_frL hC hm e1 e2 ew d (k + 1) _ _ (by omega)
theorem zZ_free (hG : zt_Gs zo_g1 (X, Q)) (hF : zdF (X, Q)) (hq : zqC 1 0 X I) (hM : zt_Gs zo_g22 (I, J)) (hP : zq_P (I, J)) (a0 : Int32) {x y : Int32} {N1 N2 : zm_I} (h1 : zF_X9_free zW_X [.ref 0, .int a0] (X, Q) = some (some (.int x), N1)) (h2 : zF_X10_free zW_M [.ref 0, .int a0] (I, J) = some (some (.int y), N2)) : x = y := by
  have q1 : X 1 0 = I 6 0 := hq.1.1
  have q2 : X 1 5 = I 7 4 := hq.1.2.1
  have h1 := (zf_X9_free_X X Q a0).symm.trans h1
  have h2 := (zf_X10_free_M I J a0).symm.trans h2
  rw [zc_X9_free_X_0 _ _ _ zV_hbX, zq_X9_free_X_4] at h1
  rw [zc_X10_free_M_0 _ _ _ (zZ_time a0), zq_X10_free_M_10, show zm_w I 0 0 0 6 0 = I 6 0 from ze_wo (by decide), ← q1] at h2
  by_cases c1 : (X 1 0).toInt ≤ 0
  · rw [if_pos c1, if_pos rfl, zq_X9_free_X_14] at h1
    rw [if_neg (show ¬ (0 < (X 1 0).toInt ∧ 0 ≤ a0.toInt ∧ a0.toInt ≤ 60) by omega), if_pos rfl, zq_X10_free_M_13] at h2
    cases h1
    cases h2
    rfl
  rw [if_neg c1, if_neg (by decide), zc_X9_free_X_7 _ _ _ (zV_miX a0), zq_X9_free_X_11] at h1
  by_cases c2 : 0 ≤ a0.toInt ∧ a0.toInt ≤ 60
  rotate_left
  · rw [if_neg c2, if_pos rfl, zq_X9_free_X_14] at h1
    rw [if_neg (show ¬ (0 < (X 1 0).toInt ∧ 0 ≤ a0.toInt ∧ a0.toInt ≤ 60) by omega), if_pos rfl, zq_X10_free_M_13] at h2
    cases h1
    cases h2
    rfl
  obtain ⟨C, N, N', K', hC, e6, d1, d2, d3, d4, d5, d6, d7, d8, d9⟩ := zZ_days hG hF hq hM hP (Or.inl (by omega))
  have hs : zF_X10_seats zW_M [.ref 0] (N', K') = some (some (.int (X 1 5)), (N', K')) := by
    rw [zf_X10_seats_M, zq_X10_seats_M_0, if_neg (by decide), show Int32.toNatClampNeg 4 = 4 by decide, d9 7 4 (by decide), q2]
  rw [if_pos c2, if_neg (by decide), zc_X9_free_X_17 _ _ _ d1, zq_X9_free_X_21, d5 1 5 (by decide)] at h1
  rw [if_pos (show 0 < (X 1 0).toInt ∧ 0 ≤ a0.toInt ∧ a0.toInt ≤ 60 by omega), if_neg (by decide), zc_X10_free_M_16 _ _ _ d2, zc_X10_free_M_20 _ _ _ hs, zq_X10_free_M_25] at h2
  obtain ⟨m, hmm⟩ : ∃ m : Nat, a0.toInt = m := ⟨a0.toInt.toNat, by omega⟩
  have e0 : a0 = Int32.ofNat m := Int32.toInt_inj.mp (by rw [hmm, zp_o (by omega)])
  subst e0
  obtain ⟨r, r1, r2⟩ := zZ_frL (K' := K') hC (show m < 61 by omega) d3 d4 (fun c hc => (d7 m c (by omega) hc).1) C 0 ((1 <<< (X 1 5 &&& 31)) - 1) none (by omega)
  have h1 := r1.symm.trans h1
  have h2 := r2.symm.trans h2
  cases h1
  cases h2
  rfl
end ZZ5
