/-! THE DAY'S ANSWERS: goes, last -/
section ZZ3
variable {X I : Nat → Nat → Int32} {Q J : Nat → Nat → Int64}
theorem zZ_time (l : Int32) : zF_X10_isTime zW_M [.ref 0, .int l] (I, J) = some (some (.int (if 0 < (I 6 0).toInt ∧ 0 ≤ l.toInt ∧ l.toInt ≤ 60 then 1 else 0)), (I, J)) := by
  have e0 : zv_X10_isTime_M_19 I J l 0 = some (some (.int 0), (I, J)) := by rw [zq_X10_isTime_M_19, if_pos (Or.inl rfl)]
  have e1 : zv_X10_isTime_M_19 I J l 1 = some (some (.int 1), (I, J)) := by rw [zq_X10_isTime_M_19, if_pos (Or.inr rfl)]
  rw [zf_X10_isTime_M, zc_X10_isTime_M_0 _ _ _ zV_ibM, zq_X10_isTime_M_4]
  by_cases c : (I 6 0).toInt ≤ 0
  · rw [if_pos c, if_pos rfl, zq_X10_isTime_M_18, e0, if_neg (show ¬ (0 < (I 6 0).toInt ∧ 0 ≤ l.toInt ∧ l.toInt ≤ 60) by omega)]
  · rw [if_neg c, if_neg (by decide), zc_X10_isTime_M_7 _ _ _ (zV_miM l), zq_X10_isTime_M_11]
    by_cases d : 0 ≤ l.toInt ∧ l.toInt ≤ 60
    · rw [if_pos d, if_neg (by decide), zq_X10_isTime_M_14, e1, if_pos (show 0 < (I 6 0).toInt ∧ 0 ≤ l.toInt ∧ l.toInt ≤ 60 by omega)]
    · rw [if_neg d, if_pos rfl, zq_X10_isTime_M_18, e0, if_neg (show ¬ (0 < (I 6 0).toInt ∧ 0 ≤ l.toInt ∧ l.toInt ≤ 60) by omega)]
/-- both days, with what the loops over callers ask -/
theorem zZ_days (hG : zt_Gs zo_g1 (X, Q)) (hF : zdF (X, Q)) (hq : zqC 1 0 X I) (hM : zt_Gs zo_g22 (I, J)) (hP : zq_P (I, J)) (hn : 0 < (X 1 0).toInt ∨ 0 < (X 1 5).toInt ∨ 0 < (X 1 6).toInt) : ∃ (C : Nat) (N : zm_I) (N' : Nat → Nat → Int32) (K' : Nat → Nat → Int64), C ≤ 5 ∧ X 1 6 = Int32.ofNat C ∧ zF_X9_livedToday zW_X [.ref 0] (X, Q) = some (some (.ref 21), (N.1, N.2)) ∧ zF_X10_laysNow zW_M [.ref 0] (zm_w I 0 0 0, J) = some (none, (N', K')) ∧ N.1 1 6 = Int32.ofNat C ∧ N' 7 5 = Int32.ofNat C ∧ (∀ n b, n < 11 → N.1 n b = X n b) ∧ (∀ c, c < 5 → N.1 27 c = N' 18 c) ∧ (∀ m c, m < 61 → c < C → N.1 31 (5 * m + c) = N' 17 (61 * c + m) ∧ (N.1 30 (5 * m + c) = -1 ↔ N' 16 (61 * c + m) = -1)) ∧ (∀ c, c < C → N' 14 c = X 4 c) ∧ (∀ a b, (a ≠ 0 ∧ (a < 12 ∨ 25 < a)) → N' a b = I a b) := by
  have g6 : (0 : Int) ≤ (X 1 6).toInt ∧ (X 1 6).toInt ≤ 5 := hG 1 _ rfl 6 _ rfl
  have q3 : X 1 6 = I 7 5 := hq.1.2.2.1
  have hE := zY_E hq hP hn
  obtain ⟨N, l1, l2, l3, l4, l5⟩ := zY_lt hG hF hE
  obtain ⟨N', K', m1, m2, m3⟩ := zY_now hG hE hq hM
  obtain ⟨C, hC⟩ : ∃ C : Nat, (X 1 6).toInt = C := ⟨(X 1 6).toInt.toNat, by omega⟩
  have e6 : X 1 6 = Int32.ofNat C := Int32.toInt_inj.mp (by rw [hC, zp_o (by omega)])
  have hB : (zd_bx (X, Q)).1.1 = C := by
    show (X 1 6).toInt.toNat = C
    omega
  refine ⟨C, N, N', K', by omega, e6, l1, m1, (l5 1 6 (by decide)).trans e6, (m3 7 5 (by decide)).trans (q3.symm.trans e6), l5, fun c hc => ?_, fun m c hm hc => ?_, fun c hc => ?_, m3⟩
  · have r := l2.2.1 c hc
    rw [l3] at r
    exact Int32.toInt_inj.mp (r.trans (m2.2.2.1 c hc).symm)
  · have r := l2.1 m (by omega) c (by omega)
    rw [l3] at r
    have r := r (by rw [hB]; exact hc)
    have s := m2.2.2.2.2 m hm c (by rw [hB]; exact hc)
    refine ⟨zZ_K r s, ?_⟩
    have e : ∀ z : Int32, z = -1 ↔ z.toInt = -1 := fun z => ⟨fun q => by rw [q]; decide, fun q => Int32.toInt_inj.mp (q.trans (by decide))⟩
    rw [e, e, r.2, s.2]
  · have z := (m2.1.2.1 c (by rw [hB]; exact hc)).1
    have r4 : (0 : Int) ≤ (X 4 c).toInt ∧ (X 4 c).toInt ≤ 61 := zh_ga (b := (.ofNat 0, .ofNat 61)) hG rfl c
    have e4 : (zd_bx (X, Q)).2.1 c = (X 4 c).toInt.toNat := if_pos (by omega)
    rw [z, e4]
    exact (zd_of r4.1).symm
theorem zZ_goes (hG : zt_Gs zo_g1 (X, Q)) (hF : zdF (X, Q)) (hq : zqC 1 0 X I) (hM : zt_Gs zo_g22 (I, J)) (hP : zq_P (I, J)) (a0 : Int32) {x y : Int32} {N1 N2 : zm_I} (h1 : zF_X9_goes zW_X [.ref 0, .int a0] (X, Q) = some (some (.int x), N1)) (h2 : zF_X10_goes zW_M [.ref 0, .int a0] (I, J) = some (some (.int y), N2)) : x = y := by
  have q1 : X 1 0 = I 6 0 := hq.1.1
  have h1 := (zf_X9_goes_X X Q a0).symm.trans h1
  have h2 := (zf_X10_goes_M I J a0).symm.trans h2
  rw [zc_X9_goes_X_0 _ _ _ zV_hbX, zq_X9_goes_X_4] at h1
  rw [zc_X10_goes_M_0 _ _ _ (zZ_time a0), zq_X10_goes_M_10, show zm_w I 0 0 0 6 0 = I 6 0 from ze_wo (by decide), ← q1] at h2
  by_cases c1 : (X 1 0).toInt ≤ 0
  · rw [if_pos c1, if_pos rfl, zq_X9_goes_X_14] at h1
    rw [if_neg (show ¬ (0 < (X 1 0).toInt ∧ 0 ≤ a0.toInt ∧ a0.toInt ≤ 60) by omega), if_pos rfl, zq_X10_goes_M_13] at h2
    cases h1
    cases h2
    rfl
  rw [if_neg c1, if_neg (by decide), zc_X9_goes_X_7 _ _ _ (zV_miX a0), zq_X9_goes_X_11] at h1
  by_cases c2 : 0 ≤ a0.toInt ∧ a0.toInt ≤ 60
  rotate_left
  · rw [if_neg c2, if_pos rfl, zq_X9_goes_X_14] at h1
    rw [if_neg (show ¬ (0 < (X 1 0).toInt ∧ 0 ≤ a0.toInt ∧ a0.toInt ≤ 60) by omega), if_pos rfl, zq_X10_goes_M_13] at h2
    cases h1
    cases h2
    rfl
  obtain ⟨C, N, N', K', hC, e6, d1, d2, d3, d4, d5, d6, d7, d8, d9⟩ := zZ_days hG hF hq hM hP (Or.inl (by omega))
  rw [if_pos c2, if_neg (by decide), zc_X9_goes_X_17 _ _ _ d1, zq_X9_goes_X_21] at h1
  rw [if_pos (show 0 < (X 1 0).toInt ∧ 0 ≤ a0.toInt ∧ a0.toInt ≤ 60 by omega), if_neg (by decide), zc_X10_goes_M_16 _ _ _ d2, zq_X10_goes_M_20] at h2
  obtain ⟨r, r1, r2⟩ := zZ_goL (l := a0) (K' := K') hC d3 d4 d6 C 0 (by omega)
  have h1 := r1.symm.trans h1
  have h2 := r2.symm.trans h2
  cases h1
  cases h2
  rfl
theorem zZ_laL {N : zm_I} {N' : Nat → Nat → Int32} {K' : Nat → Nat → Int64} {C : Nat} (hC : C ≤ 5) (e1 : N.1 1 6 = Int32.ofNat C) (e2 : N' 7 5 = Int32.ofNat C) (ew : ∀ c, c < 5 → N.1 27 c = N' 18 c) : ∀ d k (l : Int32), k + d = C → ∃ r, zv_X9_last_X_22 N.1 N.2 l (Int32.ofNat k) = some (some (.int r), N) ∧ zv_X10_last_M_23 N' K' l (Int32.ofNat k) = some (some (.int r), (N', K'))
  | 0, k, l, h => ⟨l, by rw [zq_X9_last_X_22, e1, if_pos ((zp_le (by omega) (by omega)).mpr (by omega)), zq_X9_last_X_50], by rw [zc_X10_last_M_23 _ _ _ _ zdm_callers, zq_X10_last_M_28, e2, if_pos ((zp_le (by omega) (by omega)).mpr (by omega)), zq_X10_last_M_58]⟩
  | d + 1, k, l, h => by
    have n1 : ¬ (Int32.ofNat C : Int32) ≤ Int32.ofNat k := fun z => by
      have := (zp_le (by omega) (by omega)).mp z
      omega
    have f1 : zv_X9_last_X_22 N.1 N.2 l (Int32.ofNat k) = zv_X9_last_X_22 N.1 N.2 (if l < N' 18 k then N' 18 k else l) (Int32.ofNat (k + 1)) := by
      rw [zq_X9_last_X_22, e1, if_neg n1, zq_X9_last_X_33, if_neg (zp_in (by omega) (by omega)), zp_cl (by omega), ew k (by omega), zp_o1 (by omega)]
    have f2 : zv_X10_last_M_23 N' K' l (Int32.ofNat k) = zv_X10_last_M_23 N' K' (if l < N' 18 k then N' 18 k else l) (Int32.ofNat (k + 1)) := by
      rw [zc_X10_last_M_23 _ _ _ _ zdm_callers, zq_X10_last_M_28, e2, if_neg n1, zq_X10_last_M_31, if_neg (zp_in (by omega) (by omega)), zp_cl (by omega)]
      by_cases c : l < N' 18 k
      · rw [if_neg (show ¬ N' 18 k ≤ l by rw [ze_le]; rw [ze_lt] at c; omega), zq_X10_last_M_41, if_neg (zp_in (by omega) (by omega)), zp_cl (by omega), zq_X10_last_M_51, if_pos c, zp_o1 (by omega)]
      · rw [if_pos (show N' 18 k ≤ l by rw [ze_le]; rw [ze_lt] at c; omega), zq_X10_last_M_50, zq_X10_last_M_51, if_neg c, zp_o1 (by omega)]
    obtain ⟨r, r1, r2⟩ := zZ_laL (K' := K') hC e1 e2 ew d (k + 1) (if l < N' 18 k then N' 18 k else l) (by omega)
    exact ⟨r, f1.trans r1, f2.trans r2⟩
theorem zZ_last (hG : zt_Gs zo_g1 (X, Q)) (hF : zdF (X, Q)) (hq : zqC 1 0 X I) (hM : zt_Gs zo_g22 (I, J)) (hP : zq_P (I, J)) {x y : Int32} {N1 N2 : zm_I} (h1 : zF_X9_last zW_X [.ref 0] (X, Q) = some (some (.int x), N1)) (h2 : zF_X10_last zW_M [.ref 0] (I, J) = some (some (.int y), N2)) : x = y := by
  have q1 : X 1 0 = I 6 0 := hq.1.1
  have h1 := (zf_X9_last_X X Q).symm.trans h1
  have h2 := (zf_X10_last_M I J).symm.trans h2
  rw [zc_X9_last_X_0 _ _ zV_hbX, zq_X9_last_X_4] at h1
  rw [zc_X10_last_M_0 _ _ zV_ibM, zq_X10_last_M_9, show zm_w I 0 0 0 6 0 = I 6 0 from ze_wo (by decide), ← q1] at h2
  by_cases c1 : (X 1 0).toInt ≤ 0
  · rw [if_pos c1, if_pos rfl, zq_X9_last_X_7] at h1
    rw [if_pos c1, if_pos rfl, zq_X10_last_M_12] at h2
    cases h1
    cases h2
    rfl
  obtain ⟨C, N, N', K', hC, e6, d1, d2, d3, d4, d5, d6, d7, d8, d9⟩ := zZ_days hG hF hq hM hP (Or.inl (by omega))
  rw [if_neg c1, if_neg (by decide), zc_X9_last_X_10 _ _ d1, zq_X9_last_X_14] at h1
  rw [if_neg c1, if_neg (by decide), zc_X10_last_M_15 _ _ d2, zq_X10_last_M_19] at h2
  obtain ⟨r, r1, r2⟩ := zZ_laL (K' := K') hC d3 d4 d6 C 0 (-1) (by omega)
  have h1 := r1.symm.trans h1
  have h2 := r2.symm.trans h2
  cases h1
  cases h2
  rfl
end ZZ3
