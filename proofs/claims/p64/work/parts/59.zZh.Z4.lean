/-! THE DAY'S ANSWERS: opens, stands, free -/
section ZZ4
variable {X I : Nat → Nat → Int32} {Q J : Nat → Nat → Int64}
theorem zZ_id (M : zm_I) : zm_mrg [(21, 11)] M (zm_sub2 [(21, 11)] M) = M := zm_mrg_id _ _
theorem zZ_opC {N : zm_I} {N' : Nat → Nat → Int32} {K' : Nat → Nat → Int64} {C m : Nat} {s : Int32} (hC : C ≤ 5) (hm : m < 61) (e1 : N.1 1 6 = Int32.ofNat C) (e2 : N' 7 5 = Int32.ofNat C) (ew : ∀ c, c < C → N.1 31 (5 * m + c) = N' 17 (61 * c + m)) : ∀ d k, k + d = C → (∃ r, zv_X9_opens_X_30 N.1 N.2 s (Int32.ofNat m) (Int32.ofNat k) = some (some (.int r), N) ∧ zv_X10_opens_M_31 N' K' s (Int32.ofNat m) (Int32.ofNat k) = some (some (.int r), (N', K'))) ∨ (zv_X9_opens_X_30 N.1 N.2 s (Int32.ofNat m) (Int32.ofNat k) = zv_X9_opens_X_21 N.1 N.2 s (Int32.ofNat (m + 1)) (some (.int (Int32.ofNat C))) ∧ zv_X10_opens_M_31 N' K' s (Int32.ofNat m) (Int32.ofNat k) = zv_X10_opens_M_23 N' K' s (Int32.ofNat (m + 1)) (some (.int (Int32.ofNat C))))
  | 0, k, h => by
    have hk : k = C := by omega
    subst hk
    exact Or.inr ⟨by rw [zq_X9_opens_X_30, e1, if_pos ((zp_le (by omega) (by omega)).mpr (by omega)), zq_X9_opens_X_62, zp_o1 (by omega)], by rw [zc_X10_opens_M_31 _ _ _ _ _ zdm_callers, zq_X10_opens_M_36, e2, if_pos ((zp_le (by omega) (by omega)).mpr (by omega)), zq_X10_opens_M_62, zp_o1 (by omega)]⟩
  | d + 1, k, h => by
    have n1 : ¬ (Int32.ofNat C : Int32) ≤ Int32.ofNat k := fun z => by
      have := (zp_le (by omega) (by omega)).mp z
      omega
    have f1 : zv_X9_opens_X_30 N.1 N.2 s (Int32.ofNat m) (Int32.ofNat k) = if N' 17 (61 * k + m) = s then zv_X9_opens_X_53 N.1 N.2 s (Int32.ofNat m) (Int32.ofNat k) else zv_X9_opens_X_56 N.1 N.2 s (Int32.ofNat m) (Int32.ofNat k) := by
      rw [zq_X9_opens_X_30, e1, if_neg n1, zc_X9_opens_X_42 _ _ _ _ _ (zZ_at (M := (N.1, N.2)) hm (by omega)), zZ_id, zq_X9_opens_X_49]
      rw [show ((N.1, N.2) : zm_I).1 31 (5 * m + k) = N' 17 (61 * k + m) from ew k (by omega)]
    have f2 : zv_X10_opens_M_31 N' K' s (Int32.ofNat m) (Int32.ofNat k) = if N' 17 (61 * k + m) = s then zv_X10_opens_M_54 N' K' s (Int32.ofNat m) (Int32.ofNat k) else zv_X10_opens_M_56 N' K' s (Int32.ofNat m) (Int32.ofNat k) := by
      rw [zc_X10_opens_M_31 _ _ _ _ _ zdm_callers, zq_X10_opens_M_36, e2, if_neg n1, zq_X10_opens_M_39, zZ_x61 m hm k (by omega), if_neg (zp_in (by omega) (by omega)), zp_cl (by omega)]
    by_cases c : N' 17 (61 * k + m) = s
    · exact Or.inl ⟨Int32.ofNat k, by rw [f1, if_pos c, zq_X9_opens_X_53], by rw [f2, if_pos c, zq_X10_opens_M_54]⟩
    · have g1 : zv_X9_opens_X_30 N.1 N.2 s (Int32.ofNat m) (Int32.ofNat k) = zv_X9_opens_X_30 N.1 N.2 s (Int32.ofNat m) (Int32.ofNat (k + 1)) := by rw [f1, if_neg c, zq_X9_opens_X_56, zp_o1 (by omega)]
      have g2 : zv_X10_opens_M_31 N' K' s (Int32.ofNat m) (Int32.ofNat k) = zv_X10_opens_M_31 N' K' s (Int32.ofNat m) (Int32.ofNat (k + 1)) := by rw [f2, if_neg c, zq_X10_opens_M_56, zp_o1 (by omega)]
      rw [g1, g2]
      exact zZ_opC hC hm e1 e2 ew d (k + 1) (by omega)
theorem zZ_opM {N : zm_I} {N' : Nat → Nat → Int32} {K' : Nat → Nat → Int64} {C : Nat} {s : Int32} (hC : C ≤ 5) (e1 : N.1 1 6 = Int32.ofNat C) (e2 : N' 7 5 = Int32.ofNat C) (ew : ∀ m c, m < 61 → c < C → N.1 31 (5 * m + c) = N' 17 (61 * c + m)) : ∀ d m (l l' : Option Value), m + d = 61 → ∃ r, zv_X9_opens_X_21 N.1 N.2 s (Int32.ofNat m) l = some (some (.int r), N) ∧ zv_X10_opens_M_23 N' K' s (Int32.ofNat m) l' = some (some (.int r), (N', K'))
  | 0, m, l, l', h => by
    have hm : m = 61 := by omega
    subst hm
    exact ⟨-1, by rw [zq_X9_opens_X_21, if_pos (show (61 : Int32) ≤ Int32.ofNat 61 by decide), zq_X9_opens_X_68], by rw [zq_X10_opens_M_23, if_pos (show (60 : Int32) < Int32.ofNat 61 by decide), zq_X10_opens_M_68]⟩
  | d + 1, m, l, l', h => by
    have n1 : ¬ (61 : Int32) ≤ Int32.ofNat m := fun z => by
      rw [ze_le, zp_o (by omega), show (61 : Int32).toInt = 61 by decide] at z
      omega
    have n2 : ¬ (60 : Int32) < Int32.ofNat m := fun z => by
      rw [ze_lt, zp_o (by omega), ze_i60] at z
      omega
    have f1 : zv_X9_opens_X_21 N.1 N.2 s (Int32.ofNat m) l = zv_X9_opens_X_30 N.1 N.2 s (Int32.ofNat m) (Int32.ofNat 0) := by rw [zq_X9_opens_X_21, if_neg n1, zq_X9_opens_X_27]; rfl
    have f2 : zv_X10_opens_M_23 N' K' s (Int32.ofNat m) l' = zv_X10_opens_M_31 N' K' s (Int32.ofNat m) (Int32.ofNat 0) := by rw [zq_X10_opens_M_23, if_neg n2, zq_X10_opens_M_29]; rfl
    rw [f1, f2]
    rcases zZ_opC (K' := K') (s := s) hC (show m < 61 by omega) e1 e2 (fun c hc => ew m c (by omega) hc) C 0 (by omega) with ⟨r, r1, r2⟩ | ⟨r1, r2⟩
    · exact ⟨r, r1, r2⟩
    · rw [r1, r2]
      exact zZ_opM hC e1 e2 ew d (m + 1) _ _ (by omega)
theorem zZ_opens (hG : zt_Gs zo_g1 (X, Q)) (hF : zdF (X, Q)) (hq : zqC 1 0 X I) (hM : zt_Gs zo_g22 (I, J)) (hP : zq_P (I, J)) (a0 : Int32) {x y : Int32} {N1 N2 : zm_I} (h1 : zF_X9_opens zW_X [.ref 0, .int a0] (X, Q) = some (some (.int x), N1)) (h2 : zF_X10_opens zW_M [.ref 0, .int a0] (I, J) = some (some (.int y), N2)) : x = y := by
  have id1 : zm_mrg [(1, 10)] (X, Q) (zm_sub2 [(1, 10)] (X, Q)) = (X, Q) := zm_mrg_id _ _
  have hs := zp_hasSeat (zm_sub2 [(1, 10)] (X, Q)) a0
  rw [show (zm_sub2 [(1, 10)] (X, Q)).1 0 5 = X 1 5 from rfl] at hs
  have q2 : X 1 5 = I 7 4 := hq.1.2.1
  have g5 : (0 : Int) ≤ (X 1 5).toInt ∧ (X 1 5).toInt ≤ 6 := hG 1 _ rfl 5 _ rfl
  have h1 := (zf_X9_opens_X X Q a0).symm.trans h1
  have h2 := (zf_X10_opens_M I J a0).symm.trans h2
  rw [zc_X9_opens_X_0 _ _ _ hs, id1, zq_X9_opens_X_8] at h1
  rw [zc_X10_opens_M_0 _ _ _ (zp_isSeatM a0 (by rw [show zm_w I 0 0 0 7 4 = I 7 4 from ze_wo (by decide), ← q2]; exact g5.1)), zq_X10_opens_M_11, show zm_w I 0 0 0 7 4 = I 7 4 from ze_wo (by decide), ← q2] at h2
  by_cases c1 : 0 ≤ a0.toInt ∧ a0.toInt < (X 1 5).toInt
  rotate_left
  · rw [if_neg c1, if_pos rfl, zq_X9_opens_X_11] at h1
    rw [if_neg c1, if_pos rfl, zq_X10_opens_M_14] at h2
    cases h1
    cases h2
    rfl
  obtain ⟨C, N, N', K', hC, e6, d1, d2, d3, d4, d5, d6, d7, d8, d9⟩ := zZ_days hG hF hq hM hP (Or.inr (Or.inl (by omega)))
  rw [if_pos c1, if_neg (by decide), zc_X9_opens_X_14 _ _ _ d1, zq_X9_opens_X_18] at h1
  rw [if_pos c1, if_neg (by decide), zc_X10_opens_M_17 _ _ _ d2, zq_X10_opens_M_21] at h2
  obtain ⟨r, r1, r2⟩ := zZ_opM (K' := K') (s := a0) hC d3 d4 (fun m c hm hc => (d7 m c hm hc).1) 61 0 none none (by omega)
  have h1 := r1.symm.trans h1
  have h2 := r2.symm.trans h2
  cases h1
  cases h2
  rfl
end ZZ4
