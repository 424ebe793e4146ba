/-! THE ANSWERS: the mean of both sides -/
section ZCL
variable {X I : Nat → Nat → Int32} {Q J : Nat → Nat → Int64}
theorem zck_X (hG : zt_Gs zo_g1 (X, Q)) (hF : zcF (X, Q)) (hE : 0 < (X 1 0).toInt → 1 ≤ (X 1 3).toInt) (a0 a1 : Int32) {x : Int64} {N1 : zm_I} (h1 : zF_X9_mean zW_X [.ref 0, .int a0, .int a1] (X, Q) = some (some (.long x), N1)) : zcF N1 ∧ ((¬ (0 < (X 1 0).toInt ∧ zcj_ok a0 a1) ∧ x = -2) ∨ ((0 < (X 1 0).toInt ∧ zcj_ok a0 a1) ∧ x = Int64.ofNat (zcg_q (zd_bx (X, Q)) a0.toInt.toNat (zca_S (zcg_T (zd_bx (X, Q)) (zcf_o (X, Q)) a0.toInt.toNat) (zd_bx (X, Q)).1.1) a1))) := by
  have h1 := (zf_X9_mean_X X Q a0 a1).symm.trans h1
  rw [zc_X9_mean_X_0 _ _ _ _ zV_hbX, zq_X9_mean_X_4] at h1
  by_cases c1 : (X 1 0).toInt ≤ 0
  · rw [if_pos c1, if_pos rfl, zq_X9_mean_X_15] at h1
    cases h1
    exact ⟨hF, Or.inl ⟨fun z => by omega, rfl⟩⟩
  rw [if_neg c1, if_neg (by decide)] at h1
  rcases zcj_isX (X := X) (Q := Q) a0 a1 with ⟨k1, k2⟩ | ⟨k1, k2⟩
  rotate_left
  · rw [zc_X9_mean_X_7 _ _ _ _ k2, zq_X9_mean_X_12, if_pos rfl, zq_X9_mean_X_15] at h1
    cases h1
    exact ⟨hF, Or.inl ⟨fun z => k1 z.2, rfl⟩⟩
  rw [zc_X9_mean_X_7 _ _ _ _ k2, zq_X9_mean_X_12, if_neg (by decide)] at h1
  have kk := k1.1
  have e0 : a0 = Int32.ofNat a0.toInt.toNat := Int32.toInt_inj.mp (by rw [zp_o (by omega)]; omega)
  obtain ⟨N, g1, g2⟩ := zcg_mean hG hF (hE (by omega)) (k := a0.toInt.toNat) (by omega) a1
  rw [← e0] at g1
  have h1 := g1.symm.trans h1
  cases h1
  exact ⟨g2, Or.inr ⟨⟨by omega, k1⟩, rfl⟩⟩
theorem zck_mean (hG : zt_Gs zo_g1 (X, Q)) (hF : zcF (X, Q)) (hq : zqC 1 0 X I) (hM : zt_Gs zo_g22 (I, J)) (hP : zq_P (I, J)) (a0 a1 : Int32) {x y : Int64} {N1 N2 : zm_I} (h1 : zF_X9_mean zW_X [.ref 0, .int a0, .int a1] (X, Q) = some (some (.long x), N1)) (h2 : zF_X10_mean zW_M [.ref 0, .int a0, .int a1] (I, J) = some (some (.long y), N2)) : x = y := by
  have hE : 0 < (X 1 0).toInt → 1 ≤ (X 1 3).toInt := fun h => zY_E hq hP (Or.inl h)
  obtain ⟨-, hx⟩ := zck_X hG hF hE a0 a1 h1
  have q1 : X 1 0 = I 6 0 := hq.1.1
  have g6 : (0 : Int) ≤ (X 1 6).toInt ∧ (X 1 6).toInt ≤ 5 := hG 1 _ rfl 6 _ rfl
  have h2 := (zf_X10_mean_M I J a0 a1).symm.trans h2
  have out : ∀ {P : Nat → Nat → Int32} {R : Nat → Nat → Int64}, zv_X10_mean_M_49 P R a0 a1 = some (some (.long (-2)), (P, R)) := fun {P R} => by rw [zq_X10_mean_M_49, zq_X10_mean_M_52]
  rw [zc_X10_mean_M_0 _ _ _ _ zV_ibM, zq_X10_mean_M_9, show zm_w I 0 0 0 6 0 = I 6 0 from ze_wo (by decide), ← q1, out] at h2
  by_cases c1 : (X 1 0).toInt ≤ 0
  · rw [if_pos c1, if_pos rfl] at h2
    cases h2
    rcases hx with ⟨-, hx⟩ | ⟨n1, -⟩
    · exact hx
    · omega
  rw [if_neg c1, if_neg (by decide), zc_X10_mean_M_12 _ _ _ _ (zh_inV _ _ _ _ _), zq_X10_mean_M_21, zcj_10, out] at h2
  by_cases c2 : 0 ≤ a0.toInt ∧ a0.toInt ≤ 10
  rotate_left
  · rw [if_neg c2, if_pos rfl] at h2
    cases h2
    rcases hx with ⟨-, hx⟩ | ⟨n1, -⟩
    · exact hx
    · exact absurd n1.2.1 c2
  rw [if_pos c2, if_neg (by decide), zc_X10_mean_M_24 _ _ _ _ (zcj_half a1), zq_X10_mean_M_28, out] at h2
  by_cases c3 : 0 ≤ a1.toInt ∧ a1.toInt ≤ 1
  rotate_left
  · rw [if_neg c3, if_pos rfl] at h2
    cases h2
    rcases hx with ⟨-, hx⟩ | ⟨n1, -⟩
    · exact hx
    · exact absurd n1.2.2 c3
  rw [if_pos c3, if_neg (by decide)] at h2
  rcases hx with ⟨n1, -⟩ | ⟨m1, hx⟩
  · exact absurd ⟨by omega, c2, c3⟩ n1
  have hE := hE (by omega)
  have e1 : a0 = Int32.ofNat a0.toInt.toNat := Int32.toInt_inj.mp (by rw [zp_o (by omega)]; omega)
  have hq2 : zqC 1 0 X (zm_w I 0 0 0) := zR_q hq (zR_xr (fun _ _ _ => rfl)) (zR_yr (fun i j h0 _ => ze_wo h0))
  have ho := zcg_o hG
  have hv := zY_Mv hG hE hq2
  have hC := hv.1.1.1
  have q6 : X 1 4 = (zm_w I 0 0 0) 7 3 := hq2.1.2.2.2.1.2.2
  obtain ⟨⟨I2, J2⟩, w⟩ := zci_weight hv (zY_Ma hG hq2) (J := J) (zy_Gw hM (by decide +kernel)) ho.1 (k := a0.toInt.toNat) (by omega) (q6.symm.trans ho.2) (-1)
  rw [zci_Am, ← e1] at w
  have bm := zci_Sm (B := zd_bx (X, Q)) (k := a0.toInt.toNat) ho.1 (zd_bx (X, Q)).1.1
  have bm2 : (zd_bx (X, Q)).1.1 * 10 ^ (min (zcf_N (zd_bx (X, Q))) a0.toInt.toNat) ≤ 5 * 10 ^ (min (zcf_N (zd_bx (X, Q))) a0.toInt.toNat) := Nat.mul_le_mul_right _ hC
  have t := zh_tensF I2 J2 a0.toInt.toNat 14 (by omega) (by omega)
  rw [← e1] at t
  have p := zci_part (B := zd_bx (X, Q)) (k := a0.toInt.toNat) (a := zca_S (zcg_T (zd_bx (X, Q)) (zcf_o (X, Q)) a0.toInt.toNat) (zd_bx (X, Q)).1.1) (o := 0) (by omega) (Nat.le_trans bm bm2) a1 I2 J2
  rw [zc_X10_mean_M_31 _ _ _ _ w, zc_X10_mean_M_38 _ _ _ _ _ t, zc_X10_mean_M_42 _ _ _ _ _ _ p, zq_X10_mean_M_46, zq_X10_mean_M_52] at h2
  cases h2
  exact hx
end ZCL
