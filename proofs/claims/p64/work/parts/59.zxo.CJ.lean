/-! THE ANSWERS: chance and mean of both sides -/
section ZCK
variable {X I : Nat → Nat → Int32} {Q J : Nat → Nat → Int64}
theorem zcj_10 (k : Int32) : zh_inr (Int32.toInt64 k) 0 10 = if 0 ≤ k.toInt ∧ k.toInt ≤ 10 then 1 else 0 := by
  rw [ze_inr, ze_l0, Int32.toInt_toInt64, show (10 : Int64).toInt = 10 by decide]
theorem zcj_half (w : Int32) : zF_X10_isHalf zW_M [.int w] (I, J) = some (some (.int (if 0 ≤ w.toInt ∧ w.toInt ≤ 1 then 1 else 0)), (I, J)) := by
  rw [zf_X10_isHalf_M, zc_X10_isHalf_M_0 _ _ _ (zh_inV _ _ _ _ _), zq_X10_isHalf_M_7, if_pos (zh_inr_b _ _ _), ze_inr, ze_l0, Int32.toInt_toInt64, show (1 : Int64).toInt = 1 by decide]
def zcj_ok (k w : Int32) : Prop := (0 ≤ k.toInt ∧ k.toInt ≤ 10) ∧ 0 ≤ w.toInt ∧ w.toInt ≤ 1
theorem zcj_isX (k w : Int32) : (zcj_ok k w ∧ zF_X9_isChance zW_X [.int k, .int w] (X, Q) = some (some (.int 1), (X, Q))) ∨ (¬ zcj_ok k w ∧ zF_X9_isChance zW_X [.int k, .int w] (X, Q) = some (some (.int 0), (X, Q))) := by
  have e0 : zv_X9_isChance_X_23 X Q k w = some (some (.int 0), (X, Q)) := by rw [zq_X9_isChance_X_23, zq_X9_isChance_X_24, if_pos (Or.inl rfl)]
  have e1 : zv_X9_isChance_X_19 X Q k w = some (some (.int 1), (X, Q)) := by rw [zq_X9_isChance_X_19, zq_X9_isChance_X_24, if_pos (Or.inr rfl)]
  have i10 : (10 : Int32).toInt = 10 := by decide
  unfold zcj_ok
  rw [zf_X9_isChance_X, zq_X9_isChance_X_0, zq_X9_isChance_X_4, zq_X9_isChance_X_10, zq_X9_isChance_X_14, e0, e1]
  by_cases c1 : k < 0
  · rw [if_pos c1]
    rw [ze_lt, ze_i0] at c1
    exact Or.inr ⟨by omega, rfl⟩
  rw [if_neg c1]
  rw [ze_lt, ze_i0] at c1
  by_cases c2 : (10 : Int32) < k
  · rw [if_pos c2]
    rw [ze_lt, i10] at c2
    exact Or.inr ⟨by omega, rfl⟩
  rw [if_neg c2]
  rw [ze_lt, i10] at c2
  by_cases c3 : w < 0
  · rw [if_pos c3]
    rw [ze_lt, ze_i0] at c3
    exact Or.inr ⟨by omega, rfl⟩
  rw [if_neg c3]
  rw [ze_lt, ze_i0] at c3
  by_cases c4 : (1 : Int32) < w
  · rw [if_pos c4]
    rw [ze_lt, ze_i1] at c4
    exact Or.inr ⟨by omega, rfl⟩
  rw [if_neg c4]
  rw [ze_lt, ze_i1] at c4
  exact Or.inl ⟨by omega, rfl⟩
theorem zcj_isM (l1 k w : Int32) : (((0 ≤ l1.toInt ∧ l1.toInt < (I 7 5).toInt) ∧ zcj_ok k w) ∧ zF_X10_isChance zW_M [.ref 0, .int l1, .int k, .int w] (I, J) = some (some (.int 1), (I, J))) ∨ (¬ ((0 ≤ l1.toInt ∧ l1.toInt < (I 7 5).toInt) ∧ zcj_ok k w) ∧ zF_X10_isChance zW_M [.ref 0, .int l1, .int k, .int w] (I, J) = some (some (.int 0), (I, J))) := by
  have e0 : zv_X10_isChance_M_32 I J l1 k w = some (some (.int 0), (I, J)) := by rw [zq_X10_isChance_M_32, zq_X10_isChance_M_33, if_pos (Or.inl rfl)]
  unfold zcj_ok
  rw [zf_X10_isChance_M, zc_X10_isChance_M_0 _ _ _ _ _ (zp_isCallerM l1), zq_X10_isChance_M_6, e0]
  by_cases c1 : 0 ≤ l1.toInt ∧ l1.toInt < (I 7 5).toInt
  rotate_left
  · rw [if_neg c1, if_pos rfl]
    exact Or.inr ⟨fun z => c1 z.1, rfl⟩
  rw [if_pos c1, if_neg (by decide), zc_X10_isChance_M_9 _ _ _ _ _ (zh_inV _ _ _ _ _), zq_X10_isChance_M_18, zcj_10, e0]
  by_cases c2 : 0 ≤ k.toInt ∧ k.toInt ≤ 10
  rotate_left
  · rw [if_neg c2, if_pos rfl]
    exact Or.inr ⟨fun z => c2 z.2.1, rfl⟩
  rw [if_pos c2, if_neg (by decide), zc_X10_isChance_M_21 _ _ _ _ _ (zcj_half w), zq_X10_isChance_M_25, e0]
  by_cases c3 : 0 ≤ w.toInt ∧ w.toInt ≤ 1
  rotate_left
  · rw [if_neg c3, if_pos rfl]
    exact Or.inr ⟨fun z => c3 z.2.2, rfl⟩
  rw [if_pos c3, if_neg (by decide), zq_X10_isChance_M_28, zq_X10_isChance_M_33, if_pos (Or.inr rfl)]
  exact Or.inl ⟨⟨c1, c2, c3⟩, rfl⟩
/-- the class: a caller's chance -/
theorem zcj_X (hG : zt_Gs zo_g1 (X, Q)) (hF : zcF (X, Q)) (hE : 0 < (X 1 6).toInt → 1 ≤ (X 1 3).toInt) (a0 a1 a2 : Int32) {x : Int64} {N1 : zm_I} (h1 : zF_X9_chance zW_X [.ref 0, .int a0, .int a1, .int a2] (X, Q) = some (some (.long x), N1)) : zcF N1 ∧ ((¬ ((0 ≤ a0.toInt ∧ a0.toInt < (X 1 6).toInt) ∧ zcj_ok a1 a2) ∧ x = -2) ∨ (((0 ≤ a0.toInt ∧ a0.toInt < (X 1 6).toInt) ∧ zcj_ok a1 a2) ∧ x = Int64.ofNat (zcg_q (zd_bx (X, Q)) a1.toInt.toNat (zcg_T (zd_bx (X, Q)) (zcf_o (X, Q)) a1.toInt.toNat a0.toInt.toNat) a2))) := by
  have id1 : zm_mrg [(1, 10)] (X, Q) (zm_sub2 [(1, 10)] (X, Q)) = (X, Q) := zm_mrg_id _ _
  have hc := zp_hasCaller (zm_sub2 [(1, 10)] (X, Q)) a0
  rw [show (zm_sub2 [(1, 10)] (X, Q)).1 0 6 = X 1 6 from rfl] at hc
  have g6 : (0 : Int) ≤ (X 1 6).toInt ∧ (X 1 6).toInt ≤ 5 := hG 1 _ rfl 6 _ rfl
  have h1 := (zf_X9_chance_X X Q a0 a1 a2).symm.trans h1
  rw [zc_X9_chance_X_0 _ _ _ _ _ hc, id1, zq_X9_chance_X_8] at h1
  by_cases c1 : 0 ≤ a0.toInt ∧ a0.toInt < (X 1 6).toInt
  rotate_left
  · rw [if_neg c1, if_pos rfl, zq_X9_chance_X_19] at h1
    cases h1
    exact ⟨hF, Or.inl ⟨fun z => c1 z.1, rfl⟩⟩
  rw [if_pos c1, if_neg (by decide)] at h1
  rcases zcj_isX (X := X) (Q := Q) a1 a2 with ⟨k1, k2⟩ | ⟨k1, k2⟩
  rotate_left
  · rw [zc_X9_chance_X_11 _ _ _ _ _ k2, zq_X9_chance_X_16, if_pos rfl, zq_X9_chance_X_19] at h1
    cases h1
    exact ⟨hF, Or.inl ⟨fun z => k1 z.2, rfl⟩⟩
  rw [zc_X9_chance_X_11 _ _ _ _ _ k2, zq_X9_chance_X_16, if_neg (by decide)] at h1
  have kk := k1.1
  have e0 : a0 = Int32.ofNat a0.toInt.toNat := Int32.toInt_inj.mp (by rw [zp_o (by omega)]; omega)
  have e1 : a1 = Int32.ofNat a1.toInt.toNat := Int32.toInt_inj.mp (by rw [zp_o (by omega)]; omega)
  obtain ⟨N, g1, g2⟩ := zcg_chance hG hF (hE (by omega)) (c := a0.toInt.toNat) (k := a1.toInt.toNat) (by omega) (by omega) a2
  rw [← e0, ← e1] at g1
  have h1 := g1.symm.trans h1
  cases h1
  exact ⟨g2, Or.inr ⟨⟨c1, k1⟩, rfl⟩⟩
/-- both answer alike -/
theorem zcj_chance (hG : zt_Gs zo_g1 (X, Q)) (hF : zcF (X, Q)) (hq : zqC 1 0 X I) (hM : zt_Gs zo_g22 (I, J)) (hP : zq_P (I, J)) (a0 a1 a2 : Int32) {x y : Int64} {N1 N2 : zm_I} (h1 : zF_X9_chance zW_X [.ref 0, .int a0, .int a1, .int a2] (X, Q) = some (some (.long x), N1)) (h2 : zF_X10_chance zW_M [.ref 0, .int a0, .int a1, .int a2] (I, J) = some (some (.long y), N2)) : x = y := by
  have hE : 0 < (X 1 6).toInt → 1 ≤ (X 1 3).toInt := fun h => zY_E hq hP (Or.inr (Or.inr h))
  obtain ⟨-, hx⟩ := zcj_X hG hF hE a0 a1 a2 h1
  have q3 : X 1 6 = I 7 5 := hq.1.2.2.1
  have g6 : (0 : Int) ≤ (X 1 6).toInt ∧ (X 1 6).toInt ≤ 5 := hG 1 _ rfl 6 _ rfl
  have h2 := (zf_X10_chance_M I J a0 a1 a2).symm.trans h2
  have iM := zcj_isM (I := zm_w I 0 0 0) (J := J) a0 a1 a2
  rw [show zm_w I 0 0 0 7 5 = I 7 5 from ze_wo (by decide), ← q3] at iM
  rcases iM with ⟨m1, m2⟩ | ⟨m1, m2⟩
  · rcases hx with ⟨n1, -⟩ | ⟨-, hx⟩
    · exact absurd m1 n1
    have kk := m1.2.1
    have hE := hE (by omega)
    have e0 : a0 = Int32.ofNat a0.toInt.toNat := Int32.toInt_inj.mp (by rw [zp_o (by omega)]; omega)
    have e1 : a1 = Int32.ofNat a1.toInt.toNat := Int32.toInt_inj.mp (by rw [zp_o (by omega)]; omega)
    have hq2 : zqC 1 0 X (zm_w I 0 0 0) := zR_q hq (zR_xr (fun _ _ _ => rfl)) (zR_yr (fun i j h0 _ => ze_wo h0))
    have ho := zcg_o hG
    have hv := zY_Mv hG hE hq2
    have hC := hv.1.1.1
    have q6 : X 1 4 = (zm_w I 0 0 0) 7 3 := hq2.1.2.2.2.1.2.2
    have hcB : a0.toInt.toNat < (zd_bx (X, Q)).1.1 := by
      show a0.toInt.toNat < (X 1 6).toInt.toNat
      omega
    obtain ⟨⟨I2, J2⟩, w⟩ := zci_weight hv (zY_Ma hG hq2) (J := J) (zy_Gw hM (by decide +kernel)) ho.1 (k := a1.toInt.toNat) (by omega) (q6.symm.trans ho.2) a0
    have hA : zci_A (zd_bx (X, Q)) (zcf_o (X, Q)) a1.toInt.toNat a0 = zcg_T (zd_bx (X, Q)) (zcf_o (X, Q)) a1.toInt.toNat a0.toInt.toNat := by
      have := zci_Ac (B := zd_bx (X, Q)) (o := zcf_o (X, Q)) (k := a1.toInt.toNat) (c := a0.toInt.toNat) hC hcB
      rw [← e0] at this
      exact this
    rw [hA, ← e1] at w
    have bm := zci_Tm (B := zd_bx (X, Q)) (k := a1.toInt.toNat) ho.1 a0.toInt.toNat
    have t := zh_tensF I2 J2 a1.toInt.toNat 14 (by omega) (by omega)
    rw [← e1] at t
    have p := zci_part (B := zd_bx (X, Q)) (k := a1.toInt.toNat) (a := zcg_T (zd_bx (X, Q)) (zcf_o (X, Q)) a1.toInt.toNat a0.toInt.toNat) (o := 0) (by omega) (by omega) a2 I2 J2
    rw [zc_X10_chance_M_0 _ _ _ _ _ m2, zq_X10_chance_M_12, if_neg (by decide), zc_X10_chance_M_15 _ _ _ _ _ w, zc_X10_chance_M_22 _ _ _ _ _ _ t, zc_X10_chance_M_26 _ _ _ _ _ _ _ p, zq_X10_chance_M_30, zq_X10_chance_M_36] at h2
    cases h2
    exact hx
  · rcases hx with ⟨-, hx⟩ | ⟨n1, -⟩
    · rw [zc_X10_chance_M_0 _ _ _ _ _ m2, zq_X10_chance_M_12, if_pos rfl, zq_X10_chance_M_33, zq_X10_chance_M_36] at h2
      cases h2
      exact hx
    · exact absurd n1 m1
end ZCK
