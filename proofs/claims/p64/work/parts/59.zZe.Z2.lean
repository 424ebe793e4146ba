/-! THE DAY'S ANSWERS: waits, goes -/
section ZZ2
variable {X I : Nat → Nat → Int32} {Q J : Nat → Nat → Int64}
theorem zZ_waits (hG : zt_Gs zo_g1 (X, Q)) (hF : zdF (X, Q)) (hq : zqC 1 0 X I) (hM : zt_Gs zo_g22 (I, J)) (hP : zq_P (I, J)) (a0 : Int32) {x y : Int32} {N1 N2 : zm_I} (h1 : zF_X9_waits zW_X [.ref 0, .int a0] (X, Q) = some (some (.int x), N1)) (h2 : zF_X10_waits zW_M [.ref 0, .int a0] (I, J) = some (some (.int y), N2)) : x = y := by
  have id1 : zm_mrg [(1, 10)] (X, Q) (zm_sub2 [(1, 10)] (X, Q)) = (X, Q) := zm_mrg_id _ _
  have hc := zp_hasCaller (zm_sub2 [(1, 10)] (X, Q)) a0
  rw [show (zm_sub2 [(1, 10)] (X, Q)).1 0 6 = X 1 6 from rfl] at hc
  have q3 : X 1 6 = I 7 5 := hq.1.2.2.1
  have g6 : (0 : Int) ≤ (X 1 6).toInt ∧ (X 1 6).toInt ≤ 5 := hG 1 _ rfl 6 _ rfl
  have h1 := (zf_X9_waits_X X Q a0).symm.trans h1
  have h2 := (zf_X10_waits_M I J a0).symm.trans h2
  rw [zc_X9_waits_X_0 _ _ _ hc, id1, zq_X9_waits_X_8] at h1
  rw [zc_X10_waits_M_0 _ _ _ (zp_isCallerM a0), zq_X10_waits_M_11, show zm_w I 0 0 0 7 5 = I 7 5 from ze_wo (by decide), ← q3] at h2
  by_cases c1 : 0 ≤ a0.toInt ∧ a0.toInt < (X 1 6).toInt
  rotate_left
  · rw [if_neg c1, if_pos rfl, zq_X9_waits_X_11] at h1
    rw [if_neg c1, if_pos rfl, zq_X10_waits_M_14] at h2
    cases h1
    cases h2
    rfl
  have hE := zY_E hq hP (Or.inr (Or.inr (by omega)))
  obtain ⟨N, l1, l2, l3, l4, l5⟩ := zY_lt hG hF hE
  obtain ⟨N', K', m1, m2, m3⟩ := zY_now hG hE hq hM
  obtain ⟨c, hcc⟩ : ∃ c : Nat, a0.toInt = c := ⟨a0.toInt.toNat, by omega⟩
  have e0 : a0 = Int32.ofNat c := Int32.toInt_inj.mp (by rw [hcc, zp_o (by omega)])
  rw [if_pos c1, if_neg (by decide), zc_X9_waits_X_14 _ _ _ (I2 := N.1) (J2 := N.2) l1, zq_X9_waits_X_18] at h1
  rw [if_pos c1, if_neg (by decide), zc_X10_waits_M_17 _ _ _ m1, zq_X10_waits_M_21] at h2
  subst e0
  have hcB : c < (zd_bx (X, Q)).1.1 := by
    show c < (X 1 6).toInt.toNat
    omega
  have hc5 : c < 5 := by omega
  have r := l2.2.1 c (by omega)
  rw [l3] at r
  have ew : N.1 27 c = N' 18 c := Int32.toInt_inj.mp (r.trans (m2.2.2.1 c (by omega)).symm)
  have ec : N' 14 c = X 4 c := by
    have z := (m2.1.2.1 c hcB).1
    have r4 : (0 : Int) ≤ (X 4 c).toInt ∧ (X 4 c).toInt ≤ 61 := zh_ga (b := (.ofNat 0, .ofNat 61)) hG rfl c
    have e4 : (zd_bx (X, Q)).2.1 c = (X 4 c).toInt.toNat := if_pos hc5
    rw [z, e4]
    exact (zd_of r4.1).symm
  have hz : ∀ l s, zv_X9_waits_X_38 N.1 N.2 (Int32.ofNat c) l s = some (some (.int (s - X 4 c)), N) := fun l s => by
    rw [zq_X9_waits_X_38, if_neg (zp_in (by omega) (by omega)), zp_cl (by omega), l5 4 c (by decide)]
  have hw : ∀ s, zv_X10_waits_M_42 N' K' (Int32.ofNat c) s = some (some (.int (s - X 4 c)), (N', K')) := fun s => by
    rw [zq_X10_waits_M_42, if_neg (zp_in (by omega) (by omega)), zp_cl (by omega), ec]
  rw [if_neg (zp_in (by omega) (by omega)), zp_cl (by omega), ew] at h1
  rw [if_neg (zp_in (by omega) (by omega)), zp_cl (by omega)] at h2
  by_cases d : N' 18 c = -1
  · rw [if_pos d, zq_X9_waits_X_32, hz] at h1
    rw [if_pos d, zq_X10_waits_M_31, hw] at h2
    cases h1
    cases h2
    rfl
  · rw [if_neg d, zq_X9_waits_X_37, hz] at h1
    rw [if_neg d, zq_X10_waits_M_36, if_neg (zp_in (by omega) (by omega)), zp_cl (by omega), hw] at h2
    cases h1
    cases h2
    rfl
theorem zZ_goL {N : zm_I} {N' : Nat → Nat → Int32} {K' : Nat → Nat → Int64} {l : Int32} {C : Nat} (hC : C ≤ 5) (e1 : N.1 1 6 = Int32.ofNat C) (e2 : N' 7 5 = Int32.ofNat C) (ew : ∀ c, c < 5 → N.1 27 c = N' 18 c) : ∀ d k, k + d = C → ∃ r, zv_X9_goes_X_27 N.1 N.2 l (Int32.ofNat k) = some (some (.int r), N) ∧ zv_X10_goes_M_22 N' K' l (Int32.ofNat k) = some (some (.int r), (N', K'))
  | 0, k, h => ⟨-1, by rw [zq_X9_goes_X_27, e1, if_pos ((zp_le (by omega) (by omega)).mpr (by omega)), zq_X9_goes_X_56], by rw [zc_X10_goes_M_22 _ _ _ _ zdm_callers, zq_X10_goes_M_27, e2, if_pos ((zp_le (by omega) (by omega)).mpr (by omega)), zq_X10_goes_M_48]⟩
  | d + 1, k, h => by
    have n1 : ¬ (Int32.ofNat C : Int32) ≤ Int32.ofNat k := fun z => by
      have := (zp_le (by omega) (by omega)).mp z
      omega
    have f1 : zv_X9_goes_X_27 N.1 N.2 l (Int32.ofNat k) = if N' 18 k = l then zv_X9_goes_X_48 N.1 N.2 l (Int32.ofNat k) else zv_X9_goes_X_50 N.1 N.2 l (Int32.ofNat k) := by
      rw [zq_X9_goes_X_27, e1, if_neg n1, zq_X9_goes_X_38, if_neg (zp_in (by omega) (by omega)), zp_cl (by omega), ew k (by omega)]
    have f2 : zv_X10_goes_M_22 N' K' l (Int32.ofNat k) = if N' 18 k = l then zv_X10_goes_M_40 N' K' l (Int32.ofNat k) else zv_X10_goes_M_42 N' K' l (Int32.ofNat k) := by
      rw [zc_X10_goes_M_22 _ _ _ _ zdm_callers, zq_X10_goes_M_27, e2, if_neg n1, zq_X10_goes_M_30, if_neg (zp_in (by omega) (by omega)), zp_cl (by omega)]
    by_cases c : N' 18 k = l
    · exact ⟨Int32.ofNat k, by rw [f1, if_pos c, zq_X9_goes_X_48], by rw [f2, if_pos c, zq_X10_goes_M_40]⟩
    · obtain ⟨r, r1, r2⟩ := zZ_goL (l := l) (K' := K') hC e1 e2 ew d (k + 1) (by omega)
      exact ⟨r, by rw [f1, if_neg c, zq_X9_goes_X_50, zp_o1 (by omega)]; exact r1, by rw [f2, if_neg c, zq_X10_goes_M_42, zp_o1 (by omega)]; exact r2⟩
end ZZ2
