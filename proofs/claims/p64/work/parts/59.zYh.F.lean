/-! A DAY OF THE REFERENCE: laid, and run -/
theorem zd_m5 : ∀ c, c < 5 → (5 * Int32.ofNat c : Int32) = Int32.ofNat (5 * c) ∧ (5 * Int32.ofNat c + 1 : Int32) = Int32.ofNat (5 * c + 1) ∧ (5 * Int32.ofNat c + 2 : Int32) = Int32.ofNat (5 * c + 2) := by decide +kernel
/-- the bench as the reference has it -/
def zdMa (B : zdB) (I : Nat → Nat → Int32) : Prop := (I 7 5 = Int32.ofNat B.1.1 ∧ I 7 4 = Int32.ofNat B.1.2.1 ∧ I 7 6 = Int32.ofNat B.1.2.2 ∧ I 7 2 = Int32.ofNat B.2.2.2.2.2.2) ∧ (∀ c, c < B.1.1 → I 9 (5 * c + 1) = Int32.ofNat (B.2.1 c) ∧ I 9 (5 * c + 2) = Int32.ofNat (B.2.2.1 c)) ∧ ∀ k, k < B.1.2.2 → I 10 (3 * k) = Int32.ofNat (B.2.2.2.1 k) ∧ I 10 (3 * k + 1) = Int32.ofNat (B.2.2.2.2.1 k) ∧ I 10 (3 * k + 2) = Int32.ofNat (B.2.2.2.2.2.1 k)
section ZDFF
variable {B : zdB} {I N : Nat → Nat → Int32} {J : Nat → Nat → Int64}
theorem zdm_lay37 {S : Nat} (hS : S ≤ 6) : ∀ (d s : Nat) (I : Nat → Nat → Int32), s + d = S → I 7 4 = Int32.ofNat S → ∃ N, zv_X10_lays_M_37 I J (Int32.ofNat s) = zv_X10_lays_M_65 N J (Int32.ofNat 0) ∧ ∀ a b, a ≠ 12 → N a b = I a b := by
  intro d
  induction d with
  | zero =>
    intro s I h h4
    refine ⟨I, ?_, fun _ _ _ => rfl⟩
    rw [zc_X10_lays_M_37 _ _ _ zdm_seats, zq_X10_lays_M_42, h4, if_pos ((zp_le (by omega) (by omega)).mpr (by omega)), zq_X10_lays_M_63]
    rfl
  | succ d ih =>
    intro s I h h4
    have hn : ¬ (Int32.ofNat S : Int32) ≤ Int32.ofNat s := fun z => by have := (zp_le (by omega) (by omega)).mp z; omega
    obtain ⟨N, q1, q2⟩ := ih (s + 1) (zm_w I 12 s (I 8 s)) (by omega) (by rw [ze_wo (by decide)]; exact h4)
    refine ⟨N, ?_, fun a b ha => (q2 a b ha).trans (ze_wo ha)⟩
    rw [zc_X10_lays_M_37 _ _ _ zdm_seats, zq_X10_lays_M_42, h4, if_neg hn, zq_X10_lays_M_45, if_neg (zp_in (by omega) (by omega)), if_neg (zp_in (by omega) (by omega)), zp_cl (by omega), zp_o1 (by omega)]
    exact q1
theorem zdm_lay65 {C : Nat} (hC : C ≤ 5) : ∀ (d c : Nat) (I : Nat → Nat → Int32), c + d = C → I 7 5 = Int32.ofNat C → ∃ N, zv_X10_lays_M_65 I J (Int32.ofNat c) = some (none, (N, J)) ∧ (∀ q, c ≤ q → q < C → N 14 q = I 9 (5 * q + 1) ∧ N 15 q = I 9 (5 * q + 2)) ∧ (∀ q, q < c → N 14 q = I 14 q ∧ N 15 q = I 15 q) ∧ ∀ a b, a ≠ 13 → a ≠ 14 → a ≠ 15 → N a b = I a b := by
  intro d
  induction d with
  | zero =>
    intro c I h h5
    refine ⟨I, ?_, fun q h1 h2 => by omega, fun _ _ => ⟨rfl, rfl⟩, fun _ _ _ _ _ => rfl⟩
    rw [zc_X10_lays_M_65 _ _ _ zdm_callers, zq_X10_lays_M_70, h5, if_pos ((zp_le (by omega) (by omega)).mpr (by omega)), zq_X10_lays_M_125]
  | succ d ih =>
    intro c I h h5
    have hn : ¬ (Int32.ofNat C : Int32) ≤ Int32.ofNat c := fun z => by have := (zp_le (by omega) (by omega)).mp z; omega
    obtain ⟨m0, m1, m2⟩ := zd_m5 c (by omega)
    generalize hK : (zm_w (zm_w (zm_w I 13 c (I 9 (5 * c))) 14 c ((zm_w I 13 c (I 9 (5 * c))) 9 (5 * c + 1))) 15 c ((zm_w (zm_w I 13 c (I 9 (5 * c))) 14 c ((zm_w I 13 c (I 9 (5 * c))) 9 (5 * c + 1))) 9 (5 * c + 2))) = K
    have f0 : ∀ a b, a ≠ 13 → a ≠ 14 → a ≠ 15 → K a b = I a b := fun a b h1 h2 h3 => by rw [← hK, ze_wo h3, ze_wo h2, ze_wo h1]
    have k14 : ∀ q, K 14 q = if q = c then I 9 (5 * c + 1) else I 14 q := fun q => by
      rw [← hK, ze_wo (by decide)]
      by_cases e : q = c
      · rw [if_pos e, e, ze_wi, ze_wo (by decide)]
      · rw [if_neg e, ze_wj e, ze_wo (by decide)]
    have k15 : ∀ q, K 15 q = if q = c then I 9 (5 * c + 2) else I 15 q := fun q => by
      rw [← hK]
      by_cases e : q = c
      · rw [if_pos e, e, ze_wi, ze_wo (by decide), ze_wo (by decide)]
      · rw [if_neg e, ze_wj e, ze_wo (by decide), ze_wo (by decide)]
    obtain ⟨N, q1, q2, q3, q4⟩ := ih (c + 1) K (by omega) (by rw [f0 7 5 (by decide) (by decide) (by decide)]; exact h5)
    refine ⟨N, ?_, fun q h1 h2 => ?_, fun q hq => ?_, fun a b h1 h2 h3 => (q4 a b h1 h2 h3).trans (f0 a b h1 h2 h3)⟩
    · rw [zc_X10_lays_M_65 _ _ _ zdm_callers, zq_X10_lays_M_70, h5, if_neg hn, zq_X10_lays_M_73, m1, m2, m0, if_neg (zp_in (by omega) (by omega)), if_neg (zp_in (by omega) (by omega)), if_neg (zp_in (by omega) (by omega)), if_neg (zp_in (by omega) (by omega)), if_neg (zp_in (by omega) (by omega)), if_neg (zp_in (by omega) (by omega)), zp_cl (by omega), zp_cl (by omega), zp_cl (by omega), zp_cl (by omega), hK, zp_o1 (by omega)]
      exact q1
    · by_cases e : q = c
      · have w := q3 q (by omega)
        rw [w.1, w.2, k14, k15, if_pos e, if_pos e, e]
        exact ⟨rfl, rfl⟩
      · have w := q2 q (by omega) h2
        rw [f0 9 _ (by decide) (by decide) (by decide), f0 9 _ (by decide) (by decide) (by decide)] at w
        exact w
    · have w := q3 q (by omega)
      rw [w.1, w.2, k14, k15, if_neg (by omega), if_neg (by omega)]
      exact ⟨rfl, rfl⟩
theorem zdm_lays (hv : zdMv B) (h : zdMa B I) (hG : zt_Gs zo_g22 (I, J)) : ∃ N K, zF_X10_lays zW_M [.ref 0] (I, J) = some (none, (N, K)) ∧ zdMb B N ∧ K 0 28 = 0 ∧ zt_Gs zo_g22 (N, K) ∧ (∀ a b, (a ≠ 0 ∧ (a < 12 ∨ 15 < a)) → N a b = I a b) ∧ zt_fr zi_450_K.2.2.1 (I, J) (N, K) := by
  obtain ⟨⟨⟨hC, hS, hst, hac, hsa⟩, hA, hE, hcm, ham⟩, hA4, hsc⟩ := id hv
  obtain ⟨⟨h5, h4, h6, h2⟩, hc, hk⟩ := h
  generalize hL : (zm_w (zm_w (zm_w (zm_w I 0 22 (I 7 0)) 0 23 ((zm_w I 0 22 (I 7 0)) 7 2)) 0 24 0) 0 25 (-1)) = L
  have f0 : ∀ a b, a ≠ 0 → L a b = I a b := fun a b ha => by rw [← hL, ze_wo ha, ze_wo ha, ze_wo ha, ze_wo ha]
  have l23 : L 0 23 = I 7 2 := by rw [← hL, ze_wj (by decide), ze_wj (by decide), ze_wi, ze_wo (by decide)]
  have l24 : L 0 24 = 0 := by rw [← hL, ze_wj (by decide), ze_wi]
  have l25 : L 0 25 = -1 := by rw [← hL, ze_wi]
  obtain ⟨N1, q1, q2⟩ := zdm_lay37 (J := zm_wl J 0 28 0) hS B.1.2.1 0 L (by omega) (by rw [f0 7 4 (by decide)]; exact h4)
  obtain ⟨N2, r1, r2, r3, r4⟩ := zdm_lay65 (J := zm_wl J 0 28 0) hC B.1.1 0 N1 (by omega) (by rw [q2 7 5 (by decide), f0 7 5 (by decide)]; exact h5)
  have hrun : zF_X10_lays zW_M [.ref 0] (I, J) = some (none, (N2, zm_wl J 0 28 0)) := by
    rw [zf_X10_lays_M, zq_X10_lays_M_0, if_neg (by decide), if_neg (by decide), show Int32.toNatClampNeg 0 = 0 by decide, show Int32.toNatClampNeg 2 = 2 by decide, hL]
    exact q1.trans r1
  have g72 : 1 ≤ (I 7 2).toInt ∧ (I 7 2).toInt ≤ 30 := by rw [h2, zp_o (by omega)]; omega
  obtain ⟨v, M2, s1, s2, s3, -⟩ := zp_get (w0 := zW_M) (G := zo_g22) (zi_450 0 zo_hd) rfl rfl (as := [.ref 0]) (M := (I, J)) (zq_s1 zq_r0 zq_s0) (zq_ca ⟨g72.1, g72.2⟩ zh_no) hG
  have e : some ((none : Option Value), (N2, zm_wl J 0 28 0)) = some (v, M2) := hrun.symm.trans s1
  cases e
  have fr : ∀ a b, a ≠ 0 → a ≠ 12 → a ≠ 13 → a ≠ 14 → a ≠ 15 → N2 a b = I a b := fun a b a0 a1 a2 a3 a4 => by rw [r4 a b a2 a3 a4, q2 a b a1, f0 a b a0]
  refine ⟨N2, zm_wl J 0 28 0, hrun, ⟨⟨?_, ?_, ?_, ?_, ?_, ?_⟩, fun c hcc => ?_, fun k hkk => ?_⟩, if_pos ⟨rfl, rfl⟩, s2, fun a b ha => fr a b ha.1 (by omega) (by omega) (by omega) (by omega), s3⟩
  · rw [fr 7 5 (by decide) (by decide) (by decide) (by decide) (by decide)]; exact h5
  · rw [fr 7 4 (by decide) (by decide) (by decide) (by decide) (by decide)]; exact h4
  · rw [fr 7 6 (by decide) (by decide) (by decide) (by decide) (by decide)]; exact h6
  · rw [r4 0 23 (by decide) (by decide) (by decide), q2 0 23 (by decide), l23]; exact h2
  · rw [r4 0 24 (by decide) (by decide) (by decide), q2 0 24 (by decide), l24]
  · rw [r4 0 25 (by decide) (by decide) (by decide), q2 0 25 (by decide), l25]
  · have w := r2 c (Nat.zero_le c) hcc
    rw [w.1, w.2, q2 9 _ (by decide), q2 9 _ (by decide), f0 9 _ (by decide), f0 9 _ (by decide)]
    exact hc c hcc
  · rw [fr 10 _ (by decide) (by decide) (by decide) (by decide) (by decide), fr 10 _ (by decide) (by decide) (by decide) (by decide) (by decide), fr 10 _ (by decide) (by decide) (by decide) (by decide) (by decide)]
    exact hk k hkk
/-- today's day of the reference -/
theorem zdT_now (hv : zdMv B) (h : zdMa B I) (hG : zt_Gs zo_g22 (I, J)) : ∃ N K, zF_X10_laysNow zW_M [.ref 0] (I, J) = some (none, (N, K)) ∧ zdT B (zd_bit 0) 61 N K ∧ (∀ a b, (a ≠ 0 ∧ (a < 12 ∨ 25 < a)) → N a b = I a b) := by
  obtain ⟨N1, K1, q1, q2, q3, q4, q5, -⟩ := zdm_lays hv h hG
  obtain ⟨N2, r1, r2, r3⟩ := zdT_run (to := 60) hv (by omega) q2 q4
  rw [q3] at r2
  refine ⟨N2, K1, ?_, r2, fun a b hab => (r3 a b (by omega)).trans (q5 a b (by omega))⟩
  have r1 : zF_X10_runs zW_M [.ref 0, .int 60] (N1, K1) = some (none, (N2, K1)) := r1
  rw [zf_X10_laysNow_M, zc_X10_laysNow_M_0 _ _ q1, zc_X10_laysNow_M_4 _ _ ((zf_X10_runs__M _ _).trans ((zc_X10_runs__M_0 _ _ r1).trans (zq_X10_runs__M_6 _ _))), zq_X10_laysNow_M_8]
end ZDFF
