/-! TODAY'S DAY ON BOTH SIDES, from benches that are alike -/
section ZYY
variable {X I : Nat → Nat → Int32} {Q J : Nat → Nat → Int64}
/-- the class: the day lived, and right -/
theorem zY_lt {M : zm_I} (hG : zt_Gs zo_g1 M) (hF : zdF M) (hE : 1 ≤ (M.1 1 3).toInt) : ∃ N, zF_X9_livedToday zW_X [.ref 0] (M.1, M.2) = some (some (.ref 21), N) ∧ zd_right N ∧ zd_bx N = zd_bx M ∧ zt_Gs zo_g1 N ∧ ∀ n b, n < 11 → N.1 n b = M.1 n b := by
  obtain ⟨v, N, q1, q2, -, o, ho, hr⟩ := zp_get (w0 := zW_X) (G := zo_g1) (zi_78 0 zo_hd) rfl rfl (as := [.ref 0]) (zq_s1 zq_r0 zq_s0) zh_no hG
  have hv : v = some (.ref 21) := by
    have ho' : o = (some (zjr 21), [], [], []) := List.mem_singleton.mp ho
    subst ho'
    obtain ⟨w, e, hw⟩ : ∃ w, v = some w ∧ w = Value.ref 21 := hr.1
    rw [e, hw]
  subst hv
  obtain ⟨r1, r2⟩ := zd_lt hG hF q1
  exact ⟨N, q1, r1 hE, zd_bx_c (fun b _ => r2 1 b (by decide)) (fun c _ => ⟨r2 4 c (by decide), r2 5 c (by decide)⟩) (fun k _ => ⟨r2 8 k (by decide), r2 9 k (by decide), r2 10 k (by decide)⟩), q2, r2⟩
/-- the reference's bench as a day's -/
theorem zY_Ma (hG : zt_Gs zo_g1 (X, Q)) (h : zqC 1 0 X I) : zdMa (zd_bx (X, Q)) I := by
  obtain ⟨⟨q1, q2, q3, ⟨q4, q5, q6⟩, q7, q8⟩, ⟨q9, q10, q10a, q10b⟩, q11, q12⟩ := h
  have g6 : (0 : Int) ≤ (X 1 6).toInt ∧ (X 1 6).toInt ≤ 5 := hG 1 _ rfl 6 _ rfl
  have g5 : (0 : Int) ≤ (X 1 5).toInt ∧ (X 1 5).toInt ≤ 6 := hG 1 _ rfl 5 _ rfl
  have g3 : (0 : Int) ≤ (X 1 3).toInt ∧ (X 1 3).toInt ≤ 30 := hG 1 _ rfl 3 _ rfl
  have r4 : ∀ c, (0 : Int) ≤ (X 4 c).toInt ∧ (X 4 c).toInt ≤ 61 := fun c => zh_ga (b := (.ofNat 0, .ofNat 61)) hG rfl c
  have r5 : ∀ c, (0 : Int) ≤ (X 5 c).toInt ∧ (X 5 c).toInt ≤ 5 := fun c => zh_ga (b := (.ofNat 0, .ofNat 5)) hG rfl c
  have r8 : ∀ c, (0 : Int) ≤ (X 8 c).toInt ∧ (X 8 c).toInt ≤ 4 := fun c => zh_ga (b := (.ofNat 0, .ofNat 4)) hG rfl c
  have r9 : ∀ c, (0 : Int) ≤ (X 9 c).toInt ∧ (X 9 c).toInt ≤ 5 := fun c => zh_ga (b := (.ofNat 0, .ofNat 5)) hG rfl c
  have r10 : ∀ c, (0 : Int) ≤ (X 10 c).toInt ∧ (X 10 c).toInt ≤ 60 := fun c => zh_ga (b := (.ofNat 0, .ofNat 60)) hG rfl c
  refine ⟨⟨q3.symm.trans (zd_of g6.1), q2.symm.trans (zd_of g5.1), q10.symm.trans (zd_of q10a), q5.symm.trans (zd_of g3.1)⟩, fun c hc => ?_, fun k hk => ?_⟩
  · have hc : c < (X 1 6).toInt.toNat := hc
    obtain ⟨-, c3, c4, -, -⟩ := q8 c (by omega) (by omega)
    rw [show 25 * 0 + 5 * c + 1 = 5 * c + 1 by omega] at c3
    rw [show 25 * 0 + 5 * c + 2 = 5 * c + 2 by omega] at c4
    have e4 : (zd_bx (X, Q)).2.1 c = (X 4 c).toInt.toNat := if_pos (by omega)
    have e5 : (zd_bx (X, Q)).2.2.1 c = (X 5 c).toInt.toNat := if_pos (by omega)
    rw [e4, e5]
    exact ⟨c3.symm.trans (zd_of (r4 c).1), c4.symm.trans (zd_of (r5 c).1)⟩
  · have hk : k < (X 1 7).toInt.toNat := hk
    obtain ⟨k7, k8, k9⟩ := q12 k (by omega) (by omega)
    rw [show 120 * 0 + 3 * k = 3 * k by omega] at k7
    rw [show 120 * 0 + 3 * k + 1 = 3 * k + 1 by omega] at k8
    rw [show 120 * 0 + 3 * k + 2 = 3 * k + 2 by omega] at k9
    have e7 : (zd_bx (X, Q)).2.2.2.1 k = (X 8 k).toInt.toNat := if_pos (by omega)
    have e8 : (zd_bx (X, Q)).2.2.2.2.1 k = (X 9 k).toInt.toNat := if_pos (by omega)
    have e9 : (zd_bx (X, Q)).2.2.2.2.2.1 k = (X 10 k).toInt.toNat := if_pos (by omega)
    rw [e7, e8, e9]
    exact ⟨k7.symm.trans (zd_of (r8 k).1), k8.symm.trans (zd_of (r9 k).1), k9.symm.trans (zd_of (r10 k).1)⟩
theorem zY_Mv (hG : zt_Gs zo_g1 (X, Q)) (hE : 1 ≤ (X 1 3).toInt) (h : zqC 1 0 X I) : zdMv (zd_bx (X, Q)) := by
  obtain ⟨-, ⟨-, -, q10a, q10b⟩, q11, -⟩ := h
  refine ⟨zd_bxV hG hE, ?_, fun c hc => ?_⟩
  · show (X 1 7).toInt.toNat ≤ 40
    omega
  · have g6 : (0 : Int) ≤ (X 1 6).toInt ∧ (X 1 6).toInt ≤ 5 := hG 1 _ rfl 6 _ rfl
    have hc : c < (X 1 6).toInt.toNat := hc
    have e5 : (zd_bx (X, Q)).2.2.1 c = (X 5 c).toInt.toNat := if_pos (by omega)
    rw [e5]
    have w := q11 c (by omega) (by omega)
    have w : 0 ≤ (X 5 c).toInt ∧ (X 5 c).toInt < (X 1 5).toInt := w
    show (X 5 c).toInt.toNat < (X 1 5).toInt.toNat
    omega
/-- the reference: the day laid -/
theorem zY_now (hG : zt_Gs zo_g1 (X, Q)) (hE : 1 ≤ (X 1 3).toInt) (h : zqC 1 0 X I) (hM : zt_Gs zo_g22 (I, J)) : ∃ N K, zF_X10_laysNow zW_M [.ref 0] (zm_w I 0 0 0, J) = some (none, (N, K)) ∧ zdT (zd_bx (X, Q)) (zd_bit 0) 61 N K ∧ (∀ a b, (a ≠ 0 ∧ (a < 12 ∨ 25 < a)) → N a b = I a b) := by
  have h2 : zqC 1 0 X (zm_w I 0 0 0) := zR_q h (zR_xr (fun _ _ _ => rfl)) (zR_yr (fun i j h0 _ => ze_wo h0))
  obtain ⟨N, K, q1, q2, q3⟩ := zdT_now (I := zm_w I 0 0 0) (J := J) (zY_Mv hG hE h2) (zY_Ma hG h2) (zy_Gw hM (by decide +kernel))
  exact ⟨N, K, q1, q2, fun a b hab => (q3 a b hab).trans (ze_wo hab.1)⟩
/-- a bench with callers, seats or lines has its minutes told -/
theorem zY_E (h : zqC 1 0 X I) (hP : zq_P (I, J)) (hn : 0 < (X 1 0).toInt ∨ 0 < (X 1 5).toInt ∨ 0 < (X 1 6).toInt) : 1 ≤ (X 1 3).toInt := by
  obtain ⟨⟨q1, q2, q3, ⟨q4, q5, q6⟩, q7, q8⟩, -⟩ := h
  have q1 : X 1 0 = I 6 0 := q1
  have q2 : X 1 5 = I 7 4 := q2
  have q3 : X 1 6 = I 7 5 := q3
  have q5 : X 1 3 = I 7 2 := q5
  rw [q1, q2, q3] at hn
  rw [q5]
  rcases hP 0 (by decide) with ⟨z1, z2, z3⟩ | z
  · have z1 : (I 6 0).toInt ≤ 0 := z1
    have z2 : (I 7 4).toInt = 0 := z2
    have z3 : (I 7 5).toInt = 0 := z3
    omega
  · exact z.1
end ZYY
