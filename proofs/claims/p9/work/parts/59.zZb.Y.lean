/-! 59.zZb.Y, 59.zZc.eqY, 59.zZd.Z, 59.zZe.Z2 -/
section
/-! TODAY'S DAY ON BOTH SIDES, from benches that are alike -/
section ZYY
variable {X I : Nat → Nat → Int32} {Q J : Nat → Nat → Int64}
/-- the class: the day lived, and right -/
theorem zY_lt {M : zm_I} (hG : zt_Gs zo_g1 M) (hF : zdF M) (hE : 1 ≤ (M.1 1 3).toInt) : ∃ N, zF_X9_livedToday zW_X [.ref 0] (M.1, M.2) = some (some (.ref 21), N) ∧ zd_right N ∧ zd_bx N = zd_bx M ∧ zt_Gs zo_g1 N ∧ ∀ n b, n < 11 → N.1 n b = M.1 n b := by
  obtain ⟨v, N, q1, q2, -, o, ho, hr⟩ := zp_get (w0 := zW_X) (G := zo_g1) (zi_78 0 zo_hd) rfl rfl (as := [.ref 0]) (zq_s1 zq_r0 zq_s0) zh_no hG
  have hv : v = some (.ref 21) := by
    have ho' : o = (some (zjr 21), [], [], []) := List.mem_singleton.mp ho
    subst ho'
    obtain ⟨w, e, hw⟩ : ∃ w, v = some w ∧ w = Value.ref 21 := hr.1
    rw [e, hw]
  subst hv
  obtain ⟨r1, r2⟩ := zd_lt hG hF q1
  exact ⟨N, q1, r1 hE, zd_bx_c (fun b _ => r2 1 b (by decide)) (fun c _ => ⟨r2 4 c (by decide), r2 5 c (by decide)⟩) (fun k _ => ⟨r2 8 k (by decide), r2 9 k (by decide), r2 10 k (by decide)⟩), q2, r2⟩
/-- the reference's bench as a day's -/
theorem zY_Ma (hG : zt_Gs zo_g1 (X, Q)) (h : zqC 1 0 X I) : zdMa (zd_bx (X, Q)) I := by
  obtain ⟨⟨q1, q2, q3, ⟨q4, q5, q6⟩, q7, q8⟩, ⟨q9, q10, q10a, q10b⟩, q11, q12⟩ := h
  have g6 : (0 : Int) ≤ (X 1 6).toInt ∧ (X 1 6).toInt ≤ 5 := hG 1 _ rfl 6 _ rfl
  have g5 : (0 : Int) ≤ (X 1 5).toInt ∧ (X 1 5).toInt ≤ 6 := hG 1 _ rfl 5 _ rfl
  have g3 : (0 : Int) ≤ (X 1 3).toInt ∧ (X 1 3).toInt ≤ 30 := hG 1 _ rfl 3 _ rfl
  have r4 : ∀ c, (0 : Int) ≤ (X 4 c).toInt ∧ (X 4 c).toInt ≤ 61 := fun c => zh_ga (b := (.ofNat 0, .ofNat 61)) hG rfl c
  have r5 : ∀ c, (0 : Int) ≤ (X 5 c).toInt ∧ (X 5 c).toInt ≤ 5 := fun c => zh_ga (b := (.ofNat 0, .ofNat 5)) hG rfl c
  have r8 : ∀ c, (0 : Int) ≤ (X 8 c).toInt ∧ (X 8 c).toInt ≤ 4 := fun c => zh_ga (b := (.ofNat 0, .ofNat 4)) hG rfl c
  have r9 : ∀ c, (0 : Int) ≤ (X 9 c).toInt ∧ (X 9 c).toInt ≤ 5 := fun c => zh_ga (b := (.ofNat 0, .ofNat 5)) hG rfl c
  have r10 : ∀ c, (0 : Int) ≤ (X 10 c).toInt ∧ (X 10 c).toInt ≤ 60 := fun c => zh_ga (b := (.ofNat 0, .ofNat 60)) hG rfl c
  refine ⟨⟨q3.symm.trans (zd_of g6.1), q2.symm.trans (zd_of g5.1), q10.symm.trans (zd_of q10a), q5.symm.trans (zd_of g3.1)⟩, fun c hc => ?_, fun k hk => ?_⟩
  · have hc : c < (X 1 6).toInt.toNat := hc
    obtain ⟨-, c3, c4, -, -⟩ := q8 c (by omega) (by omega)
    rw [show 25 * 0 + 5 * c + 1 = 5 * c + 1 by omega] at c3
    rw [show 25 * 0 + 5 * c + 2 = 5 * c + 2 by omega] at c4
    have e4 : (zd_bx (X, Q)).2.1 c = (X 4 c).toInt.toNat := if_pos (by omega)
    have e5 : (zd_bx (X, Q)).2.2.1 c = (X 5 c).toInt.toNat := if_pos (by omega)
    rw [e4, e5]
    exact ⟨c3.symm.trans (zd_of (r4 c).1), c4.symm.trans (zd_of (r5 c).1)⟩
  · have hk : k < (X 1 7).toInt.toNat := hk
    obtain ⟨k7, k8, k9⟩ := q12 k (by omega) (by omega)
    rw [show 120 * 0 + 3 * k = 3 * k by omega] at k7
    rw [show 120 * 0 + 3 * k + 1 = 3 * k + 1 by omega] at k8
    rw [show 120 * 0 + 3 * k + 2 = 3 * k + 2 by omega] at k9
    have e7 : (zd_bx (X, Q)).2.2.2.1 k = (X 8 k).toInt.toNat := if_pos (by omega)
    have e8 : (zd_bx (X, Q)).2.2.2.2.1 k = (X 9 k).toInt.toNat := if_pos (by omega)
    have e9 : (zd_bx (X, Q)).2.2.2.2.2.1 k = (X 10 k).toInt.toNat := if_pos (by omega)
    rw [e7, e8, e9]
    exact ⟨k7.symm.trans (zd_of (r8 k).1), k8.symm.trans (zd_of (r9 k).1), k9.symm.trans (zd_of (r10 k).1)⟩
theorem zY_Mv (hG : zt_Gs zo_g1 (X, Q)) (hE : 1 ≤ (X 1 3).toInt) (h : zqC 1 0 X I) : zdMv (zd_bx (X, Q)) := by
  obtain ⟨-, ⟨-, -, q10a, q10b⟩, q11, -⟩ := h
  refine ⟨zd_bxV hG hE, ?_, fun c hc => ?_⟩
  · show (X 1 7).toInt.toNat ≤ 40
    omega
  · have g6 : (0 : Int) ≤ (X 1 6).toInt ∧ (X 1 6).toInt ≤ 5 := hG 1 _ rfl 6 _ rfl
    have hc : c < (X 1 6).toInt.toNat := hc
    have e5 : (zd_bx (X, Q)).2.2.1 c = (X 5 c).toInt.toNat := if_pos (by omega)
    rw [e5]
    have w := q11 c (by omega) (by omega)
    have w : 0 ≤ (X 5 c).toInt ∧ (X 5 c).toInt < (X 1 5).toInt := w
    show (X 5 c).toInt.toNat < (X 1 5).toInt.toNat
    omega
/-- the reference: the day laid -/
theorem zY_now (hG : zt_Gs zo_g1 (X, Q)) (hE : 1 ≤ (X 1 3).toInt) (h : zqC 1 0 X I) (hM : zt_Gs zo_g22 (I, J)) : ∃ N K, zF_X10_laysNow zW_M [.ref 0] (zm_w I 0 0 0, J) = some (none, (N, K)) ∧ zdT (zd_bx (X, Q)) (zd_bit 0) 61 N K ∧ (∀ a b, (a ≠ 0 ∧ (a < 12 ∨ 25 < a)) → N a b = I a b) := by
  have h2 : zqC 1 0 X (zm_w I 0 0 0) := zR_q h (zR_xr (fun _ _ _ => rfl)) (zR_yr (fun i j h0 _ => ze_wo h0))
  obtain ⟨N, K, q1, q2, q3⟩ := zdT_now (I := zm_w I 0 0 0) (J := J) (zY_Mv hG hE h2) (zY_Ma hG h2) (zy_Gw hM (by decide +kernel))
  exact ⟨N, K, q1, q2, fun a b hab => (q3 a b hab).trans (ze_wo hab.1)⟩
/-- a bench with callers, seats or lines has its minutes told -/
theorem zY_E (h : zqC 1 0 X I) (hP : zq_P (I, J)) (hn : 0 < (X 1 0).toInt ∨ 0 < (X 1 5).toInt ∨ 0 < (X 1 6).toInt) : 1 ≤ (X 1 3).toInt := by
  obtain ⟨⟨q1, q2, q3, ⟨q4, q5, q6⟩, q7, q8⟩, -⟩ := h
  have q1 : X 1 0 = I 6 0 := q1
  have q2 : X 1 5 = I 7 4 := q2
  have q3 : X 1 6 = I 7 5 := q3
  have q5 : X 1 3 = I 7 2 := q5
  rw [q1, q2, q3] at hn
  rw [q5]
  rcases hP 0 (by decide) with ⟨z1, z2, z3⟩ | z
  · have z1 : (I 6 0).toInt ≤ 0 := z1
    have z2 : (I 7 4).toInt = 0 := z2
    have z3 : (I 7 5).toInt = 0 := z3
    omega
  · exact z.1
end ZYY
end
section
/-! EQUATIONS OF STRETCHES, printed by program (wip/law/eqs/gen.py) -/
noncomputable def zv_X9_sits_X_0 (I : Nat → Nat → Int32) (J : Nat → Nat → Int64) (l1 : Int32) (l2 : Int32) : zm_R := zm_V zT_X9_sits zW_X (0, [some (.ref 0), some (.int l1), some (.int l2)], [], (I, J))
noncomputable def zv_X9_sits_X_8 (I : Nat → Nat → Int32) (J : Nat → Nat → Int64) (l1 : Int32) (l2 : Int32) (s0 : Int32) : zm_R := zm_V zT_X9_sits zW_X (8, [some (.ref 0), some (.int l1), some (.int l2)], [.int s0], (I, J))
noncomputable def zv_X9_sits_X_11 (I : Nat → Nat → Int32) (J : Nat → Nat → Int64) (l1 : Int32) (l2 : Int32) : zm_R := zm_V zT_X9_sits zW_X (11, [some (.ref 0), some (.int l1), some (.int l2)], [], (I, J))
noncomputable def zv_X9_sits_X_15 (I : Nat → Nat → Int32) (J : Nat → Nat → Int64) (l1 : Int32) (l2 : Int32) (s0 : Int32) : zm_R := zm_V zT_X9_sits zW_X (15, [some (.ref 0), some (.int l1), some (.int l2)], [.int s0], (I, J))
noncomputable def zv_X9_sits_X_18 (I : Nat → Nat → Int32) (J : Nat → Nat → Int64) (l1 : Int32) (l2 : Int32) : zm_R := zm_V zT_X9_sits zW_X (18, [some (.ref 0), some (.int l1), some (.int l2)], [], (I, J))
noncomputable def zv_X9_sits_X_21 (I : Nat → Nat → Int32) (J : Nat → Nat → Int64) (l1 : Int32) (l2 : Int32) : zm_R := zm_V zT_X9_sits zW_X (21, [some (.ref 0), some (.int l1), some (.int l2)], [], (I, J))
noncomputable def zv_X9_sits_X_25 (I : Nat → Nat → Int32) (J : Nat → Nat → Int64) (l1 : Int32) (l2 : Int32) : zm_R := zm_V zT_X9_sits zW_X (25, [some (.ref 0), some (.int l1), some (.int l2)], [.ref 21], (I, J))
noncomputable def zv_X9_sits_X_30 (I : Nat → Nat → Int32) (J : Nat → Nat → Int64) (l1 : Int32) (l2 : Int32) (s0 : Int32) : zm_R := zm_V zT_X9_sits zW_X (30, [some (.ref 0), some (.int l1), some (.int l2)], [.int s0], (I, J))
set_option maxRecDepth 20000 in
theorem zc_X9_sits_X_0 (I : Nat → Nat → Int32) (J : Nat → Nat → Int64) (l1 : Int32) (l2 : Int32) {N : zm_I} {r : Int32} (hF : zF_X0_hasCaller zW_B [.ref 0, .int l1] (zm_sub2 [(1, 10)] (I, J)) = some (some (.int r), N)) : zv_X9_sits_X_0 I J l1 l2 = zv_X9_sits_X_8 (zm_mrg [(1, 10)] (I, J) N).1 (zm_mrg [(1, 10)] (I, J) N).2 l1 l2 r := by
  have e : ∀ k : zm_S → zm_R, zm_step zT_X9_sits zW_X k (0, [some (.ref 0), some (.int l1), some (.int l2)], [], (I, J)) = zm_app (2, some 0, false, [(0, 10)], zF_X0_hasCaller) zW_X [.ref 1, .int l1] (I, J) (fun v N => k (8, [some (.ref 0), some (.int l1), some (.int l2)], v.toList ++ [], N)) := fun k => rfl
  have g := zm_app_l (C := (2, some 0, false, [(0, 10)], zF_X0_hasCaller)) (wl := zW_X) (as := [.ref 1, .int l1]) (wc := zW_B) (ac := [.ref 0, .int l1]) (bs := [(1, 10)]) (M := (I, J)) (k := fun v N => zm_V zT_X9_sits zW_X (8, [some (.ref 0), some (.int l1), some (.int l2)], v.toList ++ [], N)) rfl rfl rfl rfl rfl rfl hF
  exact (zm_V_eq _ _ _).trans ((e _).trans g)
set_option maxRecDepth 20000 in
theorem zq_X9_sits_X_8 (I : Nat → Nat → Int32) (J : Nat → Nat → Int64) (l1 : Int32) (l2 : Int32) (s0 : Int32) : zv_X9_sits_X_8 I J l1 l2 s0 = if s0 = 0 then zv_X9_sits_X_18 I J l1 l2 else zv_X9_sits_X_11 I J l1 l2 := (zm_V_eq _ _ _).trans ((fun (k : zm_S → zm_R) => (rfl : zm_step zT_X9_sits zW_X k (8, [some (.ref 0), some (.int l1), some (.int l2)], [.int s0], (I, J)) = if s0 = 0 then k (18, [some (.ref 0), some (.int l1), some (.int l2)], [], (I, J)) else k (11, [some (.ref 0), some (.int l1), some (.int l2)], [], (I, J)))) (zm_V zT_X9_sits zW_X))
set_option maxRecDepth 20000 in
theorem zc_X9_sits_X_11 (I : Nat → Nat → Int32) (J : Nat → Nat → Int64) (l1 : Int32) (l2 : Int32) {I2 : Nat → Nat → Int32} {J2 : Nat → Nat → Int64} {r : Int32} (hF : zF_X9_isMinute zW_X [.int l2] (I, J) = some (some (.int r), (I2, J2))) : zv_X9_sits_X_11 I J l1 l2 = zv_X9_sits_X_15 I2 J2 l1 l2 r := by
  have e : ∀ k : zm_S → zm_R, zm_step zT_X9_sits zW_X k (11, [some (.ref 0), some (.int l1), some (.int l2)], [], (I, J)) = zm_app (1, none, true, [], zF_X9_isMinute) zW_X [.int l2] (I, J) (fun v N => k (15, [some (.ref 0), some (.int l1), some (.int l2)], v.toList ++ [], N)) := fun k => rfl
  have g := zm_app_s (C := (1, none, true, [], zF_X9_isMinute)) (wl := zW_X) (as := [.int l2]) (M := (I, J)) (k := fun v N => zm_V zT_X9_sits zW_X (15, [some (.ref 0), some (.int l1), some (.int l2)], v.toList ++ [], N)) rfl rfl hF
  exact (zm_V_eq _ _ _).trans ((e _).trans g)
set_option maxRecDepth 20000 in
theorem zq_X9_sits_X_15 (I : Nat → Nat → Int32) (J : Nat → Nat → Int64) (l1 : Int32) (l2 : Int32) (s0 : Int32) : zv_X9_sits_X_15 I J l1 l2 s0 = if s0 = 0 then zv_X9_sits_X_18 I J l1 l2 else zv_X9_sits_X_21 I J l1 l2 := (zm_V_eq _ _ _).trans ((fun (k : zm_S → zm_R) => (rfl : zm_step zT_X9_sits zW_X k (15, [some (.ref 0), some (.int l1), some (.int l2)], [.int s0], (I, J)) = if s0 = 0 then k (18, [some (.ref 0), some (.int l1), some (.int l2)], [], (I, J)) else k (21, [some (.ref 0), some (.int l1), some (.int l2)], [], (I, J)))) (zm_V zT_X9_sits zW_X))
set_option maxRecDepth 20000 in
theorem zq_X9_sits_X_18 (I : Nat → Nat → Int32) (J : Nat → Nat → Int64) (l1 : Int32) (l2 : Int32) : zv_X9_sits_X_18 I J l1 l2 = some (some (.int (-2)), (I, J)) := (zm_V_eq _ _ _).trans ((fun (k : zm_S → zm_R) => (rfl : zm_step zT_X9_sits zW_X k (18, [some (.ref 0), some (.int l1), some (.int l2)], [], (I, J)) = some (some (.int (-2)), (I, J)))) (zm_V zT_X9_sits zW_X))
set_option maxRecDepth 20000 in
theorem zc_X9_sits_X_21 (I : Nat → Nat → Int32) (J : Nat → Nat → Int64) (l1 : Int32) (l2 : Int32) {I2 : Nat → Nat → Int32} {J2 : Nat → Nat → Int64} (hF : zF_X9_livedToday zW_X [.ref 0] (I, J) = some (some (.ref 21), (I2, J2))) : zv_X9_sits_X_21 I J l1 l2 = zv_X9_sits_X_25 I2 J2 l1 l2 := by
  have e : ∀ k : zm_S → zm_R, zm_step zT_X9_sits zW_X k (21, [some (.ref 0), some (.int l1), some (.int l2)], [], (I, J)) = zm_app (1, some 9, true, [], zF_X9_livedToday) zW_X [.ref 0] (I, J) (fun v N => k (25, [some (.ref 0), some (.int l1), some (.int l2)], v.toList ++ [], N)) := fun k => rfl
  have g := zm_app_s (C := (1, some 9, true, [], zF_X9_livedToday)) (wl := zW_X) (as := [.ref 0]) (M := (I, J)) (k := fun v N => zm_V zT_X9_sits zW_X (25, [some (.ref 0), some (.int l1), some (.int l2)], v.toList ++ [], N)) rfl rfl hF
  exact (zm_V_eq _ _ _).trans ((e _).trans g)
set_option maxRecDepth 20000 in
theorem zc_X9_sits_X_25 (I : Nat → Nat → Int32) (J : Nat → Nat → Int64) (l1 : Int32) (l2 : Int32) {N : zm_I} {r : Int32} (hF : zF_X3_seatAt zW_Y [.ref 0, .int l1, .int l2] (zm_sub2 [(21, 11)] (I, J)) = some (some (.int r), N)) : zv_X9_sits_X_25 I J l1 l2 = zv_X9_sits_X_30 (zm_mrg [(21, 11)] (I, J) N).1 (zm_mrg [(21, 11)] (I, J) N).2 l1 l2 r := by
  have e : ∀ k : zm_S → zm_R, zm_step zT_X9_sits zW_X k (25, [some (.ref 0), some (.int l1), some (.int l2)], [.ref 21], (I, J)) = zm_app (3, some 3, false, [(0, 11)], zF_X3_seatAt) zW_X [.ref 21, .int l1, .int l2] (I, J) (fun v N => k (30, [some (.ref 0), some (.int l1), some (.int l2)], v.toList ++ [], N)) := fun k => rfl
  have g := zm_app_l (C := (3, some 3, false, [(0, 11)], zF_X3_seatAt)) (wl := zW_X) (as := [.ref 21, .int l1, .int l2]) (wc := zW_Y) (ac := [.ref 0, .int l1, .int l2]) (bs := [(21, 11)]) (M := (I, J)) (k := fun v N => zm_V zT_X9_sits zW_X (30, [some (.ref 0), some (.int l1), some (.int l2)], v.toList ++ [], N)) rfl rfl rfl rfl rfl rfl hF
  exact (zm_V_eq _ _ _).trans ((e _).trans g)
set_option maxRecDepth 20000 in
theorem zq_X9_sits_X_30 (I : Nat → Nat → Int32) (J : Nat → Nat → Int64) (l1 : Int32) (l2 : Int32) (s0 : Int32) : zv_X9_sits_X_30 I J l1 l2 s0 = some (some (.int s0), (I, J)) := (zm_V_eq _ _ _).trans ((fun (k : zm_S → zm_R) => (rfl : zm_step zT_X9_sits zW_X k (30, [some (.ref 0), some (.int l1), some (.int l2)], [.int s0], (I, J)) = some (some (.int s0), (I, J)))) (zm_V zT_X9_sits zW_X))
theorem zf_X9_sits_X (I : Nat → Nat → Int32) (J : Nat → Nat → Int64) (l1 : Int32) (l2 : Int32) : zF_X9_sits zW_X [.ref 0, .int l1, .int l2] (I, J) = zv_X9_sits_X_0 I J l1 l2 := rfl
noncomputable def zv_X9_called_X_0 (I : Nat → Nat → Int32) (J : Nat → Nat → Int64) (l1 : Int32) : zm_R := zm_V zT_X9_called zW_X (0, [some (.ref 0), some (.int l1)], [], (I, J))
noncomputable def zv_X9_called_X_8 (I : Nat → Nat → Int32) (J : Nat → Nat → Int64) (l1 : Int32) (s0 : Int32) : zm_R := zm_V zT_X9_called zW_X (8, [some (.ref 0), some (.int l1)], [.int s0], (I, J))
noncomputable def zv_X9_called_X_11 (I : Nat → Nat → Int32) (J : Nat → Nat → Int64) (l1 : Int32) : zm_R := zm_V zT_X9_called zW_X (11, [some (.ref 0), some (.int l1)], [], (I, J))
noncomputable def zv_X9_called_X_15 (I : Nat → Nat → Int32) (J : Nat → Nat → Int64) (l1 : Int32) : zm_R := zm_V zT_X9_called zW_X (15, [some (.ref 0), some (.int l1)], [.ref 21], (I, J))
noncomputable def zv_X9_called_X_26 (I : Nat → Nat → Int32) (J : Nat → Nat → Int64) (l1 : Int32) : zm_R := zm_V zT_X9_called zW_X (26, [some (.ref 0), some (.int l1)], [], (I, J))
noncomputable def zv_X9_called_X_28 (I : Nat → Nat → Int32) (J : Nat → Nat → Int64) (l1 : Int32) (s0 : Int32) : zm_R := zm_V zT_X9_called zW_X (28, [some (.ref 0), some (.int l1)], [.int s0], (I, J))
set_option maxRecDepth 20000 in
theorem zc_X9_called_X_0 (I : Nat → Nat → Int32) (J : Nat → Nat → Int64) (l1 : Int32) {N : zm_I} {r : Int32} (hF : zF_X0_hasCaller zW_B [.ref 0, .int l1] (zm_sub2 [(1, 10)] (I, J)) = some (some (.int r), N)) : zv_X9_called_X_0 I J l1 = zv_X9_called_X_8 (zm_mrg [(1, 10)] (I, J) N).1 (zm_mrg [(1, 10)] (I, J) N).2 l1 r := by
  have e : ∀ k : zm_S → zm_R, zm_step zT_X9_called zW_X k (0, [some (.ref 0), some (.int l1)], [], (I, J)) = zm_app (2, some 0, false, [(0, 10)], zF_X0_hasCaller) zW_X [.ref 1, .int l1] (I, J) (fun v N => k (8, [some (.ref 0), some (.int l1)], v.toList ++ [], N)) := fun k => rfl
  have g := zm_app_l (C := (2, some 0, false, [(0, 10)], zF_X0_hasCaller)) (wl := zW_X) (as := [.ref 1, .int l1]) (wc := zW_B) (ac := [.ref 0, .int l1]) (bs := [(1, 10)]) (M := (I, J)) (k := fun v N => zm_V zT_X9_called zW_X (8, [some (.ref 0), some (.int l1)], v.toList ++ [], N)) rfl rfl rfl rfl rfl rfl hF
  exact (zm_V_eq _ _ _).trans ((e _).trans g)
set_option maxRecDepth 20000 in
theorem zq_X9_called_X_8 (I : Nat → Nat → Int32) (J : Nat → Nat → Int64) (l1 : Int32) (s0 : Int32) : zv_X9_called_X_8 I J l1 s0 = if s0 = 0 then zv_X9_called_X_26 I J l1 else zv_X9_called_X_11 I J l1 := (zm_V_eq _ _ _).trans ((fun (k : zm_S → zm_R) => (rfl : zm_step zT_X9_called zW_X k (8, [some (.ref 0), some (.int l1)], [.int s0], (I, J)) = if s0 = 0 then k (26, [some (.ref 0), some (.int l1)], [], (I, J)) else k (11, [some (.ref 0), some (.int l1)], [], (I, J)))) (zm_V zT_X9_called zW_X))
set_option maxRecDepth 20000 in
theorem zc_X9_called_X_11 (I : Nat → Nat → Int32) (J : Nat → Nat → Int64) (l1 : Int32) {I2 : Nat → Nat → Int32} {J2 : Nat → Nat → Int64} (hF : zF_X9_livedToday zW_X [.ref 0] (I, J) = some (some (.ref 21), (I2, J2))) : zv_X9_called_X_11 I J l1 = zv_X9_called_X_15 I2 J2 l1 := by
  have e : ∀ k : zm_S → zm_R, zm_step zT_X9_called zW_X k (11, [some (.ref 0), some (.int l1)], [], (I, J)) = zm_app (1, some 9, true, [], zF_X9_livedToday) zW_X [.ref 0] (I, J) (fun v N => k (15, [some (.ref 0), some (.int l1)], v.toList ++ [], N)) := fun k => rfl
  have g := zm_app_s (C := (1, some 9, true, [], zF_X9_livedToday)) (wl := zW_X) (as := [.ref 0]) (M := (I, J)) (k := fun v N => zm_V zT_X9_called zW_X (15, [some (.ref 0), some (.int l1)], v.toList ++ [], N)) rfl rfl hF
  exact (zm_V_eq _ _ _).trans ((e _).trans g)
set_option maxRecDepth 20000 in
theorem zq_X9_called_X_15 (I : Nat → Nat → Int32) (J : Nat → Nat → Int64) (l1 : Int32) : zv_X9_called_X_15 I J l1 = if (l1 : Int32) < 0 ∨ 5 ≤ Int32.toNatClampNeg l1 then none else zv_X9_called_X_28 I J l1 (I 27 (Int32.toNatClampNeg l1)) := (zm_V_eq _ _ _).trans ((fun (k : zm_S → zm_R) => (rfl : zm_step zT_X9_called zW_X k (15, [some (.ref 0), some (.int l1)], [.ref 21], (I, J)) = if (l1 : Int32) < 0 ∨ 5 ≤ Int32.toNatClampNeg l1 then none else k (28, [some (.ref 0), some (.int l1)], [.int (I 27 (Int32.toNatClampNeg l1))], (I, J)))) (zm_V zT_X9_called zW_X))
set_option maxRecDepth 20000 in
theorem zq_X9_called_X_26 (I : Nat → Nat → Int32) (J : Nat → Nat → Int64) (l1 : Int32) : zv_X9_called_X_26 I J l1 = zv_X9_called_X_28 I J l1 (-2) := (zm_V_eq _ _ _).trans ((fun (k : zm_S → zm_R) => (rfl : zm_step zT_X9_called zW_X k (26, [some (.ref 0), some (.int l1)], [], (I, J)) = k (28, [some (.ref 0), some (.int l1)], [.int (-2)], (I, J)))) (zm_V zT_X9_called zW_X))
set_option maxRecDepth 20000 in
theorem zq_X9_called_X_28 (I : Nat → Nat → Int32) (J : Nat → Nat → Int64) (l1 : Int32) (s0 : Int32) : zv_X9_called_X_28 I J l1 s0 = some (some (.int s0), (I, J)) := (zm_V_eq _ _ _).trans ((fun (k : zm_S → zm_R) => (rfl : zm_step zT_X9_called zW_X k (28, [some (.ref 0), some (.int l1)], [.int s0], (I, J)) = some (some (.int s0), (I, J)))) (zm_V zT_X9_called zW_X))
theorem zf_X9_called_X (I : Nat → Nat → Int32) (J : Nat → Nat → Int64) (l1 : Int32) : zF_X9_called zW_X [.ref 0, .int l1] (I, J) = zv_X9_called_X_0 I J l1 := rfl
noncomputable def zv_X9_waits_X_0 (I : Nat → Nat → Int32) (J : Nat → Nat → Int64) (l1 : Int32) : zm_R := zm_V zT_X9_waits zW_X (0, [some (.ref 0), some (.int l1), none], [], (I, J))
noncomputable def zv_X9_waits_X_8 (I : Nat → Nat → Int32) (J : Nat → Nat → Int64) (l1 : Int32) (s0 : Int32) : zm_R := zm_V zT_X9_waits zW_X (8, [some (.ref 0), some (.int l1), none], [.int s0], (I, J))
noncomputable def zv_X9_waits_X_11 (I : Nat → Nat → Int32) (J : Nat → Nat → Int64) (l1 : Int32) : zm_R := zm_V zT_X9_waits zW_X (11, [some (.ref 0), some (.int l1), none], [], (I, J))
noncomputable def zv_X9_waits_X_14 (I : Nat → Nat → Int32) (J : Nat → Nat → Int64) (l1 : Int32) : zm_R := zm_V zT_X9_waits zW_X (14, [some (.ref 0), some (.int l1), none], [], (I, J))
noncomputable def zv_X9_waits_X_18 (I : Nat → Nat → Int32) (J : Nat → Nat → Int64) (l1 : Int32) : zm_R := zm_V zT_X9_waits zW_X (18, [some (.ref 0), some (.int l1), none], [.ref 21], (I, J))
noncomputable def zv_X9_waits_X_32 (I : Nat → Nat → Int32) (J : Nat → Nat → Int64) (l1 : Int32) (l2 : Int32) : zm_R := zm_V zT_X9_waits zW_X (32, [some (.ref 0), some (.int l1), some (.int l2)], [], (I, J))
noncomputable def zv_X9_waits_X_37 (I : Nat → Nat → Int32) (J : Nat → Nat → Int64) (l1 : Int32) (l2 : Int32) : zm_R := zm_V zT_X9_waits zW_X (37, [some (.ref 0), some (.int l1), some (.int l2)], [], (I, J))
noncomputable def zv_X9_waits_X_38 (I : Nat → Nat → Int32) (J : Nat → Nat → Int64) (l1 : Int32) (l2 : Int32) (s0 : Int32) : zm_R := zm_V zT_X9_waits zW_X (38, [some (.ref 0), some (.int l1), some (.int l2)], [.int s0], (I, J))
set_option maxRecDepth 20000 in
theorem zc_X9_waits_X_0 (I : Nat → Nat → Int32) (J : Nat → Nat → Int64) (l1 : Int32) {N : zm_I} {r : Int32} (hF : zF_X0_hasCaller zW_B [.ref 0, .int l1] (zm_sub2 [(1, 10)] (I, J)) = some (some (.int r), N)) : zv_X9_waits_X_0 I J l1 = zv_X9_waits_X_8 (zm_mrg [(1, 10)] (I, J) N).1 (zm_mrg [(1, 10)] (I, J) N).2 l1 r := by
  have e : ∀ k : zm_S → zm_R, zm_step zT_X9_waits zW_X k (0, [some (.ref 0), some (.int l1), none], [], (I, J)) = zm_app (2, some 0, false, [(0, 10)], zF_X0_hasCaller) zW_X [.ref 1, .int l1] (I, J) (fun v N => k (8, [some (.ref 0), some (.int l1), none], v.toList ++ [], N)) := fun k => rfl
  have g := zm_app_l (C := (2, some 0, false, [(0, 10)], zF_X0_hasCaller)) (wl := zW_X) (as := [.ref 1, .int l1]) (wc := zW_B) (ac := [.ref 0, .int l1]) (bs := [(1, 10)]) (M := (I, J)) (k := fun v N => zm_V zT_X9_waits zW_X (8, [some (.ref 0), some (.int l1), none], v.toList ++ [], N)) rfl rfl rfl rfl rfl rfl hF
  exact (zm_V_eq _ _ _).trans ((e _).trans g)
set_option maxRecDepth 20000 in
theorem zq_X9_waits_X_8 (I : Nat → Nat → Int32) (J : Nat → Nat → Int64) (l1 : Int32) (s0 : Int32) : zv_X9_waits_X_8 I J l1 s0 = if s0 = 0 then zv_X9_waits_X_11 I J l1 else zv_X9_waits_X_14 I J l1 := (zm_V_eq _ _ _).trans ((fun (k : zm_S → zm_R) => (rfl : zm_step zT_X9_waits zW_X k (8, [some (.ref 0), some (.int l1), none], [.int s0], (I, J)) = if s0 = 0 then k (11, [some (.ref 0), some (.int l1), none], [], (I, J)) else k (14, [some (.ref 0), some (.int l1), none], [], (I, J)))) (zm_V zT_X9_waits zW_X))
set_option maxRecDepth 20000 in
theorem zq_X9_waits_X_11 (I : Nat → Nat → Int32) (J : Nat → Nat → Int64) (l1 : Int32) : zv_X9_waits_X_11 I J l1 = some (some (.int (-2)), (I, J)) := (zm_V_eq _ _ _).trans ((fun (k : zm_S → zm_R) => (rfl : zm_step zT_X9_waits zW_X k (11, [some (.ref 0), some (.int l1), none], [], (I, J)) = some (some (.int (-2)), (I, J)))) (zm_V zT_X9_waits zW_X))
set_option maxRecDepth 20000 in
theorem zc_X9_waits_X_14 (I : Nat → Nat → Int32) (J : Nat → Nat → Int64) (l1 : Int32) {I2 : Nat → Nat → Int32} {J2 : Nat → Nat → Int64} (hF : zF_X9_livedToday zW_X [.ref 0] (I, J) = some (some (.ref 21), (I2, J2))) : zv_X9_waits_X_14 I J l1 = zv_X9_waits_X_18 I2 J2 l1 := by
  have e : ∀ k : zm_S → zm_R, zm_step zT_X9_waits zW_X k (14, [some (.ref 0), some (.int l1), none], [], (I, J)) = zm_app (1, some 9, true, [], zF_X9_livedToday) zW_X [.ref 0] (I, J) (fun v N => k (18, [some (.ref 0), some (.int l1), none], v.toList ++ [], N)) := fun k => rfl
  have g := zm_app_s (C := (1, some 9, true, [], zF_X9_livedToday)) (wl := zW_X) (as := [.ref 0]) (M := (I, J)) (k := fun v N => zm_V zT_X9_waits zW_X (18, [some (.ref 0), some (.int l1), none], v.toList ++ [], N)) rfl rfl hF
  exact (zm_V_eq _ _ _).trans ((e _).trans g)
set_option maxRecDepth 20000 in
theorem zq_X9_waits_X_18 (I : Nat → Nat → Int32) (J : Nat → Nat → Int64) (l1 : Int32) : zv_X9_waits_X_18 I J l1 = if (l1 : Int32) < 0 ∨ 5 ≤ Int32.toNatClampNeg l1 then none else if (I 27 (Int32.toNatClampNeg l1)) = (-1) then zv_X9_waits_X_32 I J l1 (I 27 (Int32.toNatClampNeg l1)) else zv_X9_waits_X_37 I J l1 (I 27 (Int32.toNatClampNeg l1)) := (zm_V_eq _ _ _).trans ((fun (k : zm_S → zm_R) => (rfl : zm_step zT_X9_waits zW_X k (18, [some (.ref 0), some (.int l1), none], [.ref 21], (I, J)) = if (l1 : Int32) < 0 ∨ 5 ≤ Int32.toNatClampNeg l1 then none else if (I 27 (Int32.toNatClampNeg l1)) = (-1) then k (32, [some (.ref 0), some (.int l1), some (.int (I 27 (Int32.toNatClampNeg l1)))], [], (I, J)) else k (37, [some (.ref 0), some (.int l1), some (.int (I 27 (Int32.toNatClampNeg l1)))], [], (I, J)))) (zm_V zT_X9_waits zW_X))
set_option maxRecDepth 20000 in
theorem zq_X9_waits_X_32 (I : Nat → Nat → Int32) (J : Nat → Nat → Int64) (l1 : Int32) (l2 : Int32) : zv_X9_waits_X_32 I J l1 l2 = zv_X9_waits_X_38 I J l1 l2 60 := (zm_V_eq _ _ _).trans ((fun (k : zm_S → zm_R) => (rfl : zm_step zT_X9_waits zW_X k (32, [some (.ref 0), some (.int l1), some (.int l2)], [], (I, J)) = k (38, [some (.ref 0), some (.int l1), some (.int l2)], [.int 60], (I, J)))) (zm_V zT_X9_waits zW_X))
set_option maxRecDepth 20000 in
theorem zq_X9_waits_X_37 (I : Nat → Nat → Int32) (J : Nat → Nat → Int64) (l1 : Int32) (l2 : Int32) : zv_X9_waits_X_37 I J l1 l2 = zv_X9_waits_X_38 I J l1 l2 l2 := (zm_V_eq _ _ _).trans ((fun (k : zm_S → zm_R) => (rfl : zm_step zT_X9_waits zW_X k (37, [some (.ref 0), some (.int l1), some (.int l2)], [], (I, J)) = k (38, [some (.ref 0), some (.int l1), some (.int l2)], [.int l2], (I, J)))) (zm_V zT_X9_waits zW_X))
set_option maxRecDepth 20000 in
theorem zq_X9_waits_X_38 (I : Nat → Nat → Int32) (J : Nat → Nat → Int64) (l1 : Int32) (l2 : Int32) (s0 : Int32) : zv_X9_waits_X_38 I J l1 l2 s0 = if (l1 : Int32) < 0 ∨ 5 ≤ Int32.toNatClampNeg l1 then none else some (some (.int (s0 - (I 4 (Int32.toNatClampNeg l1)))), (I, J)) := (zm_V_eq _ _ _).trans ((fun (k : zm_S → zm_R) => (rfl : zm_step zT_X9_waits zW_X k (38, [some (.ref 0), some (.int l1), some (.int l2)], [.int s0], (I, J)) = if (l1 : Int32) < 0 ∨ 5 ≤ Int32.toNatClampNeg l1 then none else some (some (.int (s0 - (I 4 (Int32.toNatClampNeg l1)))), (I, J)))) (zm_V zT_X9_waits zW_X))
theorem zf_X9_waits_X (I : Nat → Nat → Int32) (J : Nat → Nat → Int64) (l1 : Int32) : zF_X9_waits zW_X [.ref 0, .int l1] (I, J) = zv_X9_waits_X_0 I J l1 := rfl
noncomputable def zv_X9_goes_X_0 (I : Nat → Nat → Int32) (J : Nat → Nat → Int64) (l1 : Int32) : zm_R := zm_V zT_X9_goes zW_X (0, [some (.ref 0), some (.int l1), none, none], [], (I, J))
noncomputable def zv_X9_goes_X_4 (I : Nat → Nat → Int32) (J : Nat → Nat → Int64) (l1 : Int32) (s0 : Int32) : zm_R := zm_V zT_X9_goes zW_X (4, [some (.ref 0), some (.int l1), none, none], [.int s0], (I, J))
noncomputable def zv_X9_goes_X_7 (I : Nat → Nat → Int32) (J : Nat → Nat → Int64) (l1 : Int32) : zm_R := zm_V zT_X9_goes zW_X (7, [some (.ref 0), some (.int l1), none, none], [], (I, J))
noncomputable def zv_X9_goes_X_11 (I : Nat → Nat → Int32) (J : Nat → Nat → Int64) (l1 : Int32) (s0 : Int32) : zm_R := zm_V zT_X9_goes zW_X (11, [some (.ref 0), some (.int l1), none, none], [.int s0], (I, J))
noncomputable def zv_X9_goes_X_14 (I : Nat → Nat → Int32) (J : Nat → Nat → Int64) (l1 : Int32) : zm_R := zm_V zT_X9_goes zW_X (14, [some (.ref 0), some (.int l1), none, none], [], (I, J))
noncomputable def zv_X9_goes_X_17 (I : Nat → Nat → Int32) (J : Nat → Nat → Int64) (l1 : Int32) : zm_R := zm_V zT_X9_goes zW_X (17, [some (.ref 0), some (.int l1), none, none], [], (I, J))
noncomputable def zv_X9_goes_X_21 (I : Nat → Nat → Int32) (J : Nat → Nat → Int64) (l1 : Int32) : zm_R := zm_V zT_X9_goes zW_X (21, [some (.ref 0), some (.int l1), none, none], [.ref 21], (I, J))
noncomputable def zv_X9_goes_X_27 (I : Nat → Nat → Int32) (J : Nat → Nat → Int64) (l1 : Int32) (l3 : Int32) : zm_R := zm_V zT_X9_goes zW_X (27, [some (.ref 0), some (.int l1), some (.ref 22), some (.int l3)], [], (I, J))
noncomputable def zv_X9_goes_X_38 (I : Nat → Nat → Int32) (J : Nat → Nat → Int64) (l1 : Int32) (l3 : Int32) : zm_R := zm_V zT_X9_goes zW_X (38, [some (.ref 0), some (.int l1), some (.ref 22), some (.int l3)], [], (I, J))
noncomputable def zv_X9_goes_X_48 (I : Nat → Nat → Int32) (J : Nat → Nat → Int64) (l1 : Int32) (l3 : Int32) : zm_R := zm_V zT_X9_goes zW_X (48, [some (.ref 0), some (.int l1), some (.ref 22), some (.int l3)], [], (I, J))
noncomputable def zv_X9_goes_X_50 (I : Nat → Nat → Int32) (J : Nat → Nat → Int64) (l1 : Int32) (l3 : Int32) : zm_R := zm_V zT_X9_goes zW_X (50, [some (.ref 0), some (.int l1), some (.ref 22), some (.int l3)], [], (I, J))
noncomputable def zv_X9_goes_X_56 (I : Nat → Nat → Int32) (J : Nat → Nat → Int64) (l1 : Int32) (l3 : Int32) : zm_R := zm_V zT_X9_goes zW_X (56, [some (.ref 0), some (.int l1), some (.ref 22), some (.int l3)], [], (I, J))
set_option maxRecDepth 20000 in
theorem zc_X9_goes_X_0 (I : Nat → Nat → Int32) (J : Nat → Nat → Int64) (l1 : Int32) {I2 : Nat → Nat → Int32} {J2 : Nat → Nat → Int64} {r : Int32} (hF : zF_X9_hasBench zW_X [.ref 0] (I, J) = some (some (.int r), (I2, J2))) : zv_X9_goes_X_0 I J l1 = zv_X9_goes_X_4 I2 J2 l1 r := by
  have e : ∀ k : zm_S → zm_R, zm_step zT_X9_goes zW_X k (0, [some (.ref 0), some (.int l1), none, none], [], (I, J)) = zm_app (1, some 9, true, [], zF_X9_hasBench) zW_X [.ref 0] (I, J) (fun v N => k (4, [some (.ref 0), some (.int l1), none, none], v.toList ++ [], N)) := fun k => rfl
  have g := zm_app_s (C := (1, some 9, true, [], zF_X9_hasBench)) (wl := zW_X) (as := [.ref 0]) (M := (I, J)) (k := fun v N => zm_V zT_X9_goes zW_X (4, [some (.ref 0), some (.int l1), none, none], v.toList ++ [], N)) rfl rfl hF
  exact (zm_V_eq _ _ _).trans ((e _).trans g)
set_option maxRecDepth 20000 in
theorem zq_X9_goes_X_4 (I : Nat → Nat → Int32) (J : Nat → Nat → Int64) (l1 : Int32) (s0 : Int32) : zv_X9_goes_X_4 I J l1 s0 = if s0 = 0 then zv_X9_goes_X_14 I J l1 else zv_X9_goes_X_7 I J l1 := (zm_V_eq _ _ _).trans ((fun (k : zm_S → zm_R) => (rfl : zm_step zT_X9_goes zW_X k (4, [some (.ref 0), some (.int l1), none, none], [.int s0], (I, J)) = if s0 = 0 then k (14, [some (.ref 0), some (.int l1), none, none], [], (I, J)) else k (7, [some (.ref 0), some (.int l1), none, none], [], (I, J)))) (zm_V zT_X9_goes zW_X))
set_option maxRecDepth 20000 in
theorem zc_X9_goes_X_7 (I : Nat → Nat → Int32) (J : Nat → Nat → Int64) (l1 : Int32) {I2 : Nat → Nat → Int32} {J2 : Nat → Nat → Int64} {r : Int32} (hF : zF_X9_isMinute zW_X [.int l1] (I, J) = some (some (.int r), (I2, J2))) : zv_X9_goes_X_7 I J l1 = zv_X9_goes_X_11 I2 J2 l1 r := by
  have e : ∀ k : zm_S → zm_R, zm_step zT_X9_goes zW_X k (7, [some (.ref 0), some (.int l1), none, none], [], (I, J)) = zm_app (1, none, true, [], zF_X9_isMinute) zW_X [.int l1] (I, J) (fun v N => k (11, [some (.ref 0), some (.int l1), none, none], v.toList ++ [], N)) := fun k => rfl
  have g := zm_app_s (C := (1, none, true, [], zF_X9_isMinute)) (wl := zW_X) (as := [.int l1]) (M := (I, J)) (k := fun v N => zm_V zT_X9_goes zW_X (11, [some (.ref 0), some (.int l1), none, none], v.toList ++ [], N)) rfl rfl hF
  exact (zm_V_eq _ _ _).trans ((e _).trans g)
set_option maxRecDepth 20000 in
theorem zq_X9_goes_X_11 (I : Nat → Nat → Int32) (J : Nat → Nat → Int64) (l1 : Int32) (s0 : Int32) : zv_X9_goes_X_11 I J l1 s0 = if s0 = 0 then zv_X9_goes_X_14 I J l1 else zv_X9_goes_X_17 I J l1 := (zm_V_eq _ _ _).trans ((fun (k : zm_S → zm_R) => (rfl : zm_step zT_X9_goes zW_X k (11, [some (.ref 0), some (.int l1), none, none], [.int s0], (I, J)) = if s0 = 0 then k (14, [some (.ref 0), some (.int l1), none, none], [], (I, J)) else k (17, [some (.ref 0), some (.int l1), none, none], [], (I, J)))) (zm_V zT_X9_goes zW_X))
set_option maxRecDepth 20000 in
theorem zq_X9_goes_X_14 (I : Nat → Nat → Int32) (J : Nat → Nat → Int64) (l1 : Int32) : zv_X9_goes_X_14 I J l1 = some (some (.int (-2)), (I, J)) := (zm_V_eq _ _ _).trans ((fun (k : zm_S → zm_R) => (rfl : zm_step zT_X9_goes zW_X k (14, [some (.ref 0), some (.int l1), none, none], [], (I, J)) = some (some (.int (-2)), (I, J)))) (zm_V zT_X9_goes zW_X))
set_option maxRecDepth 20000 in
theorem zc_X9_goes_X_17 (I : Nat → Nat → Int32) (J : Nat → Nat → Int64) (l1 : Int32) {I2 : Nat → Nat → Int32} {J2 : Nat → Nat → Int64} (hF : zF_X9_livedToday zW_X [.ref 0] (I, J) = some (some (.ref 21), (I2, J2))) : zv_X9_goes_X_17 I J l1 = zv_X9_goes_X_21 I2 J2 l1 := by
  have e : ∀ k : zm_S → zm_R, zm_step zT_X9_goes zW_X k (17, [some (.ref 0), some (.int l1), none, none], [], (I, J)) = zm_app (1, some 9, true, [], zF_X9_livedToday) zW_X [.ref 0] (I, J) (fun v N => k (21, [some (.ref 0), some (.int l1), none, none], v.toList ++ [], N)) := fun k => rfl
  have g := zm_app_s (C := (1, some 9, true, [], zF_X9_livedToday)) (wl := zW_X) (as := [.ref 0]) (M := (I, J)) (k := fun v N => zm_V zT_X9_goes zW_X (21, [some (.ref 0), some (.int l1), none, none], v.toList ++ [], N)) rfl rfl hF
  exact (zm_V_eq _ _ _).trans ((e _).trans g)
set_option maxRecDepth 20000 in
theorem zq_X9_goes_X_21 (I : Nat → Nat → Int32) (J : Nat → Nat → Int64) (l1 : Int32) : zv_X9_goes_X_21 I J l1 = zv_X9_goes_X_27 I J l1 0 := (zm_V_eq _ _ _).trans ((fun (k : zm_S → zm_R) => (rfl : zm_step zT_X9_goes zW_X k (21, [some (.ref 0), some (.int l1), none, none], [.ref 21], (I, J)) = k (27, [some (.ref 0), some (.int l1), some (.ref 22), some (.int 0)], [], (I, J)))) (zm_V zT_X9_goes zW_X))
set_option maxRecDepth 20000 in
theorem zq_X9_goes_X_27 (I : Nat → Nat → Int32) (J : Nat → Nat → Int64) (l1 : Int32) (l3 : Int32) : zv_X9_goes_X_27 I J l1 l3 = if (I 1 6) ≤ l3 then zv_X9_goes_X_56 I J l1 l3 else zv_X9_goes_X_38 I J l1 l3 := (zm_V_eq _ _ _).trans ((fun (k : zm_S → zm_R) => (rfl : zm_step zT_X9_goes zW_X k (27, [some (.ref 0), some (.int l1), some (.ref 22), some (.int l3)], [], (I, J)) = if (I 1 6) ≤ l3 then k (56, [some (.ref 0), some (.int l1), some (.ref 22), some (.int l3)], [], (I, J)) else k (38, [some (.ref 0), some (.int l1), some (.ref 22), some (.int l3)], [], (I, J)))) (zm_V zT_X9_goes zW_X))
set_option maxRecDepth 20000 in
theorem zq_X9_goes_X_38 (I : Nat → Nat → Int32) (J : Nat → Nat → Int64) (l1 : Int32) (l3 : Int32) : zv_X9_goes_X_38 I J l1 l3 = if (l3 : Int32) < 0 ∨ 5 ≤ Int32.toNatClampNeg l3 then none else if (I 27 (Int32.toNatClampNeg l3)) = l1 then zv_X9_goes_X_48 I J l1 l3 else zv_X9_goes_X_50 I J l1 l3 := (zm_V_eq _ _ _).trans ((fun (k : zm_S → zm_R) => (rfl : zm_step zT_X9_goes zW_X k (38, [some (.ref 0), some (.int l1), some (.ref 22), some (.int l3)], [], (I, J)) = if (l3 : Int32) < 0 ∨ 5 ≤ Int32.toNatClampNeg l3 then none else if (I 27 (Int32.toNatClampNeg l3)) = l1 then k (48, [some (.ref 0), some (.int l1), some (.ref 22), some (.int l3)], [], (I, J)) else k (50, [some (.ref 0), some (.int l1), some (.ref 22), some (.int l3)], [], (I, J)))) (zm_V zT_X9_goes zW_X))
set_option maxRecDepth 20000 in
theorem zq_X9_goes_X_48 (I : Nat → Nat → Int32) (J : Nat → Nat → Int64) (l1 : Int32) (l3 : Int32) : zv_X9_goes_X_48 I J l1 l3 = some (some (.int l3), (I, J)) := (zm_V_eq _ _ _).trans ((fun (k : zm_S → zm_R) => (rfl : zm_step zT_X9_goes zW_X k (48, [some (.ref 0), some (.int l1), some (.ref 22), some (.int l3)], [], (I, J)) = some (some (.int l3), (I, J)))) (zm_V zT_X9_goes zW_X))
set_option maxRecDepth 20000 in
theorem zq_X9_goes_X_50 (I : Nat → Nat → Int32) (J : Nat → Nat → Int64) (l1 : Int32) (l3 : Int32) : zv_X9_goes_X_50 I J l1 l3 = zv_X9_goes_X_27 I J l1 (l3 + 1) := (zm_V_eq _ _ _).trans ((fun (k : zm_S → zm_R) => (rfl : zm_step zT_X9_goes zW_X k (50, [some (.ref 0), some (.int l1), some (.ref 22), some (.int l3)], [], (I, J)) = k (27, [some (.ref 0), some (.int l1), some (.ref 22), some (.int (l3 + 1))], [], (I, J)))) (zm_V zT_X9_goes zW_X))
set_option maxRecDepth 20000 in
theorem zq_X9_goes_X_56 (I : Nat → Nat → Int32) (J : Nat → Nat → Int64) (l1 : Int32) (l3 : Int32) : zv_X9_goes_X_56 I J l1 l3 = some (some (.int (-1)), (I, J)) := (zm_V_eq _ _ _).trans ((fun (k : zm_S → zm_R) => (rfl : zm_step zT_X9_goes zW_X k (56, [some (.ref 0), some (.int l1), some (.ref 22), some (.int l3)], [], (I, J)) = some (some (.int (-1)), (I, J)))) (zm_V zT_X9_goes zW_X))
theorem zf_X9_goes_X (I : Nat → Nat → Int32) (J : Nat → Nat → Int64) (l1 : Int32) : zF_X9_goes zW_X [.ref 0, .int l1] (I, J) = zv_X9_goes_X_0 I J l1 := rfl
noncomputable def zv_X3_seatAt_Y_0 (I : Nat → Nat → Int32) (J : Nat → Nat → Int64) (l1 : Int32) (l2 : Int32) : zm_R := zm_V zT_X3_seatAt zW_Y (0, [some (.ref 0), some (.int l1), some (.int l2)], [], (I, J))
theorem zq_X3_seatAt_Y_0 (I : Nat → Nat → Int32) (J : Nat → Nat → Int64) (l1 : Int32) (l2 : Int32) : zv_X3_seatAt_Y_0 I J l1 l2 = if (((l2 * 5) + l1) : Int32) < 0 ∨ 305 ≤ Int32.toNatClampNeg ((l2 * 5) + l1) then none else some (some (.int (I 10 (Int32.toNatClampNeg ((l2 * 5) + l1)))), (I, J)) := (zm_V_eq _ _ _).trans ((fun (k : zm_S → zm_R) => (rfl : zm_step zT_X3_seatAt zW_Y k (0, [some (.ref 0), some (.int l1), some (.int l2)], [], (I, J)) = if (((l2 * 5) + l1) : Int32) < 0 ∨ 305 ≤ Int32.toNatClampNeg ((l2 * 5) + l1) then none else some (some (.int (I 10 (Int32.toNatClampNeg ((l2 * 5) + l1)))), (I, J)))) (zm_V zT_X3_seatAt zW_Y))
theorem zf_X3_seatAt_Y (I : Nat → Nat → Int32) (J : Nat → Nat → Int64) (l1 : Int32) (l2 : Int32) : zF_X3_seatAt zW_Y [.ref 0, .int l1, .int l2] (I, J) = zv_X3_seatAt_Y_0 I J l1 l2 := rfl
noncomputable def zv_X10_sits_M_0 (I : Nat → Nat → Int32) (J : Nat → Nat → Int64) (l1 : Int32) (l2 : Int32) : zm_R := zm_V zT_X10_sits zW_M (0, [some (.ref 0), some (.int l1), some (.int l2)], [], (I, J))
noncomputable def zv_X10_sits_M_11 (I : Nat → Nat → Int32) (J : Nat → Nat → Int64) (l1 : Int32) (l2 : Int32) (s0 : Int32) : zm_R := zm_V zT_X10_sits zW_M (11, [some (.ref 0), some (.int l1), some (.int l2)], [.int s0], (I, J))
noncomputable def zv_X10_sits_M_14 (I : Nat → Nat → Int32) (J : Nat → Nat → Int64) (l1 : Int32) (l2 : Int32) : zm_R := zm_V zT_X10_sits zW_M (14, [some (.ref 0), some (.int l1), some (.int l2)], [], (I, J))
noncomputable def zv_X10_sits_M_18 (I : Nat → Nat → Int32) (J : Nat → Nat → Int64) (l1 : Int32) (l2 : Int32) (s0 : Int32) : zm_R := zm_V zT_X10_sits zW_M (18, [some (.ref 0), some (.int l1), some (.int l2)], [.int s0], (I, J))
noncomputable def zv_X10_sits_M_21 (I : Nat → Nat → Int32) (J : Nat → Nat → Int64) (l1 : Int32) (l2 : Int32) : zm_R := zm_V zT_X10_sits zW_M (21, [some (.ref 0), some (.int l1), some (.int l2)], [], (I, J))
noncomputable def zv_X10_sits_M_24 (I : Nat → Nat → Int32) (J : Nat → Nat → Int64) (l1 : Int32) (l2 : Int32) : zm_R := zm_V zT_X10_sits zW_M (24, [some (.ref 0), some (.int l1), some (.int l2)], [], (I, J))
noncomputable def zv_X10_sits_M_28 (I : Nat → Nat → Int32) (J : Nat → Nat → Int64) (l1 : Int32) (l2 : Int32) : zm_R := zm_V zT_X10_sits zW_M (28, [some (.ref 0), some (.int l1), some (.int l2)], [], (I, J))
set_option maxRecDepth 20000 in
theorem zc_X10_sits_M_0 (I : Nat → Nat → Int32) (J : Nat → Nat → Int64) (l1 : Int32) (l2 : Int32) {I2 : Nat → Nat → Int32} {J2 : Nat → Nat → Int64} {r : Int32} (hF : zF_X10_isCaller zW_M [.ref 0, .long (Int32.toInt64 l1)] ((zm_w I 0 0 0), J) = some (some (.int r), (I2, J2))) : zv_X10_sits_M_0 I J l1 l2 = zv_X10_sits_M_11 I2 J2 l1 l2 r := by
  have e : ∀ k : zm_S → zm_R, zm_step zT_X10_sits zW_M k (0, [some (.ref 0), some (.int l1), some (.int l2)], [], (I, J)) = zm_app (2, some 10, true, [], zF_X10_isCaller) zW_M [.ref 0, .long (Int32.toInt64 l1)] ((zm_w I 0 0 0), J) (fun v N => k (11, [some (.ref 0), some (.int l1), some (.int l2)], v.toList ++ [], N)) := fun k => rfl
  have g := zm_app_s (C := (2, some 10, true, [], zF_X10_isCaller)) (wl := zW_M) (as := [.ref 0, .long (Int32.toInt64 l1)]) (M := ((zm_w I 0 0 0), J)) (k := fun v N => zm_V zT_X10_sits zW_M (11, [some (.ref 0), some (.int l1), some (.int l2)], v.toList ++ [], N)) rfl rfl hF
  exact (zm_V_eq _ _ _).trans ((e _).trans g)
set_option maxRecDepth 20000 in
theorem zq_X10_sits_M_11 (I : Nat → Nat → Int32) (J : Nat → Nat → Int64) (l1 : Int32) (l2 : Int32) (s0 : Int32) : zv_X10_sits_M_11 I J l1 l2 s0 = if s0 = 0 then zv_X10_sits_M_21 I J l1 l2 else zv_X10_sits_M_14 I J l1 l2 := (zm_V_eq _ _ _).trans ((fun (k : zm_S → zm_R) => (rfl : zm_step zT_X10_sits zW_M k (11, [some (.ref 0), some (.int l1), some (.int l2)], [.int s0], (I, J)) = if s0 = 0 then k (21, [some (.ref 0), some (.int l1), some (.int l2)], [], (I, J)) else k (14, [some (.ref 0), some (.int l1), some (.int l2)], [], (I, J)))) (zm_V zT_X10_sits zW_M))
set_option maxRecDepth 20000 in
theorem zc_X10_sits_M_14 (I : Nat → Nat → Int32) (J : Nat → Nat → Int64) (l1 : Int32) (l2 : Int32) {I2 : Nat → Nat → Int32} {J2 : Nat → Nat → Int64} {r : Int32} (hF : zF_X10_isMinute zW_M [.int l2] (I, J) = some (some (.int r), (I2, J2))) : zv_X10_sits_M_14 I J l1 l2 = zv_X10_sits_M_18 I2 J2 l1 l2 r := by
  have e : ∀ k : zm_S → zm_R, zm_step zT_X10_sits zW_M k (14, [some (.ref 0), some (.int l1), some (.int l2)], [], (I, J)) = zm_app (1, none, true, [], zF_X10_isMinute) zW_M [.int l2] (I, J) (fun v N => k (18, [some (.ref 0), some (.int l1), some (.int l2)], v.toList ++ [], N)) := fun k => rfl
  have g := zm_app_s (C := (1, none, true, [], zF_X10_isMinute)) (wl := zW_M) (as := [.int l2]) (M := (I, J)) (k := fun v N => zm_V zT_X10_sits zW_M (18, [some (.ref 0), some (.int l1), some (.int l2)], v.toList ++ [], N)) rfl rfl hF
  exact (zm_V_eq _ _ _).trans ((e _).trans g)
set_option maxRecDepth 20000 in
theorem zq_X10_sits_M_18 (I : Nat → Nat → Int32) (J : Nat → Nat → Int64) (l1 : Int32) (l2 : Int32) (s0 : Int32) : zv_X10_sits_M_18 I J l1 l2 s0 = if s0 = 0 then zv_X10_sits_M_21 I J l1 l2 else zv_X10_sits_M_24 I J l1 l2 := (zm_V_eq _ _ _).trans ((fun (k : zm_S → zm_R) => (rfl : zm_step zT_X10_sits zW_M k (18, [some (.ref 0), some (.int l1), some (.int l2)], [.int s0], (I, J)) = if s0 = 0 then k (21, [some (.ref 0), some (.int l1), some (.int l2)], [], (I, J)) else k (24, [some (.ref 0), some (.int l1), some (.int l2)], [], (I, J)))) (zm_V zT_X10_sits zW_M))
set_option maxRecDepth 20000 in
theorem zq_X10_sits_M_21 (I : Nat → Nat → Int32) (J : Nat → Nat → Int64) (l1 : Int32) (l2 : Int32) : zv_X10_sits_M_21 I J l1 l2 = some (some (.int (-2)), (I, J)) := (zm_V_eq _ _ _).trans ((fun (k : zm_S → zm_R) => (rfl : zm_step zT_X10_sits zW_M k (21, [some (.ref 0), some (.int l1), some (.int l2)], [], (I, J)) = some (some (.int (-2)), (I, J)))) (zm_V zT_X10_sits zW_M))
set_option maxRecDepth 20000 in
theorem zc_X10_sits_M_24 (I : Nat → Nat → Int32) (J : Nat → Nat → Int64) (l1 : Int32) (l2 : Int32) {I2 : Nat → Nat → Int32} {J2 : Nat → Nat → Int64} (hF : zF_X10_laysNow zW_M [.ref 0] (I, J) = some (none, (I2, J2))) : zv_X10_sits_M_24 I J l1 l2 = zv_X10_sits_M_28 I2 J2 l1 l2 := by
  have e : ∀ k : zm_S → zm_R, zm_step zT_X10_sits zW_M k (24, [some (.ref 0), some (.int l1), some (.int l2)], [], (I, J)) = zm_app (1, some 10, true, [], zF_X10_laysNow) zW_M [.ref 0] (I, J) (fun v N => k (28, [some (.ref 0), some (.int l1), some (.int l2)], v.toList ++ [], N)) := fun k => rfl
  have g := zm_app_s (C := (1, some 10, true, [], zF_X10_laysNow)) (wl := zW_M) (as := [.ref 0]) (M := (I, J)) (k := fun v N => zm_V zT_X10_sits zW_M (28, [some (.ref 0), some (.int l1), some (.int l2)], v.toList ++ [], N)) rfl rfl hF
  exact (zm_V_eq _ _ _).trans ((e _).trans g)
set_option maxRecDepth 20000 in
theorem zq_X10_sits_M_28 (I : Nat → Nat → Int32) (J : Nat → Nat → Int64) (l1 : Int32) (l2 : Int32) : zv_X10_sits_M_28 I J l1 l2 = if (((61 * l1) + l2) : Int32) < 0 ∨ 305 ≤ Int32.toNatClampNeg ((61 * l1) + l2) then none else some (some (.int (I 17 (Int32.toNatClampNeg ((61 * l1) + l2)))), (I, J)) := (zm_V_eq _ _ _).trans ((fun (k : zm_S → zm_R) => (rfl : zm_step zT_X10_sits zW_M k (28, [some (.ref 0), some (.int l1), some (.int l2)], [], (I, J)) = if (((61 * l1) + l2) : Int32) < 0 ∨ 305 ≤ Int32.toNatClampNeg ((61 * l1) + l2) then none else some (some (.int (I 17 (Int32.toNatClampNeg ((61 * l1) + l2)))), (I, J)))) (zm_V zT_X10_sits zW_M))
theorem zf_X10_sits_M (I : Nat → Nat → Int32) (J : Nat → Nat → Int64) (l1 : Int32) (l2 : Int32) : zF_X10_sits zW_M [.ref 0, .int l1, .int l2] (I, J) = zv_X10_sits_M_0 I J l1 l2 := rfl
noncomputable def zv_X10_called_M_0 (I : Nat → Nat → Int32) (J : Nat → Nat → Int64) (l1 : Int32) : zm_R := zm_V zT_X10_called zW_M (0, [some (.ref 0), some (.int l1)], [], (I, J))
noncomputable def zv_X10_called_M_11 (I : Nat → Nat → Int32) (J : Nat → Nat → Int64) (l1 : Int32) (s0 : Int32) : zm_R := zm_V zT_X10_called zW_M (11, [some (.ref 0), some (.int l1)], [.int s0], (I, J))
noncomputable def zv_X10_called_M_14 (I : Nat → Nat → Int32) (J : Nat → Nat → Int64) (l1 : Int32) : zm_R := zm_V zT_X10_called zW_M (14, [some (.ref 0), some (.int l1)], [], (I, J))
noncomputable def zv_X10_called_M_17 (I : Nat → Nat → Int32) (J : Nat → Nat → Int64) (l1 : Int32) : zm_R := zm_V zT_X10_called zW_M (17, [some (.ref 0), some (.int l1)], [], (I, J))
noncomputable def zv_X10_called_M_21 (I : Nat → Nat → Int32) (J : Nat → Nat → Int64) (l1 : Int32) : zm_R := zm_V zT_X10_called zW_M (21, [some (.ref 0), some (.int l1)], [], (I, J))
set_option maxRecDepth 20000 in
theorem zc_X10_called_M_0 (I : Nat → Nat → Int32) (J : Nat → Nat → Int64) (l1 : Int32) {I2 : Nat → Nat → Int32} {J2 : Nat → Nat → Int64} {r : Int32} (hF : zF_X10_isCaller zW_M [.ref 0, .long (Int32.toInt64 l1)] ((zm_w I 0 0 0), J) = some (some (.int r), (I2, J2))) : zv_X10_called_M_0 I J l1 = zv_X10_called_M_11 I2 J2 l1 r := by
  have e : ∀ k : zm_S → zm_R, zm_step zT_X10_called zW_M k (0, [some (.ref 0), some (.int l1)], [], (I, J)) = zm_app (2, some 10, true, [], zF_X10_isCaller) zW_M [.ref 0, .long (Int32.toInt64 l1)] ((zm_w I 0 0 0), J) (fun v N => k (11, [some (.ref 0), some (.int l1)], v.toList ++ [], N)) := fun k => rfl
  have g := zm_app_s (C := (2, some 10, true, [], zF_X10_isCaller)) (wl := zW_M) (as := [.ref 0, .long (Int32.toInt64 l1)]) (M := ((zm_w I 0 0 0), J)) (k := fun v N => zm_V zT_X10_called zW_M (11, [some (.ref 0), some (.int l1)], v.toList ++ [], N)) rfl rfl hF
  exact (zm_V_eq _ _ _).trans ((e _).trans g)
set_option maxRecDepth 20000 in
theorem zq_X10_called_M_11 (I : Nat → Nat → Int32) (J : Nat → Nat → Int64) (l1 : Int32) (s0 : Int32) : zv_X10_called_M_11 I J l1 s0 = if s0 = 0 then zv_X10_called_M_14 I J l1 else zv_X10_called_M_17 I J l1 := (zm_V_eq _ _ _).trans ((fun (k : zm_S → zm_R) => (rfl : zm_step zT_X10_called zW_M k (11, [some (.ref 0), some (.int l1)], [.int s0], (I, J)) = if s0 = 0 then k (14, [some (.ref 0), some (.int l1)], [], (I, J)) else k (17, [some (.ref 0), some (.int l1)], [], (I, J)))) (zm_V zT_X10_called zW_M))
set_option maxRecDepth 20000 in
theorem zq_X10_called_M_14 (I : Nat → Nat → Int32) (J : Nat → Nat → Int64) (l1 : Int32) : zv_X10_called_M_14 I J l1 = some (some (.int (-2)), (I, J)) := (zm_V_eq _ _ _).trans ((fun (k : zm_S → zm_R) => (rfl : zm_step zT_X10_called zW_M k (14, [some (.ref 0), some (.int l1)], [], (I, J)) = some (some (.int (-2)), (I, J)))) (zm_V zT_X10_called zW_M))
set_option maxRecDepth 20000 in
theorem zc_X10_called_M_17 (I : Nat → Nat → Int32) (J : Nat → Nat → Int64) (l1 : Int32) {I2 : Nat → Nat → Int32} {J2 : Nat → Nat → Int64} (hF : zF_X10_laysNow zW_M [.ref 0] (I, J) = some (none, (I2, J2))) : zv_X10_called_M_17 I J l1 = zv_X10_called_M_21 I2 J2 l1 := by
  have e : ∀ k : zm_S → zm_R, zm_step zT_X10_called zW_M k (17, [some (.ref 0), some (.int l1)], [], (I, J)) = zm_app (1, some 10, true, [], zF_X10_laysNow) zW_M [.ref 0] (I, J) (fun v N => k (21, [some (.ref 0), some (.int l1)], v.toList ++ [], N)) := fun k => rfl
  have g := zm_app_s (C := (1, some 10, true, [], zF_X10_laysNow)) (wl := zW_M) (as := [.ref 0]) (M := (I, J)) (k := fun v N => zm_V zT_X10_called zW_M (21, [some (.ref 0), some (.int l1)], v.toList ++ [], N)) rfl rfl hF
  exact (zm_V_eq _ _ _).trans ((e _).trans g)
set_option maxRecDepth 20000 in
theorem zq_X10_called_M_21 (I : Nat → Nat → Int32) (J : Nat → Nat → Int64) (l1 : Int32) : zv_X10_called_M_21 I J l1 = if (l1 : Int32) < 0 ∨ 5 ≤ Int32.toNatClampNeg l1 then none else some (some (.int (I 18 (Int32.toNatClampNeg l1))), (I, J)) := (zm_V_eq _ _ _).trans ((fun (k : zm_S → zm_R) => (rfl : zm_step zT_X10_called zW_M k (21, [some (.ref 0), some (.int l1)], [], (I, J)) = if (l1 : Int32) < 0 ∨ 5 ≤ Int32.toNatClampNeg l1 then none else some (some (.int (I 18 (Int32.toNatClampNeg l1))), (I, J)))) (zm_V zT_X10_called zW_M))
theorem zf_X10_called_M (I : Nat → Nat → Int32) (J : Nat → Nat → Int64) (l1 : Int32) : zF_X10_called zW_M [.ref 0, .int l1] (I, J) = zv_X10_called_M_0 I J l1 := rfl
noncomputable def zv_X10_waits_M_0 (I : Nat → Nat → Int32) (J : Nat → Nat → Int64) (l1 : Int32) : zm_R := zm_V zT_X10_waits zW_M (0, [some (.ref 0), some (.int l1)], [], (I, J))
noncomputable def zv_X10_waits_M_11 (I : Nat → Nat → Int32) (J : Nat → Nat → Int64) (l1 : Int32) (s0 : Int32) : zm_R := zm_V zT_X10_waits zW_M (11, [some (.ref 0), some (.int l1)], [.int s0], (I, J))
noncomputable def zv_X10_waits_M_14 (I : Nat → Nat → Int32) (J : Nat → Nat → Int64) (l1 : Int32) : zm_R := zm_V zT_X10_waits zW_M (14, [some (.ref 0), some (.int l1)], [], (I, J))
noncomputable def zv_X10_waits_M_17 (I : Nat → Nat → Int32) (J : Nat → Nat → Int64) (l1 : Int32) : zm_R := zm_V zT_X10_waits zW_M (17, [some (.ref 0), some (.int l1)], [], (I, J))
noncomputable def zv_X10_waits_M_21 (I : Nat → Nat → Int32) (J : Nat → Nat → Int64) (l1 : Int32) : zm_R := zm_V zT_X10_waits zW_M (21, [some (.ref 0), some (.int l1)], [], (I, J))
noncomputable def zv_X10_waits_M_31 (I : Nat → Nat → Int32) (J : Nat → Nat → Int64) (l1 : Int32) : zm_R := zm_V zT_X10_waits zW_M (31, [some (.ref 0), some (.int l1)], [], (I, J))
noncomputable def zv_X10_waits_M_36 (I : Nat → Nat → Int32) (J : Nat → Nat → Int64) (l1 : Int32) : zm_R := zm_V zT_X10_waits zW_M (36, [some (.ref 0), some (.int l1)], [], (I, J))
noncomputable def zv_X10_waits_M_42 (I : Nat → Nat → Int32) (J : Nat → Nat → Int64) (l1 : Int32) (s0 : Int32) : zm_R := zm_V zT_X10_waits zW_M (42, [some (.ref 0), some (.int l1)], [.int s0], (I, J))
set_option maxRecDepth 20000 in
theorem zc_X10_waits_M_0 (I : Nat → Nat → Int32) (J : Nat → Nat → Int64) (l1 : Int32) {I2 : Nat → Nat → Int32} {J2 : Nat → Nat → Int64} {r : Int32} (hF : zF_X10_isCaller zW_M [.ref 0, .long (Int32.toInt64 l1)] ((zm_w I 0 0 0), J) = some (some (.int r), (I2, J2))) : zv_X10_waits_M_0 I J l1 = zv_X10_waits_M_11 I2 J2 l1 r := by
  have e : ∀ k : zm_S → zm_R, zm_step zT_X10_waits zW_M k (0, [some (.ref 0), some (.int l1)], [], (I, J)) = zm_app (2, some 10, true, [], zF_X10_isCaller) zW_M [.ref 0, .long (Int32.toInt64 l1)] ((zm_w I 0 0 0), J) (fun v N => k (11, [some (.ref 0), some (.int l1)], v.toList ++ [], N)) := fun k => rfl
  have g := zm_app_s (C := (2, some 10, true, [], zF_X10_isCaller)) (wl := zW_M) (as := [.ref 0, .long (Int32.toInt64 l1)]) (M := ((zm_w I 0 0 0), J)) (k := fun v N => zm_V zT_X10_waits zW_M (11, [some (.ref 0), some (.int l1)], v.toList ++ [], N)) rfl rfl hF
  exact (zm_V_eq _ _ _).trans ((e _).trans g)
set_option maxRecDepth 20000 in
theorem zq_X10_waits_M_11 (I : Nat → Nat → Int32) (J : Nat → Nat → Int64) (l1 : Int32) (s0 : Int32) : zv_X10_waits_M_11 I J l1 s0 = if s0 = 0 then zv_X10_waits_M_14 I J l1 else zv_X10_waits_M_17 I J l1 := (zm_V_eq _ _ _).trans ((fun (k : zm_S → zm_R) => (rfl : zm_step zT_X10_waits zW_M k (11, [some (.ref 0), some (.int l1)], [.int s0], (I, J)) = if s0 = 0 then k (14, [some (.ref 0), some (.int l1)], [], (I, J)) else k (17, [some (.ref 0), some (.int l1)], [], (I, J)))) (zm_V zT_X10_waits zW_M))
set_option maxRecDepth 20000 in
theorem zq_X10_waits_M_14 (I : Nat → Nat → Int32) (J : Nat → Nat → Int64) (l1 : Int32) : zv_X10_waits_M_14 I J l1 = some (some (.int (-2)), (I, J)) := (zm_V_eq _ _ _).trans ((fun (k : zm_S → zm_R) => (rfl : zm_step zT_X10_waits zW_M k (14, [some (.ref 0), some (.int l1)], [], (I, J)) = some (some (.int (-2)), (I, J)))) (zm_V zT_X10_waits zW_M))
set_option maxRecDepth 20000 in
theorem zc_X10_waits_M_17 (I : Nat → Nat → Int32) (J : Nat → Nat → Int64) (l1 : Int32) {I2 : Nat → Nat → Int32} {J2 : Nat → Nat → Int64} (hF : zF_X10_laysNow zW_M [.ref 0] (I, J) = some (none, (I2, J2))) : zv_X10_waits_M_17 I J l1 = zv_X10_waits_M_21 I2 J2 l1 := by
  have e : ∀ k : zm_S → zm_R, zm_step zT_X10_waits zW_M k (17, [some (.ref 0), some (.int l1)], [], (I, J)) = zm_app (1, some 10, true, [], zF_X10_laysNow) zW_M [.ref 0] (I, J) (fun v N => k (21, [some (.ref 0), some (.int l1)], v.toList ++ [], N)) := fun k => rfl
  have g := zm_app_s (C := (1, some 10, true, [], zF_X10_laysNow)) (wl := zW_M) (as := [.ref 0]) (M := (I, J)) (k := fun v N => zm_V zT_X10_waits zW_M (21, [some (.ref 0), some (.int l1)], v.toList ++ [], N)) rfl rfl hF
  exact (zm_V_eq _ _ _).trans ((e _).trans g)
set_option maxRecDepth 20000 in
theorem zq_X10_waits_M_21 (I : Nat → Nat → Int32) (J : Nat → Nat → Int64) (l1 : Int32) : zv_X10_waits_M_21 I J l1 = if (l1 : Int32) < 0 ∨ 5 ≤ Int32.toNatClampNeg l1 then none else if (I 18 (Int32.toNatClampNeg l1)) = (-1) then zv_X10_waits_M_31 I J l1 else zv_X10_waits_M_36 I J l1 := (zm_V_eq _ _ _).trans ((fun (k : zm_S → zm_R) => (rfl : zm_step zT_X10_waits zW_M k (21, [some (.ref 0), some (.int l1)], [], (I, J)) = if (l1 : Int32) < 0 ∨ 5 ≤ Int32.toNatClampNeg l1 then none else if (I 18 (Int32.toNatClampNeg l1)) = (-1) then k (31, [some (.ref 0), some (.int l1)], [], (I, J)) else k (36, [some (.ref 0), some (.int l1)], [], (I, J)))) (zm_V zT_X10_waits zW_M))
set_option maxRecDepth 20000 in
theorem zq_X10_waits_M_31 (I : Nat → Nat → Int32) (J : Nat → Nat → Int64) (l1 : Int32) : zv_X10_waits_M_31 I J l1 = zv_X10_waits_M_42 I J l1 60 := (zm_V_eq _ _ _).trans ((fun (k : zm_S → zm_R) => (rfl : zm_step zT_X10_waits zW_M k (31, [some (.ref 0), some (.int l1)], [], (I, J)) = k (42, [some (.ref 0), some (.int l1)], [.int 60], (I, J)))) (zm_V zT_X10_waits zW_M))
set_option maxRecDepth 20000 in
theorem zq_X10_waits_M_36 (I : Nat → Nat → Int32) (J : Nat → Nat → Int64) (l1 : Int32) : zv_X10_waits_M_36 I J l1 = if (l1 : Int32) < 0 ∨ 5 ≤ Int32.toNatClampNeg l1 then none else zv_X10_waits_M_42 I J l1 (I 18 (Int32.toNatClampNeg l1)) := (zm_V_eq _ _ _).trans ((fun (k : zm_S → zm_R) => (rfl : zm_step zT_X10_waits zW_M k (36, [some (.ref 0), some (.int l1)], [], (I, J)) = if (l1 : Int32) < 0 ∨ 5 ≤ Int32.toNatClampNeg l1 then none else k (42, [some (.ref 0), some (.int l1)], [.int (I 18 (Int32.toNatClampNeg l1))], (I, J)))) (zm_V zT_X10_waits zW_M))
set_option maxRecDepth 20000 in
theorem zq_X10_waits_M_42 (I : Nat → Nat → Int32) (J : Nat → Nat → Int64) (l1 : Int32) (s0 : Int32) : zv_X10_waits_M_42 I J l1 s0 = if (l1 : Int32) < 0 ∨ 5 ≤ Int32.toNatClampNeg l1 then none else some (some (.int (s0 - (I 14 (Int32.toNatClampNeg l1)))), (I, J)) := (zm_V_eq _ _ _).trans ((fun (k : zm_S → zm_R) => (rfl : zm_step zT_X10_waits zW_M k (42, [some (.ref 0), some (.int l1)], [.int s0], (I, J)) = if (l1 : Int32) < 0 ∨ 5 ≤ Int32.toNatClampNeg l1 then none else some (some (.int (s0 - (I 14 (Int32.toNatClampNeg l1)))), (I, J)))) (zm_V zT_X10_waits zW_M))
theorem zf_X10_waits_M (I : Nat → Nat → Int32) (J : Nat → Nat → Int64) (l1 : Int32) : zF_X10_waits zW_M [.ref 0, .int l1] (I, J) = zv_X10_waits_M_0 I J l1 := rfl
noncomputable def zv_X10_goes_M_0 (I : Nat → Nat → Int32) (J : Nat → Nat → Int64) (l1 : Int32) : zm_R := zm_V zT_X10_goes zW_M (0, [some (.ref 0), some (.int l1), none], [], (I, J))
noncomputable def zv_X10_goes_M_10 (I : Nat → Nat → Int32) (J : Nat → Nat → Int64) (l1 : Int32) (s0 : Int32) : zm_R := zm_V zT_X10_goes zW_M (10, [some (.ref 0), some (.int l1), none], [.int s0], (I, J))
noncomputable def zv_X10_goes_M_13 (I : Nat → Nat → Int32) (J : Nat → Nat → Int64) (l1 : Int32) : zm_R := zm_V zT_X10_goes zW_M (13, [some (.ref 0), some (.int l1), none], [], (I, J))
noncomputable def zv_X10_goes_M_16 (I : Nat → Nat → Int32) (J : Nat → Nat → Int64) (l1 : Int32) : zm_R := zm_V zT_X10_goes zW_M (16, [some (.ref 0), some (.int l1), none], [], (I, J))
noncomputable def zv_X10_goes_M_20 (I : Nat → Nat → Int32) (J : Nat → Nat → Int64) (l1 : Int32) : zm_R := zm_V zT_X10_goes zW_M (20, [some (.ref 0), some (.int l1), none], [], (I, J))
noncomputable def zv_X10_goes_M_22 (I : Nat → Nat → Int32) (J : Nat → Nat → Int64) (l1 : Int32) (l2 : Int32) : zm_R := zm_V zT_X10_goes zW_M (22, [some (.ref 0), some (.int l1), some (.int l2)], [], (I, J))
noncomputable def zv_X10_goes_M_27 (I : Nat → Nat → Int32) (J : Nat → Nat → Int64) (l1 : Int32) (l2 : Int32) (s0 : Int32) (s1 : Int32) : zm_R := zm_V zT_X10_goes zW_M (27, [some (.ref 0), some (.int l1), some (.int l2)], [.int s0, .int s1], (I, J))
noncomputable def zv_X10_goes_M_30 (I : Nat → Nat → Int32) (J : Nat → Nat → Int64) (l1 : Int32) (l2 : Int32) : zm_R := zm_V zT_X10_goes zW_M (30, [some (.ref 0), some (.int l1), some (.int l2)], [], (I, J))
noncomputable def zv_X10_goes_M_40 (I : Nat → Nat → Int32) (J : Nat → Nat → Int64) (l1 : Int32) (l2 : Int32) : zm_R := zm_V zT_X10_goes zW_M (40, [some (.ref 0), some (.int l1), some (.int l2)], [], (I, J))
noncomputable def zv_X10_goes_M_42 (I : Nat → Nat → Int32) (J : Nat → Nat → Int64) (l1 : Int32) (l2 : Int32) : zm_R := zm_V zT_X10_goes zW_M (42, [some (.ref 0), some (.int l1), some (.int l2)], [], (I, J))
noncomputable def zv_X10_goes_M_48 (I : Nat → Nat → Int32) (J : Nat → Nat → Int64) (l1 : Int32) (l2 : Int32) : zm_R := zm_V zT_X10_goes zW_M (48, [some (.ref 0), some (.int l1), some (.int l2)], [], (I, J))
set_option maxRecDepth 20000 in
theorem zc_X10_goes_M_0 (I : Nat → Nat → Int32) (J : Nat → Nat → Int64) (l1 : Int32) {I2 : Nat → Nat → Int32} {J2 : Nat → Nat → Int64} {r : Int32} (hF : zF_X10_isTime zW_M [.ref 0, .int l1] ((zm_w I 0 0 0), J) = some (some (.int r), (I2, J2))) : zv_X10_goes_M_0 I J l1 = zv_X10_goes_M_10 I2 J2 l1 r := by
  have e : ∀ k : zm_S → zm_R, zm_step zT_X10_goes zW_M k (0, [some (.ref 0), some (.int l1), none], [], (I, J)) = zm_app (2, some 10, true, [], zF_X10_isTime) zW_M [.ref 0, .int l1] ((zm_w I 0 0 0), J) (fun v N => k (10, [some (.ref 0), some (.int l1), none], v.toList ++ [], N)) := fun k => rfl
  have g := zm_app_s (C := (2, some 10, true, [], zF_X10_isTime)) (wl := zW_M) (as := [.ref 0, .int l1]) (M := ((zm_w I 0 0 0), J)) (k := fun v N => zm_V zT_X10_goes zW_M (10, [some (.ref 0), some (.int l1), none], v.toList ++ [], N)) rfl rfl hF
  exact (zm_V_eq _ _ _).trans ((e _).trans g)
set_option maxRecDepth 20000 in
theorem zq_X10_goes_M_10 (I : Nat → Nat → Int32) (J : Nat → Nat → Int64) (l1 : Int32) (s0 : Int32) : zv_X10_goes_M_10 I J l1 s0 = if s0 = 0 then zv_X10_goes_M_13 I J l1 else zv_X10_goes_M_16 I J l1 := (zm_V_eq _ _ _).trans ((fun (k : zm_S → zm_R) => (rfl : zm_step zT_X10_goes zW_M k (10, [some (.ref 0), some (.int l1), none], [.int s0], (I, J)) = if s0 = 0 then k (13, [some (.ref 0), some (.int l1), none], [], (I, J)) else k (16, [some (.ref 0), some (.int l1), none], [], (I, J)))) (zm_V zT_X10_goes zW_M))
set_option maxRecDepth 20000 in
theorem zq_X10_goes_M_13 (I : Nat → Nat → Int32) (J : Nat → Nat → Int64) (l1 : Int32) : zv_X10_goes_M_13 I J l1 = some (some (.int (-2)), (I, J)) := (zm_V_eq _ _ _).trans ((fun (k : zm_S → zm_R) => (rfl : zm_step zT_X10_goes zW_M k (13, [some (.ref 0), some (.int l1), none], [], (I, J)) = some (some (.int (-2)), (I, J)))) (zm_V zT_X10_goes zW_M))
set_option maxRecDepth 20000 in
theorem zc_X10_goes_M_16 (I : Nat → Nat → Int32) (J : Nat → Nat → Int64) (l1 : Int32) {I2 : Nat → Nat → Int32} {J2 : Nat → Nat → Int64} (hF : zF_X10_laysNow zW_M [.ref 0] (I, J) = some (none, (I2, J2))) : zv_X10_goes_M_16 I J l1 = zv_X10_goes_M_20 I2 J2 l1 := by
  have e : ∀ k : zm_S → zm_R, zm_step zT_X10_goes zW_M k (16, [some (.ref 0), some (.int l1), none], [], (I, J)) = zm_app (1, some 10, true, [], zF_X10_laysNow) zW_M [.ref 0] (I, J) (fun v N => k (20, [some (.ref 0), some (.int l1), none], v.toList ++ [], N)) := fun k => rfl
  have g := zm_app_s (C := (1, some 10, true, [], zF_X10_laysNow)) (wl := zW_M) (as := [.ref 0]) (M := (I, J)) (k := fun v N => zm_V zT_X10_goes zW_M (20, [some (.ref 0), some (.int l1), none], v.toList ++ [], N)) rfl rfl hF
  exact (zm_V_eq _ _ _).trans ((e _).trans g)
set_option maxRecDepth 20000 in
theorem zq_X10_goes_M_20 (I : Nat → Nat → Int32) (J : Nat → Nat → Int64) (l1 : Int32) : zv_X10_goes_M_20 I J l1 = zv_X10_goes_M_22 I J l1 0 := (zm_V_eq _ _ _).trans ((fun (k : zm_S → zm_R) => (rfl : zm_step zT_X10_goes zW_M k (20, [some (.ref 0), some (.int l1), none], [], (I, J)) = k (22, [some (.ref 0), some (.int l1), some (.int 0)], [], (I, J)))) (zm_V zT_X10_goes zW_M))
set_option maxRecDepth 20000 in
theorem zc_X10_goes_M_22 (I : Nat → Nat → Int32) (J : Nat → Nat → Int64) (l1 : Int32) (l2 : Int32) {I2 : Nat → Nat → Int32} {J2 : Nat → Nat → Int64} {r : Int32} (hF : zF_X10_callers zW_M [.ref 0] (I, J) = some (some (.int r), (I2, J2))) : zv_X10_goes_M_22 I J l1 l2 = zv_X10_goes_M_27 I2 J2 l1 l2 r l2 := by
  have e : ∀ k : zm_S → zm_R, zm_step zT_X10_goes zW_M k (22, [some (.ref 0), some (.int l1), some (.int l2)], [], (I, J)) = zm_app (1, some 10, true, [], zF_X10_callers) zW_M [.ref 0] (I, J) (fun v N => k (27, [some (.ref 0), some (.int l1), some (.int l2)], v.toList ++ [.int l2], N)) := fun k => rfl
  have g := zm_app_s (C := (1, some 10, true, [], zF_X10_callers)) (wl := zW_M) (as := [.ref 0]) (M := (I, J)) (k := fun v N => zm_V zT_X10_goes zW_M (27, [some (.ref 0), some (.int l1), some (.int l2)], v.toList ++ [.int l2], N)) rfl rfl hF
  exact (zm_V_eq _ _ _).trans ((e _).trans g)
set_option maxRecDepth 20000 in
theorem zq_X10_goes_M_27 (I : Nat → Nat → Int32) (J : Nat → Nat → Int64) (l1 : Int32) (l2 : Int32) (s0 : Int32) (s1 : Int32) : zv_X10_goes_M_27 I J l1 l2 s0 s1 = if s0 ≤ s1 then zv_X10_goes_M_48 I J l1 l2 else zv_X10_goes_M_30 I J l1 l2 := (zm_V_eq _ _ _).trans ((fun (k : zm_S → zm_R) => (rfl : zm_step zT_X10_goes zW_M k (27, [some (.ref 0), some (.int l1), some (.int l2)], [.int s0, .int s1], (I, J)) = if s0 ≤ s1 then k (48, [some (.ref 0), some (.int l1), some (.int l2)], [], (I, J)) else k (30, [some (.ref 0), some (.int l1), some (.int l2)], [], (I, J)))) (zm_V zT_X10_goes zW_M))
set_option maxRecDepth 20000 in
theorem zq_X10_goes_M_30 (I : Nat → Nat → Int32) (J : Nat → Nat → Int64) (l1 : Int32) (l2 : Int32) : zv_X10_goes_M_30 I J l1 l2 = if (l2 : Int32) < 0 ∨ 5 ≤ Int32.toNatClampNeg l2 then none else if (I 18 (Int32.toNatClampNeg l2)) = l1 then zv_X10_goes_M_40 I J l1 l2 else zv_X10_goes_M_42 I J l1 l2 := (zm_V_eq _ _ _).trans ((fun (k : zm_S → zm_R) => (rfl : zm_step zT_X10_goes zW_M k (30, [some (.ref 0), some (.int l1), some (.int l2)], [], (I, J)) = if (l2 : Int32) < 0 ∨ 5 ≤ Int32.toNatClampNeg l2 then none else if (I 18 (Int32.toNatClampNeg l2)) = l1 then k (40, [some (.ref 0), some (.int l1), some (.int l2)], [], (I, J)) else k (42, [some (.ref 0), some (.int l1), some (.int l2)], [], (I, J)))) (zm_V zT_X10_goes zW_M))
set_option maxRecDepth 20000 in
theorem zq_X10_goes_M_40 (I : Nat → Nat → Int32) (J : Nat → Nat → Int64) (l1 : Int32) (l2 : Int32) : zv_X10_goes_M_40 I J l1 l2 = some (some (.int l2), (I, J)) := (zm_V_eq _ _ _).trans ((fun (k : zm_S → zm_R) => (rfl : zm_step zT_X10_goes zW_M k (40, [some (.ref 0), some (.int l1), some (.int l2)], [], (I, J)) = some (some (.int l2), (I, J)))) (zm_V zT_X10_goes zW_M))
set_option maxRecDepth 20000 in
theorem zq_X10_goes_M_42 (I : Nat → Nat → Int32) (J : Nat → Nat → Int64) (l1 : Int32) (l2 : Int32) : zv_X10_goes_M_42 I J l1 l2 = zv_X10_goes_M_22 I J l1 (l2 + 1) := (zm_V_eq _ _ _).trans ((fun (k : zm_S → zm_R) => (rfl : zm_step zT_X10_goes zW_M k (42, [some (.ref 0), some (.int l1), some (.int l2)], [], (I, J)) = k (22, [some (.ref 0), some (.int l1), some (.int (l2 + 1))], [], (I, J)))) (zm_V zT_X10_goes zW_M))
set_option maxRecDepth 20000 in
theorem zq_X10_goes_M_48 (I : Nat → Nat → Int32) (J : Nat → Nat → Int64) (l1 : Int32) (l2 : Int32) : zv_X10_goes_M_48 I J l1 l2 = some (some (.int (-1)), (I, J)) := (zm_V_eq _ _ _).trans ((fun (k : zm_S → zm_R) => (rfl : zm_step zT_X10_goes zW_M k (48, [some (.ref 0), some (.int l1), some (.int l2)], [], (I, J)) = some (some (.int (-1)), (I, J)))) (zm_V zT_X10_goes zW_M))
theorem zf_X10_goes_M (I : Nat → Nat → Int32) (J : Nat → Nat → Int64) (l1 : Int32) : zF_X10_goes zW_M [.ref 0, .int l1] (I, J) = zv_X10_goes_M_0 I J l1 := rfl
end
section
/-! THE DAY'S ANSWERS: sits, called, waits, goes -/
theorem zZ_x5 : ∀ m, m < 61 → ∀ c, c < 5 → (Int32.ofNat m * 5 + Int32.ofNat c : Int32) = Int32.ofNat (5 * m + c) := by decide +kernel
theorem zZ_x61 : ∀ m, m < 61 → ∀ c, c < 5 → (61 * Int32.ofNat c + Int32.ofNat m : Int32) = Int32.ofNat (61 * c + m) := by decide +kernel
section ZZZ
variable {X I : Nat → Nat → Int32} {Q J : Nat → Nat → Int64}
theorem zZ_at {M : zm_I} {m c : Nat} (hm : m < 61) (hc : c < 5) : zF_X3_seatAt zW_Y [.ref 0, .int (Int32.ofNat c), .int (Int32.ofNat m)] (zm_sub2 [(21, 11)] M) = some (some (.int (M.1 31 (5 * m + c))), zm_sub2 [(21, 11)] M) := by
  have e : zF_X3_seatAt zW_Y [.ref 0, .int (Int32.ofNat c), .int (Int32.ofNat m)] (zm_sub2 [(21, 11)] M) = zv_X3_seatAt_Y_0 (zm_sub2 [(21, 11)] M).1 (zm_sub2 [(21, 11)] M).2 (Int32.ofNat c) (Int32.ofNat m) := zf_X3_seatAt_Y _ _ _ _
  rw [e, zq_X3_seatAt_Y_0, zZ_x5 m hm c hc, if_neg (zp_in (by omega) (by omega)), zp_cl (by omega)]
  rfl
theorem zZ_K {p : Nat → Int} {a b s t : Int32} {c : Nat} (h : zdK p a s c) (h2 : zdK p b t c) : s = t := Int32.toInt_inj.mp (h.1.trans h2.1.symm)
theorem zZ_sits (hG : zt_Gs zo_g1 (X, Q)) (hF : zdF (X, Q)) (hq : zqC 1 0 X I) (hM : zt_Gs zo_g22 (I, J)) (hP : zq_P (I, J)) (a0 a1 : Int32) {x y : Int32} {N1 N2 : zm_I} (h1 : zF_X9_sits zW_X [.ref 0, .int a0, .int a1] (X, Q) = some (some (.int x), N1)) (h2 : zF_X10_sits zW_M [.ref 0, .int a0, .int a1] (I, J) = some (some (.int y), N2)) : x = y := by
  have id1 : zm_mrg [(1, 10)] (X, Q) (zm_sub2 [(1, 10)] (X, Q)) = (X, Q) := zm_mrg_id _ _
  have hc := zp_hasCaller (zm_sub2 [(1, 10)] (X, Q)) a0
  rw [show (zm_sub2 [(1, 10)] (X, Q)).1 0 6 = X 1 6 from rfl] at hc
  have q3 : X 1 6 = I 7 5 := hq.1.2.2.1
  have g6 : (0 : Int) ≤ (X 1 6).toInt ∧ (X 1 6).toInt ≤ 5 := hG 1 _ rfl 6 _ rfl
  have h1 := (zf_X9_sits_X X Q a0 a1).symm.trans h1
  have h2 := (zf_X10_sits_M I J a0 a1).symm.trans h2
  rw [zc_X9_sits_X_0 _ _ _ _ hc, id1, zq_X9_sits_X_8] at h1
  rw [zc_X10_sits_M_0 _ _ _ _ (zp_isCallerM a0), zq_X10_sits_M_11, show zm_w I 0 0 0 7 5 = I 7 5 from ze_wo (by decide), ← q3] at h2
  by_cases c1 : 0 ≤ a0.toInt ∧ a0.toInt < (X 1 6).toInt
  rotate_left
  · rw [if_neg c1, if_pos rfl, zq_X9_sits_X_18] at h1
    rw [if_neg c1, if_pos rfl, zq_X10_sits_M_21] at h2
    cases h1
    cases h2
    rfl
  rw [if_pos c1, if_neg (by decide), zc_X9_sits_X_11 _ _ _ _ (zV_miX a1), zq_X9_sits_X_15] at h1
  rw [if_pos c1, if_neg (by decide), zc_X10_sits_M_14 _ _ _ _ (zV_miM a1), zq_X10_sits_M_18] at h2
  by_cases c2 : 0 ≤ a1.toInt ∧ a1.toInt ≤ 60
  rotate_left
  · rw [if_neg c2, if_pos rfl, zq_X9_sits_X_18] at h1
    rw [if_neg c2, if_pos rfl, zq_X10_sits_M_21] at h2
    cases h1
    cases h2
    rfl
  have hE := zY_E hq hP (Or.inr (Or.inr (by omega)))
  obtain ⟨N, l1, l2, l3, l4, l5⟩ := zY_lt hG hF hE
  obtain ⟨N', K', m1, m2, m3⟩ := zY_now hG hE hq hM
  obtain ⟨c, hcc⟩ : ∃ c : Nat, a0.toInt = c := ⟨a0.toInt.toNat, by omega⟩
  obtain ⟨m, hmm⟩ : ∃ m : Nat, a1.toInt = m := ⟨a1.toInt.toNat, by omega⟩
  have e0 : a0 = Int32.ofNat c := Int32.toInt_inj.mp (by rw [hcc, zp_o (by omega)])
  have e1 : a1 = Int32.ofNat m := Int32.toInt_inj.mp (by rw [hmm, zp_o (by omega)])
  rw [if_pos c2, if_neg (by decide), zc_X9_sits_X_21 _ _ _ _ (I2 := N.1) (J2 := N.2) l1] at h1
  rw [if_pos c2, if_neg (by decide), zc_X10_sits_M_24 _ _ _ _ m1, zq_X10_sits_M_28] at h2
  subst e0 e1
  rw [zc_X9_sits_X_25 _ _ _ _ (zZ_at (M := N) (by omega) (by omega)), zq_X9_sits_X_30] at h1
  rw [zZ_x61 m (by omega) c (by omega), if_neg (zp_in (by omega) (by omega)), zp_cl (by omega)] at h2
  cases h1
  cases h2
  have r := l2.1 m (by omega) c (by omega)
  rw [l3] at r
  have hcB : c < (zd_bx (X, Q)).1.1 := by
    show c < (X 1 6).toInt.toNat
    omega
  exact zZ_K (r hcB) (m2.2.2.2.2 m (by omega) c hcB)
theorem zZ_called (hG : zt_Gs zo_g1 (X, Q)) (hF : zdF (X, Q)) (hq : zqC 1 0 X I) (hM : zt_Gs zo_g22 (I, J)) (hP : zq_P (I, J)) (a0 : Int32) {x y : Int32} {N1 N2 : zm_I} (h1 : zF_X9_called zW_X [.ref 0, .int a0] (X, Q) = some (some (.int x), N1)) (h2 : zF_X10_called zW_M [.ref 0, .int a0] (I, J) = some (some (.int y), N2)) : x = y := by
  have id1 : zm_mrg [(1, 10)] (X, Q) (zm_sub2 [(1, 10)] (X, Q)) = (X, Q) := zm_mrg_id _ _
  have hc := zp_hasCaller (zm_sub2 [(1, 10)] (X, Q)) a0
  rw [show (zm_sub2 [(1, 10)] (X, Q)).1 0 6 = X 1 6 from rfl] at hc
  have q3 : X 1 6 = I 7 5 := hq.1.2.2.1
  have g6 : (0 : Int) ≤ (X 1 6).toInt ∧ (X 1 6).toInt ≤ 5 := hG 1 _ rfl 6 _ rfl
  have h1 := (zf_X9_called_X X Q a0).symm.trans h1
  have h2 := (zf_X10_called_M I J a0).symm.trans h2
  rw [zc_X9_called_X_0 _ _ _ hc, id1, zq_X9_called_X_8] at h1
  rw [zc_X10_called_M_0 _ _ _ (zp_isCallerM a0), zq_X10_called_M_11, show zm_w I 0 0 0 7 5 = I 7 5 from ze_wo (by decide), ← q3] at h2
  by_cases c1 : 0 ≤ a0.toInt ∧ a0.toInt < (X 1 6).toInt
  rotate_left
  · rw [if_neg c1, if_pos rfl, zq_X9_called_X_26, zq_X9_called_X_28] at h1
    rw [if_neg c1, if_pos rfl, zq_X10_called_M_14] at h2
    cases h1
    cases h2
    rfl
  have hE := zY_E hq hP (Or.inr (Or.inr (by omega)))
  obtain ⟨N, l1, l2, l3, l4, l5⟩ := zY_lt hG hF hE
  obtain ⟨N', K', m1, m2, m3⟩ := zY_now hG hE hq hM
  obtain ⟨c, hcc⟩ : ∃ c : Nat, a0.toInt = c := ⟨a0.toInt.toNat, by omega⟩
  have e0 : a0 = Int32.ofNat c := Int32.toInt_inj.mp (by rw [hcc, zp_o (by omega)])
  rw [if_pos c1, if_neg (by decide), zc_X9_called_X_11 _ _ _ (I2 := N.1) (J2 := N.2) l1, zq_X9_called_X_15] at h1
  rw [if_pos c1, if_neg (by decide), zc_X10_called_M_17 _ _ _ m1, zq_X10_called_M_21] at h2
  subst e0
  rw [if_neg (zp_in (by omega) (by omega)), zp_cl (by omega), zq_X9_called_X_28] at h1
  rw [if_neg (zp_in (by omega) (by omega)), zp_cl (by omega)] at h2
  cases h1
  cases h2
  have r := l2.2.1 c (by omega)
  rw [l3] at r
  exact Int32.toInt_inj.mp (r.trans (m2.2.2.1 c (by omega)).symm)
end ZZZ
end
section
/-! THE DAY'S ANSWERS: waits, goes -/
section ZZ2
variable {X I : Nat → Nat → Int32} {Q J : Nat → Nat → Int64}
theorem zZ_waits (hG : zt_Gs zo_g1 (X, Q)) (hF : zdF (X, Q)) (hq : zqC 1 0 X I) (hM : zt_Gs zo_g22 (I, J)) (hP : zq_P (I, J)) (a0 : Int32) {x y : Int32} {N1 N2 : zm_I} (h1 : zF_X9_waits zW_X [.ref 0, .int a0] (X, Q) = some (some (.int x), N1)) (h2 : zF_X10_waits zW_M [.ref 0, .int a0] (I, J) = some (some (.int y), N2)) : x = y := by
  have id1 : zm_mrg [(1, 10)] (X, Q) (zm_sub2 [(1, 10)] (X, Q)) = (X, Q) := zm_mrg_id _ _
  have hc := zp_hasCaller (zm_sub2 [(1, 10)] (X, Q)) a0
  rw [show (zm_sub2 [(1, 10)] (X, Q)).1 0 6 = X 1 6 from rfl] at hc
  have q3 : X 1 6 = I 7 5 := hq.1.2.2.1
  have g6 : (0 : Int) ≤ (X 1 6).toInt ∧ (X 1 6).toInt ≤ 5 := hG 1 _ rfl 6 _ rfl
  have h1 := (zf_X9_waits_X X Q a0).symm.trans h1
  have h2 := (zf_X10_waits_M I J a0).symm.trans h2
  rw [zc_X9_waits_X_0 _ _ _ hc, id1, zq_X9_waits_X_8] at h1
  rw [zc_X10_waits_M_0 _ _ _ (zp_isCallerM a0), zq_X10_waits_M_11, show zm_w I 0 0 0 7 5 = I 7 5 from ze_wo (by decide), ← q3] at h2
  by_cases c1 : 0 ≤ a0.toInt ∧ a0.toInt < (X 1 6).toInt
  rotate_left
  · rw [if_neg c1, if_pos rfl, zq_X9_waits_X_11] at h1
    rw [if_neg c1, if_pos rfl, zq_X10_waits_M_14] at h2
    cases h1
    cases h2
    rfl
  have hE := zY_E hq hP (Or.inr (Or.inr (by omega)))
  obtain ⟨N, l1, l2, l3, l4, l5⟩ := zY_lt hG hF hE
  obtain ⟨N', K', m1, m2, m3⟩ := zY_now hG hE hq hM
  obtain ⟨c, hcc⟩ : ∃ c : Nat, a0.toInt = c := ⟨a0.toInt.toNat, by omega⟩
  have e0 : a0 = Int32.ofNat c := Int32.toInt_inj.mp (by rw [hcc, zp_o (by omega)])
  rw [if_pos c1, if_neg (by decide), zc_X9_waits_X_14 _ _ _ (I2 := N.1) (J2 := N.2) l1, zq_X9_waits_X_18] at h1
  rw [if_pos c1, if_neg (by decide), zc_X10_waits_M_17 _ _ _ m1, zq_X10_waits_M_21] at h2
  subst e0
  have hcB : c < (zd_bx (X, Q)).1.1 := by
    show c < (X 1 6).toInt.toNat
    omega
  have hc5 : c < 5 := by omega
  have r := l2.2.1 c (by omega)
  rw [l3] at r
  have ew : N.1 27 c = N' 18 c := Int32.toInt_inj.mp (r.trans (m2.2.2.1 c (by omega)).symm)
  have ec : N' 14 c = X 4 c := by
    have z := (m2.1.2.1 c hcB).1
    have r4 : (0 : Int) ≤ (X 4 c).toInt ∧ (X 4 c).toInt ≤ 61 := zh_ga (b := (.ofNat 0, .ofNat 61)) hG rfl c
    have e4 : (zd_bx (X, Q)).2.1 c = (X 4 c).toInt.toNat := if_pos hc5
    rw [z, e4]
    exact (zd_of r4.1).symm
  have hz : ∀ l s, zv_X9_waits_X_38 N.1 N.2 (Int32.ofNat c) l s = some (some (.int (s - X 4 c)), N) := fun l s => by
    rw [zq_X9_waits_X_38, if_neg (zp_in (by omega) (by omega)), zp_cl (by omega), l5 4 c (by decide)]
  have hw : ∀ s, zv_X10_waits_M_42 N' K' (Int32.ofNat c) s = some (some (.int (s - X 4 c)), (N', K')) := fun s => by
    rw [zq_X10_waits_M_42, if_neg (zp_in (by omega) (by omega)), zp_cl (by omega), ec]
  rw [if_neg (zp_in (by omega) (by omega)), zp_cl (by omega), ew] at h1
  rw [if_neg (zp_in (by omega) (by omega)), zp_cl (by omega)] at h2
  by_cases d : N' 18 c = -1
  · rw [if_pos d, zq_X9_waits_X_32, hz] at h1
    rw [if_pos d, zq_X10_waits_M_31, hw] at h2
    cases h1
    cases h2
    rfl
  · rw [if_neg d, zq_X9_waits_X_37, hz] at h1
    rw [if_neg d, zq_X10_waits_M_36, if_neg (zp_in (by omega) (by omega)), zp_cl (by omega), hw] at h2
    cases h1
    cases h2
    rfl
theorem zZ_goL {N : zm_I} {N' : Nat → Nat → Int32} {K' : Nat → Nat → Int64} {l : Int32} {C : Nat} (hC : C ≤ 5) (e1 : N.1 1 6 = Int32.ofNat C) (e2 : N' 7 5 = Int32.ofNat C) (ew : ∀ c, c < 5 → N.1 27 c = N' 18 c) : ∀ d k, k + d = C → ∃ r, zv_X9_goes_X_27 N.1 N.2 l (Int32.ofNat k) = some (some (.int r), N) ∧ zv_X10_goes_M_22 N' K' l (Int32.ofNat k) = some (some (.int r), (N', K'))
  | 0, k, h => ⟨-1, by rw [zq_X9_goes_X_27, e1, if_pos ((zp_le (by omega) (by omega)).mpr (by omega)), zq_X9_goes_X_56], by rw [zc_X10_goes_M_22 _ _ _ _ zdm_callers, zq_X10_goes_M_27, e2, if_pos ((zp_le (by omega) (by omega)).mpr (by omega)), zq_X10_goes_M_48]⟩
  | d + 1, k, h => by
    have n1 : ¬ (Int32.ofNat C : Int32) ≤ Int32.ofNat k := fun z => by
      have := (zp_le (by omega) (by omega)).mp z
      omega
    have f1 : zv_X9_goes_X_27 N.1 N.2 l (Int32.ofNat k) = if N' 18 k = l then zv_X9_goes_X_48 N.1 N.2 l (Int32.ofNat k) else zv_X9_goes_X_50 N.1 N.2 l (Int32.ofNat k) := by
      rw [zq_X9_goes_X_27, e1, if_neg n1, zq_X9_goes_X_38, if_neg (zp_in (by omega) (by omega)), zp_cl (by omega), ew k (by omega)]
    have f2 : zv_X10_goes_M_22 N' K' l (Int32.ofNat k) = if N' 18 k = l then zv_X10_goes_M_40 N' K' l (Int32.ofNat k) else zv_X10_goes_M_42 N' K' l (Int32.ofNat k) := by
      rw [zc_X10_goes_M_22 _ _ _ _ zdm_callers, zq_X10_goes_M_27, e2, if_neg n1, zq_X10_goes_M_30, if_neg (zp_in (by omega) (by omega)), zp_cl (by omega)]
    by_cases c : N' 18 k = l
    · exact ⟨Int32.ofNat k, by rw [f1, if_pos c, zq_X9_goes_X_48], by rw [f2, if_pos c, zq_X10_goes_M_40]⟩
    · obtain ⟨r, r1, r2⟩ := zZ_goL (l := l) (K' := K') hC e1 e2 ew d (k + 1) (by omega)
      exact ⟨r, by rw [f1, if_neg c, zq_X9_goes_X_50, zp_o1 (by omega)]; exact r1, by rw [f2, if_neg c, zq_X10_goes_M_42, zp_o1 (by omega)]; exact r2⟩
end ZZ2
end
