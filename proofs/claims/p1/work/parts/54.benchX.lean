/-! A FRESH OBJECT: bench of the class (printed by program, wip/gen/gen54.py) -/
theorem zgx_forget (I : Nat → Nat → Int32) (J : Nat → Nat → Int64) : zF_X9_forgetAnswers zW_X [.ref 0] (I, J) = some (none, ((zm_w (zm_w (zm_w I 21 1 0) 68 0 0) 72 0 0), J)) := by rw [zf_X9_forgetAnswers_X, zq_X9_forgetAnswers_X_0]
theorem zp_adv {I : Nat → Nat → Int32} {J : Nat → Nat → Int64} (h1 : I 0 1 = 0) (h6 : I 0 6 = 0) : ∃ I' : Nat → Nat → Int32, zF_X8_advance zW_TB [.ref 0] (I, J) = some (none, (I', J)) ∧ I' 0 4 = 0 ∧ I' 0 2 = I 0 2 ∧ I' 2 = I 2 := by
  have a : I 0 1 ≤ 0 := by rw [h1]; decide
  have b : (zm_w (zm_w I 0 5 0) 0 4 0) 0 1 ≤ 0 := by
    have : (zm_w (zm_w I 0 5 0) 0 4 0) 0 1 = I 0 1 := by simp [zm_w]
    rw [this]; exact a
  refine ⟨zm_w (zm_w (zm_w I 0 5 0) 0 4 0) 0 6 0, ?_, by simp [zm_w], by simp [zm_w], ?_⟩
  · rw [zf_X8_advance_TB, zq_X8_advance_TB_0, h6, zq_X8_advance_TB_5, if_pos a, zq_X8_advance_TB_31, if_pos b, zq_X8_advance_TB_65, if_pos b, zq_X8_advance_TB_102]
  · rw [zm_w_ne (by decide), zm_w_ne (by decide), zm_w_ne (by decide)]
theorem zp_cp92 (J : Nat → Nat → Int64) (f : Nat → Int32) (hf : f 7 = 0) : ∀ (d m : Nat) (K : Nat → Nat → Int32) (l : Int32), l = Int32.ofNat m → m + d = 5 → K 0 = f → ∃ K' : Nat → Nat → Int32, zv_X0_copyFrom_BB_92 K J l = some (none, (K', J)) ∧ K' 0 = f
  | 0, m, K, l, hl, h, hK => by
    have hm : m = 5 := by omega
    subst hm hl
    have hz : K 0 7 ≤ 0 := by rw [hK, hf]; decide
    rw [zq_X0_copyFrom_BB_92, if_pos (by decide), zq_X0_copyFrom_BB_163, zq_X0_copyFrom_BB_165, if_pos hz, zq_X0_copyFrom_BB_221]
    exact ⟨K, rfl, hK⟩
  | d + 1, m, K, l, hl, h, hK => by
    have hm : m < 5 := by omega
    subst hl
    have hc : ∀ m, m < 5 → ¬ (5 : Int32) ≤ Int32.ofNat m ∧ ¬ (Int32.ofNat m < 0 ∨ 5 ≤ Int32.toNatClampNeg (Int32.ofNat m)) := by decide
    rw [zq_X0_copyFrom_BB_92, if_neg (hc m hm).1, zq_X0_copyFrom_BB_97]
    simp only [if_neg (hc m hm).2]
    exact zp_cp92 J f hf d (m + 1) _ _ (zi_of120 m (by omega)) (by omega) (by rw [zm_w_ne (by decide), zm_w_ne (by decide), zm_w_ne (by decide), zm_w_ne (by decide), zm_w_ne (by decide)]; exact hK)
theorem zp_cp66 (J : Nat → Nat → Int64) (f : Nat → Int32) (hf : f 7 = 0) : ∀ (d m : Nat) (K : Nat → Nat → Int32) (l : Int32), l = Int32.ofNat m → m + d = 6 → K 0 = f → ∃ K' : Nat → Nat → Int32, zv_X0_copyFrom_BB_66 K J l = some (none, (K', J)) ∧ K' 0 = f
  | 0, m, K, l, hl, h, hK => by
    have hm : m = 6 := by omega
    subst hm hl
    rw [zq_X0_copyFrom_BB_66, if_pos (by decide), zq_X0_copyFrom_BB_90]
    exact zp_cp92 J f hf 5 0 K 0 (by decide) rfl hK
  | d + 1, m, K, l, hl, h, hK => by
    have hm : m < 6 := by omega
    subst hl
    have hc : ∀ m, m < 6 → ¬ (6 : Int32) ≤ Int32.ofNat m ∧ ¬ (Int32.ofNat m < 0 ∨ 6 ≤ Int32.toNatClampNeg (Int32.ofNat m)) := by decide
    rw [zq_X0_copyFrom_BB_66, if_neg (hc m hm).1, zq_X0_copyFrom_BB_72]
    simp only [if_neg (hc m hm).2]
    exact zp_cp66 J f hf d (m + 1) _ _ (zi_of120 m (by omega)) (by omega) (by rw [zm_w_ne (by decide)]; exact hK)
theorem zp_copyFrom (I : Nat → Nat → Int32) (J : Nat → Nat → Int64) (h7 : I 10 7 = 0) : ∃ I' : Nat → Nat → Int32, zF_X0_copyFrom zW_BB [.ref 0, .ref 10] (I, J) = some (none, (I', J)) ∧ I' 0 0 = I 10 0 := by
  have key : ∀ K : Nat → Nat → Int32, K 0 0 = I 10 0 → K 0 7 = 0 → ∃ I' : Nat → Nat → Int32, zv_X0_copyFrom_BB_66 K J 0 = some (none, (I', J)) ∧ I' 0 0 = I 10 0 := fun K a b => by
    obtain ⟨K', h1, h2⟩ := zp_cp66 J (K 0) b 6 0 K 0 (by decide) rfl rfl
    exact ⟨K', h1, by rw [h2]; exact a⟩
  rw [zf_X0_copyFrom_BB, zq_X0_copyFrom_BB_0]
  exact key _ (by simp [zm_w]) (by simp [zm_w, h7])
set_option maxRecDepth 20000 in
theorem zp_read {I : Nat → Nat → Int32} {J : Nat → Nat → Int64} {Nc : zm_I} (hc : zF_X0_clear zW_B [.ref 0] (zm_sub2 [(2, 10)] ((zm_w (zm_w (zm_w I 0 2 0) 0 3 (-1)) 0 6 0), J)) = some (none, Nc)) {I3 : Nat → Nat → Int32} {J3 : Nat → Nat → Int64} (ha : zF_X8_advance zW_TB [.ref 0] ((zm_mrg [(2, 10)] ((zm_w (zm_w (zm_w I 0 2 0) 0 3 (-1)) 0 6 0), J) Nc).1, (zm_mrg [(2, 10)] ((zm_w (zm_w (zm_w I 0 2 0) 0 3 (-1)) 0 6 0), J) Nc).2) = some (none, (I3, J3))) (hk : I3 0 4 = 0) (hf : I3 0 2 = 0) : zF_X8_read zW_TB [.ref 0, .ref 2] (I, J) = some (some (.int 1), (I3, J3)) := by
  show zm_V zT_X8_read zW_TB (0, [some (.ref 0), some (.ref 2), none], [], (I, J)) = _
  refine Eq.trans ((zm_V_eq _ _ _).trans ((show zm_step zT_X8_read zW_TB (zm_V zT_X8_read zW_TB) (0, [some (.ref 0), some (.ref 2), none], [], (I, J)) = zm_app (1, some 0, false, [(0, 10)], zF_X0_clear) zW_TB [.ref 2] ((zm_w (zm_w (zm_w I 0 2 0) 0 3 (-1)) 0 6 0), J) (fun v N => zm_V zT_X8_read zW_TB (19, [some (.ref 0), some (.ref 2), none], v.toList ++ [], N)) from rfl).trans (zm_app_l (bs := [(2, 10)]) rfl rfl rfl rfl rfl rfl (hc)))) ?_
  show zm_V zT_X8_read zW_TB (19, [some (.ref 0), some (.ref 2), none], [], ((zm_mrg [(2, 10)] ((zm_w (zm_w (zm_w I 0 2 0) 0 3 (-1)) 0 6 0), J) Nc).1, (zm_mrg [(2, 10)] ((zm_w (zm_w (zm_w I 0 2 0) 0 3 (-1)) 0 6 0), J) Nc).2)) = _
  refine Eq.trans ((zm_V_eq _ _ _).trans ((show zm_step zT_X8_read zW_TB (zm_V zT_X8_read zW_TB) (19, [some (.ref 0), some (.ref 2), none], [], ((zm_mrg [(2, 10)] ((zm_w (zm_w (zm_w I 0 2 0) 0 3 (-1)) 0 6 0), J) Nc).1, (zm_mrg [(2, 10)] ((zm_w (zm_w (zm_w I 0 2 0) 0 3 (-1)) 0 6 0), J) Nc).2)) = zm_app (1, some 8, true, [], zF_X8_advance) zW_TB [.ref 0] ((zm_mrg [(2, 10)] ((zm_w (zm_w (zm_w I 0 2 0) 0 3 (-1)) 0 6 0), J) Nc).1, (zm_mrg [(2, 10)] ((zm_w (zm_w (zm_w I 0 2 0) 0 3 (-1)) 0 6 0), J) Nc).2) (fun v N => zm_V zT_X8_read zW_TB (23, [some (.ref 0), some (.ref 2), none], v.toList ++ [], N)) from rfl).trans (zm_app_s rfl rfl (ha)))) ?_
  show zm_V zT_X8_read zW_TB (23, [some (.ref 0), some (.ref 2), none], [], (I3, J3)) = _
  refine Eq.trans ((zm_V_eq _ _ _).trans (show zm_step zT_X8_read zW_TB (zm_V zT_X8_read zW_TB) (23, [some (.ref 0), some (.ref 2), none], [], (I3, J3)) = zm_V zT_X8_read zW_TB (25, [some (.ref 0), some (.ref 2), some (.int 0)], [], (I3, J3)) from rfl)) ?_
  show zm_V zT_X8_read zW_TB (25, [some (.ref 0), some (.ref 2), some (.int 0)], [], (I3, J3)) = _
  refine Eq.trans ((zm_V_eq _ _ _).trans (show zm_step zT_X8_read zW_TB (zm_V zT_X8_read zW_TB) (25, [some (.ref 0), some (.ref 2), some (.int 0)], [], (I3, J3)) = if (800 : Int32) ≤ (0 : Int32) then zm_V zT_X8_read zW_TB (120, [some (.ref 0), some (.ref 2), some (.int 0)], [], (I3, J3)) else zm_V zT_X8_read zW_TB (32, [some (.ref 0), some (.ref 2), some (.int 0)], [], (I3, J3)) from rfl)) ?_
  rw [if_neg (by decide)]
  show zm_V zT_X8_read zW_TB (32, [some (.ref 0), some (.ref 2), some (.int 0)], [], (I3, J3)) = _
  refine Eq.trans ((zm_V_eq _ _ _).trans (show zm_step zT_X8_read zW_TB (zm_V zT_X8_read zW_TB) (32, [some (.ref 0), some (.ref 2), some (.int 0)], [], (I3, J3)) = if ((I3 0 4) : Int32) = 0 then zm_V zT_X8_read zW_TB (120, [some (.ref 0), some (.ref 2), some (.int 0)], [], (I3, J3)) else zm_V zT_X8_read zW_TB (39, [some (.ref 0), some (.ref 2), some (.int 0)], [], (I3, J3)) from rfl)) ?_
  rw [if_pos (hk)]
  show zm_V zT_X8_read zW_TB (120, [some (.ref 0), some (.ref 2), some (.int 0)], [], (I3, J3)) = _
  refine Eq.trans ((zm_V_eq _ _ _).trans (show zm_step zT_X8_read zW_TB (zm_V zT_X8_read zW_TB) (120, [some (.ref 0), some (.ref 2), some (.int 0)], [], (I3, J3)) = if ((I3 0 2) : Int32) = 0 then zm_V zT_X8_read zW_TB (127, [some (.ref 0), some (.ref 2), some (.int 0)], [], (I3, J3)) else zm_V zT_X8_read zW_TB (131, [some (.ref 0), some (.ref 2), some (.int 0)], [], (I3, J3)) from rfl)) ?_
  rw [if_pos (hf)]
  show zm_V zT_X8_read zW_TB (127, [some (.ref 0), some (.ref 2), some (.int 0)], [], (I3, J3)) = _
  refine Eq.trans ((zm_V_eq _ _ _).trans (show zm_step zT_X8_read zW_TB (zm_V zT_X8_read zW_TB) (127, [some (.ref 0), some (.ref 2), some (.int 0)], [], (I3, J3)) = zm_V zT_X8_read zW_TB (132, [some (.ref 0), some (.ref 2), some (.int 0)], [.int 1], (I3, J3)) from rfl)) ?_
  show zm_V zT_X8_read zW_TB (132, [some (.ref 0), some (.ref 2), some (.int 0)], [.int 1], (I3, J3)) = _
  refine Eq.trans ((zm_V_eq _ _ _).trans (show zm_step zT_X8_read zW_TB (zm_V zT_X8_read zW_TB) (132, [some (.ref 0), some (.ref 2), some (.int 0)], [.int 1], (I3, J3)) = some (some (.int 1), (I3, J3)) from rfl)) ?_
  rfl
theorem zgx_read (I : Nat → Nat → Int32) (J : Nat → Nat → Int64) (h1 : I 0 1 = 0) : ∃ N : zm_I, zF_X8_read zW_TB [.ref 0, .ref 2] (I, J) = some (some (.int 1), N) ∧ N.1 2 0 = 0 ∧ N.1 2 7 = 0 := by
  have hc : ∀ (I : Nat → Nat → Int32) (J : Nat → Nat → Int64), ∃ N : zm_I, zF_X0_clear zW_B [.ref 0] (I, J) = some (none, N) ∧ N.1 0 0 = 0 ∧ N.1 0 7 = 0 := fun I J => ⟨_, by rw [zf_X0_clear_B, zq_X0_clear_B_0], by simp [zm_w], by simp [zm_w]⟩
  obtain ⟨Nc, e1, c0, c7⟩ := hc (zm_sub2 [(2, 10)] ((zm_w (zm_w (zm_w I 0 2 0) 0 3 (-1)) 0 6 0), J)).1 (zm_sub2 [(2, 10)] ((zm_w (zm_w (zm_w I 0 2 0) 0 3 (-1)) 0 6 0), J)).2
  have q : ∀ i, (zm_mrg [(2, 10)] ((zm_w (zm_w (zm_w I 0 2 0) 0 3 (-1)) 0 6 0), J) Nc).1 0 i = (zm_w (zm_w (zm_w I 0 2 0) 0 3 (-1)) 0 6 0) 0 i := fun i => rfl
  obtain ⟨I3, e3, k4, k2, k5⟩ := zp_adv (I := (zm_mrg [(2, 10)] ((zm_w (zm_w (zm_w I 0 2 0) 0 3 (-1)) 0 6 0), J) Nc).1) (J := (zm_mrg [(2, 10)] ((zm_w (zm_w (zm_w I 0 2 0) 0 3 (-1)) 0 6 0), J) Nc).2) (by rw [q]; simp [zm_w, h1]) (by rw [q]; simp [zm_w])
  refine ⟨_, zp_read e1 e3 k4 (by rw [k2, q]; simp [zm_w]), ?_, ?_⟩
  · show I3 2 0 = 0
    rw [k5]
    exact c0
  · show I3 2 7 = 0
    rw [k5]
    exact c7
set_option maxRecDepth 20000 in
theorem zp_benchX {I : Nat → Nat → Int32} {J : Nat → Nat → Int64} {N : zm_I} (hr : zF_X8_read zW_TB [.ref 0, .ref 2] (zm_sub2 [(51, 2), (11, 10)] (I, J)) = some (some (.int 1), N)) {N2 : zm_I} (hc : zF_X0_copyFrom zW_BB [.ref 0, .ref 10] (zm_sub2 [(1, 10), (11, 10)] ((zm_w (zm_mrg [(51, 2), (11, 10)] (I, J) N).1 51 1 0), (zm_mrg [(51, 2), (11, 10)] (I, J) N).2)) = some (none, N2)) : zF_X9_bench zW_X [.ref 0] (I, J) = some (some (.int ((zm_w (zm_w (zm_w (zm_mrg [(1, 10), (11, 10)] ((zm_w (zm_mrg [(51, 2), (11, 10)] (I, J) N).1 51 1 0), (zm_mrg [(51, 2), (11, 10)] (I, J) N).2) N2).1 21 1 0) 68 0 0) 72 0 0) 1 0)), ((zm_w (zm_w (zm_w (zm_mrg [(1, 10), (11, 10)] ((zm_w (zm_mrg [(51, 2), (11, 10)] (I, J) N).1 51 1 0), (zm_mrg [(51, 2), (11, 10)] (I, J) N).2) N2).1 21 1 0) 68 0 0) 72 0 0), (zm_mrg [(1, 10), (11, 10)] ((zm_w (zm_mrg [(51, 2), (11, 10)] (I, J) N).1 51 1 0), (zm_mrg [(51, 2), (11, 10)] (I, J) N).2) N2).2)) := by
  show zm_V zT_X9_bench zW_X (0, [some (.ref 0), none], [], (I, J)) = _
  refine Eq.trans ((zm_V_eq _ _ _).trans ((show zm_step zT_X9_bench zW_X (zm_V zT_X9_bench zW_X) (0, [some (.ref 0), none], [], (I, J)) = zm_app (2, some 8, false, [(0, 2), (1, 10)], zF_X8_read) zW_X [.ref 51, .ref 11] (I, J) (fun v N => zm_V zT_X9_bench zW_X (11, [some (.ref 0), none], v.toList ++ [], N)) from rfl).trans (zm_app_l (bs := [(51, 2), (11, 10)]) rfl rfl rfl rfl rfl rfl (hr)))) ?_
  show zm_V zT_X9_bench zW_X (11, [some (.ref 0), none], [.int 1], ((zm_mrg [(51, 2), (11, 10)] (I, J) N).1, (zm_mrg [(51, 2), (11, 10)] (I, J) N).2)) = _
  refine Eq.trans ((zm_V_eq _ _ _).trans (show zm_step zT_X9_bench zW_X (zm_V zT_X9_bench zW_X) (11, [some (.ref 0), none], [.int 1], ((zm_mrg [(51, 2), (11, 10)] (I, J) N).1, (zm_mrg [(51, 2), (11, 10)] (I, J) N).2)) = if ((1 : Int32) : Int32) = 0 then zm_V zT_X9_bench zW_X (24, [some (.ref 0), some (.int 1)], [], ((zm_w (zm_mrg [(51, 2), (11, 10)] (I, J) N).1 51 1 0), (zm_mrg [(51, 2), (11, 10)] (I, J) N).2)) else zm_V zT_X9_bench zW_X (27, [some (.ref 0), some (.int 1)], [], ((zm_w (zm_mrg [(51, 2), (11, 10)] (I, J) N).1 51 1 0), (zm_mrg [(51, 2), (11, 10)] (I, J) N).2)) from rfl)) ?_
  rw [if_neg (by decide)]
  show zm_V zT_X9_bench zW_X (27, [some (.ref 0), some (.int 1)], [], ((zm_w (zm_mrg [(51, 2), (11, 10)] (I, J) N).1 51 1 0), (zm_mrg [(51, 2), (11, 10)] (I, J) N).2)) = _
  refine Eq.trans ((zm_V_eq _ _ _).trans ((show zm_step zT_X9_bench zW_X (zm_V zT_X9_bench zW_X) (27, [some (.ref 0), some (.int 1)], [], ((zm_w (zm_mrg [(51, 2), (11, 10)] (I, J) N).1 51 1 0), (zm_mrg [(51, 2), (11, 10)] (I, J) N).2)) = zm_app (2, some 0, false, [(0, 10), (1, 10)], zF_X0_copyFrom) zW_X [.ref 1, .ref 11] ((zm_w (zm_mrg [(51, 2), (11, 10)] (I, J) N).1 51 1 0), (zm_mrg [(51, 2), (11, 10)] (I, J) N).2) (fun v N => zm_V zT_X9_bench zW_X (38, [some (.ref 0), some (.int 1)], v.toList ++ [], N)) from rfl).trans (zm_app_l (bs := [(1, 10), (11, 10)]) rfl rfl rfl rfl rfl rfl (hc)))) ?_
  show zm_V zT_X9_bench zW_X (38, [some (.ref 0), some (.int 1)], [], ((zm_mrg [(1, 10), (11, 10)] ((zm_w (zm_mrg [(51, 2), (11, 10)] (I, J) N).1 51 1 0), (zm_mrg [(51, 2), (11, 10)] (I, J) N).2) N2).1, (zm_mrg [(1, 10), (11, 10)] ((zm_w (zm_mrg [(51, 2), (11, 10)] (I, J) N).1 51 1 0), (zm_mrg [(51, 2), (11, 10)] (I, J) N).2) N2).2)) = _
  refine Eq.trans ((zm_V_eq _ _ _).trans ((show zm_step zT_X9_bench zW_X (zm_V zT_X9_bench zW_X) (38, [some (.ref 0), some (.int 1)], [], ((zm_mrg [(1, 10), (11, 10)] ((zm_w (zm_mrg [(51, 2), (11, 10)] (I, J) N).1 51 1 0), (zm_mrg [(51, 2), (11, 10)] (I, J) N).2) N2).1, (zm_mrg [(1, 10), (11, 10)] ((zm_w (zm_mrg [(51, 2), (11, 10)] (I, J) N).1 51 1 0), (zm_mrg [(51, 2), (11, 10)] (I, J) N).2) N2).2)) = zm_app (1, some 9, true, [], zF_X9_forgetAnswers) zW_X [.ref 0] ((zm_mrg [(1, 10), (11, 10)] ((zm_w (zm_mrg [(51, 2), (11, 10)] (I, J) N).1 51 1 0), (zm_mrg [(51, 2), (11, 10)] (I, J) N).2) N2).1, (zm_mrg [(1, 10), (11, 10)] ((zm_w (zm_mrg [(51, 2), (11, 10)] (I, J) N).1 51 1 0), (zm_mrg [(51, 2), (11, 10)] (I, J) N).2) N2).2) (fun v N => zm_V zT_X9_bench zW_X (42, [some (.ref 0), some (.int 1)], v.toList ++ [], N)) from rfl).trans (zm_app_s rfl rfl (zgx_forget _ _)))) ?_
  show zm_V zT_X9_bench zW_X (42, [some (.ref 0), some (.int 1)], [], ((zm_w (zm_w (zm_w (zm_mrg [(1, 10), (11, 10)] ((zm_w (zm_mrg [(51, 2), (11, 10)] (I, J) N).1 51 1 0), (zm_mrg [(51, 2), (11, 10)] (I, J) N).2) N2).1 21 1 0) 68 0 0) 72 0 0), (zm_mrg [(1, 10), (11, 10)] ((zm_w (zm_mrg [(51, 2), (11, 10)] (I, J) N).1 51 1 0), (zm_mrg [(51, 2), (11, 10)] (I, J) N).2) N2).2)) = _
  refine Eq.trans ((zm_V_eq _ _ _).trans (show zm_step zT_X9_bench zW_X (zm_V zT_X9_bench zW_X) (42, [some (.ref 0), some (.int 1)], [], ((zm_w (zm_w (zm_w (zm_mrg [(1, 10), (11, 10)] ((zm_w (zm_mrg [(51, 2), (11, 10)] (I, J) N).1 51 1 0), (zm_mrg [(51, 2), (11, 10)] (I, J) N).2) N2).1 21 1 0) 68 0 0) 72 0 0), (zm_mrg [(1, 10), (11, 10)] ((zm_w (zm_mrg [(51, 2), (11, 10)] (I, J) N).1 51 1 0), (zm_mrg [(51, 2), (11, 10)] (I, J) N).2) N2).2)) = some (some (.int ((zm_w (zm_w (zm_w (zm_mrg [(1, 10), (11, 10)] ((zm_w (zm_mrg [(51, 2), (11, 10)] (I, J) N).1 51 1 0), (zm_mrg [(51, 2), (11, 10)] (I, J) N).2) N2).1 21 1 0) 68 0 0) 72 0 0) 1 0)), ((zm_w (zm_w (zm_w (zm_mrg [(1, 10), (11, 10)] ((zm_w (zm_mrg [(51, 2), (11, 10)] (I, J) N).1 51 1 0), (zm_mrg [(51, 2), (11, 10)] (I, J) N).2) N2).1 21 1 0) 68 0 0) 72 0 0), (zm_mrg [(1, 10), (11, 10)] ((zm_w (zm_mrg [(51, 2), (11, 10)] (I, J) N).1 51 1 0), (zm_mrg [(51, 2), (11, 10)] (I, J) N).2) N2).2)) from rfl)) ?_
  rfl
theorem zpx_bench {I : Nat → Nat → Int32} {J : Nat → Nat → Int64} (h : zy_X I J) : ∃ N : zm_I, zF_X9_bench zW_X [.ref 0] (I, J) = some (some (.int 0), N) := by
  obtain ⟨N, hr, a0, a7⟩ := zgx_read (zm_sub2 [(51, 2), (11, 10)] (I, J)).1 (zm_sub2 [(51, 2), (11, 10)] (I, J)).2 ((h.1 51 1 (by decide)).trans (by decide))
  have q0 : (zm_sub2 [(1, 10), (11, 10)] ((zm_w (zm_mrg [(51, 2), (11, 10)] (I, J) N).1 51 1 0), (zm_mrg [(51, 2), (11, 10)] (I, J) N).2)).1 10 0 = 0 := by
    show (zm_w (zm_mrg [(51, 2), (11, 10)] (I, J) N).1 51 1 0) 11 0 = 0
    rw [zm_w_ne (by decide)]
    exact a0
  have q7 : (zm_sub2 [(1, 10), (11, 10)] ((zm_w (zm_mrg [(51, 2), (11, 10)] (I, J) N).1 51 1 0), (zm_mrg [(51, 2), (11, 10)] (I, J) N).2)).1 10 7 = 0 := by
    show (zm_w (zm_mrg [(51, 2), (11, 10)] (I, J) N).1 51 1 0) 11 7 = 0
    rw [zm_w_ne (by decide)]
    exact a7
  obtain ⟨K, hc, k0⟩ := zp_copyFrom (zm_sub2 [(1, 10), (11, 10)] ((zm_w (zm_mrg [(51, 2), (11, 10)] (I, J) N).1 51 1 0), (zm_mrg [(51, 2), (11, 10)] (I, J) N).2)).1 (zm_sub2 [(1, 10), (11, 10)] ((zm_w (zm_mrg [(51, 2), (11, 10)] (I, J) N).1 51 1 0), (zm_mrg [(51, 2), (11, 10)] (I, J) N).2)).2 q7
  have hb := zp_benchX hr hc
  have hv : (zm_w (zm_w (zm_w (zm_mrg [(1, 10), (11, 10)] ((zm_w (zm_mrg [(51, 2), (11, 10)] (I, J) N).1 51 1 0), (zm_mrg [(51, 2), (11, 10)] (I, J) N).2) (K, (zm_sub2 [(1, 10), (11, 10)] ((zm_w (zm_mrg [(51, 2), (11, 10)] (I, J) N).1 51 1 0), (zm_mrg [(51, 2), (11, 10)] (I, J) N).2)).2)).1 21 1 0) 68 0 0) 72 0 0) 1 0 = 0 := by
    rw [zm_w_ne (by decide), zm_w_ne (by decide), zm_w_ne (by decide)]
    exact k0.trans q0
  rw [hv] at hb
  exact ⟨_, hb⟩
theorem zo_bench {I : Nat → Nat → Int32} {J : Nat → Nat → Int64} (hX : zy_X I J) : ∃ (v : Int32) (N : zm_I), zF_X9_bench zW_X [.ref 0] (I, J) = some (some (.int v), N) ∧ ∀ (I' : Nat → Nat → Int32) (J' : Nat → Nat → Int64), zy_M I' J' → ∃ N' : zm_I, zF_X10_bench zW_M [.ref 0] (I', J') = some (some (.int v), N') := by
  obtain ⟨N, h1⟩ := zpx_bench hX
  exact ⟨0, N, h1, fun I' J' hM => zpm_bench hM⟩
