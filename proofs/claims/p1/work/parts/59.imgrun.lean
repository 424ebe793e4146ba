/-! IMAGE: its contract, the law's case of it (printed by program, wip/gen/gen59.py) -/
def zw_im : List (Nat × List (Nat × Jvm.Cond)) := [(2, [(118, .fieldLink RX9 19 "WearingBench" "now" "LWearingBench$Bench;")]), (3, [(59, .methodLink RX9 102 yX0_copyFrom)])]
theorem zk_im : zm_walks zw_im = true := by decide +kernel
def zB_im : List (Nat × List (Instr × Nat × Nat)) := [(38, [(.aload_n 2, 0, 0), (.aload_n 0, 0, 0), (.getfield 19, 9, 1), (.invokevirtual 102, 0, 0)]), (46, [(.iconst 0, 0, 0), (.ireturn, 0, 0)])]
noncomputable def zT_im : zm_T := (zB_im, [], [(102, (2, some 0, false, [(0, 10), (1, 10)], zF_X0_copyFrom))], some .int, none)
theorem zx_im (l : Launch) : zm_ok l zR_img RX9 cX9_image zT_im := zm_ok_of (fl := [(19, 9, 1)]) zR_img zk_im (by decide +kernel) ⟨Nat.le_refl _, Nat.le_refl _⟩ ⟨zm_callok_of (ze_X0_copyFrom l) (zm_wk zk_im 1 rfl) ⟨Nat.le_of_ble_eq_true rfl, Nat.le_of_ble_eq_true rfl⟩, trivial⟩
theorem zi_h7 : (zm_sub2 [(196, 10), (1, 10)] zL_M).1 10 7 = 0 := by
  show zL_M.1 1 7 = 0
  rw [zL_M1 (by decide), zl_WX (by decide)]
  decide
theorem zi_sub0 : zm_sub [(196, 10), (1, 10)] (zi_w 0) = zW_BB := zn_eqL_ok (by decide +kernel)
theorem zi_subM0 : zm_sub [(165, 31)] (zi_w 0) = zW_M := zn_eqL_ok (by decide +kernel)
set_option maxRecDepth 20000 in
theorem zi_pure0 : ∃ N : zm_I, zm_V zT_im (zi_w 0) (38, [some (.ref 0), some (.int (Int32.ofNat 0)), some (.ref 196)], [], zL_M) = some (some (.int 0), zm_mrg [(196, 10), (1, 10)] zL_M N) := by
  obtain ⟨K, hc, -⟩ := zp_copyFrom (zm_sub2 [(196, 10), (1, 10)] zL_M).1 (zm_sub2 [(196, 10), (1, 10)] zL_M).2 zi_h7
  refine ⟨(K, (zm_sub2 [(196, 10), (1, 10)] zL_M).2), Eq.trans ((zm_V_eq _ _ _).trans ((show zm_step zT_im (zi_w 0) (zm_V zT_im (zi_w 0)) (38, [some (.ref 0), some (.int (Int32.ofNat 0)), some (.ref 196)], [], zL_M) = zm_app (2, some 0, false, [(0, 10), (1, 10)], zF_X0_copyFrom) (zi_w 0) [.ref 196, .ref 1] zL_M (fun v N => zm_V zT_im (zi_w 0) (46, [some (.ref 0), some (.int (Int32.ofNat 0)), some (.ref 196)], v.toList ++ [], N)) from rfl).trans (zm_app_l (wc := zW_BB) (ac := [.ref 0, .ref 10]) (bs := [(196, 10), (1, 10)]) rfl rfl rfl rfl zi_sub0 rfl hc))) ?_⟩
  exact (zm_V_eq _ _ _).trans rfl
theorem zi_sub1 : zm_sub [(196, 10), (1, 10)] (zi_w 1) = zW_BB := zn_eqL_ok (by decide +kernel)
theorem zi_subM1 : zm_sub [(165, 31)] (zi_w 1) = zW_M := zn_eqL_ok (by decide +kernel)
set_option maxRecDepth 20000 in
theorem zi_pure1 : ∃ N : zm_I, zm_V zT_im (zi_w 1) (38, [some (.ref 0), some (.int (Int32.ofNat 1)), some (.ref 196)], [], zL_M) = some (some (.int 0), zm_mrg [(196, 10), (1, 10)] zL_M N) := by
  obtain ⟨K, hc, -⟩ := zp_copyFrom (zm_sub2 [(196, 10), (1, 10)] zL_M).1 (zm_sub2 [(196, 10), (1, 10)] zL_M).2 zi_h7
  refine ⟨(K, (zm_sub2 [(196, 10), (1, 10)] zL_M).2), Eq.trans ((zm_V_eq _ _ _).trans ((show zm_step zT_im (zi_w 1) (zm_V zT_im (zi_w 1)) (38, [some (.ref 0), some (.int (Int32.ofNat 1)), some (.ref 196)], [], zL_M) = zm_app (2, some 0, false, [(0, 10), (1, 10)], zF_X0_copyFrom) (zi_w 1) [.ref 196, .ref 1] zL_M (fun v N => zm_V zT_im (zi_w 1) (46, [some (.ref 0), some (.int (Int32.ofNat 1)), some (.ref 196)], v.toList ++ [], N)) from rfl).trans (zm_app_l (wc := zW_BB) (ac := [.ref 0, .ref 10]) (bs := [(196, 10), (1, 10)]) rfl rfl rfl rfl zi_sub1 rfl hc))) ?_⟩
  exact (zm_V_eq _ _ _).trans rfl
theorem zi_sub2 : zm_sub [(196, 10), (1, 10)] (zi_w 2) = zW_BB := zn_eqL_ok (by decide +kernel)
theorem zi_subM2 : zm_sub [(165, 31)] (zi_w 2) = zW_M := zn_eqL_ok (by decide +kernel)
set_option maxRecDepth 20000 in
theorem zi_pure2 : ∃ N : zm_I, zm_V zT_im (zi_w 2) (38, [some (.ref 0), some (.int (Int32.ofNat 2)), some (.ref 196)], [], zL_M) = some (some (.int 0), zm_mrg [(196, 10), (1, 10)] zL_M N) := by
  obtain ⟨K, hc, -⟩ := zp_copyFrom (zm_sub2 [(196, 10), (1, 10)] zL_M).1 (zm_sub2 [(196, 10), (1, 10)] zL_M).2 zi_h7
  refine ⟨(K, (zm_sub2 [(196, 10), (1, 10)] zL_M).2), Eq.trans ((zm_V_eq _ _ _).trans ((show zm_step zT_im (zi_w 2) (zm_V zT_im (zi_w 2)) (38, [some (.ref 0), some (.int (Int32.ofNat 2)), some (.ref 196)], [], zL_M) = zm_app (2, some 0, false, [(0, 10), (1, 10)], zF_X0_copyFrom) (zi_w 2) [.ref 196, .ref 1] zL_M (fun v N => zm_V zT_im (zi_w 2) (46, [some (.ref 0), some (.int (Int32.ofNat 2)), some (.ref 196)], v.toList ++ [], N)) from rfl).trans (zm_app_l (wc := zW_BB) (ac := [.ref 0, .ref 10]) (bs := [(196, 10), (1, 10)]) rfl rfl rfl rfl zi_sub2 rfl hc))) ?_⟩
  exact (zm_V_eq _ _ _).trans rfl
theorem zi_pure {j : Nat} (hj : j < 3) : ∃ N : zm_I, zm_V zT_im (zi_w j) (38, [some (.ref 0), some (.int (Int32.ofNat j)), some (.ref 196)], [], zL_M) = some (some (.int 0), zm_mrg [(196, 10), (1, 10)] zL_M N) := by
  match j, hj with
  | 0, _ => exact zi_pure0
  | 1, _ => exact zi_pure1
  | 2, _ => exact zi_pure2
  | n + 3, h => omega
theorem zi_mono {p : Program} {l : Launch} {e : Env} {R : Room} {s : State} {m : MethodId} {args : Array Value} {below : List Frame} {meth : Method} {c : Code} {H : Heap} {locs : List Loc} {c0 s0 : Nat} {Q Q' : State → Prop} {gf : JFrame} (h : W p l e R s m args below meth c H locs c0 s0 Q gf) (hq : ∀ t, Q t → Q' t) : W p l e R s m args below meth c H locs c0 s0 Q' gf := fun T hT X => by
  obtain ⟨t, a, b⟩ := h T hT X
  exact ⟨t, a, hq t b⟩
/-- what image leaves behind -/
def zi_Q (D : va_G) (cA : FieldType → ClassId) (h : Nat → Nat → Nat) (A : Nat → Prop) (j : Nat) : Array Value → State → Outcome → State → Prop := fun _ st o t =>
  o = .returned (some (.int 0)) ∧ (∃ (h1 : Nat → Nat → Nat) (N : zm_I), zn_ext 196 h h1 ∧ va_P D zm_cl (zm_ws cA h1 (zi_w j) (zm_mrg [(196, 10), (1, 10)] zL_M N)) t.heap ∧ va_D A (zm_ws cA h1 (zi_w j) (zm_mrg [(196, 10), (1, 10)] zL_M N))) ∧ va_F A st t
theorem zi_len : zL_C.length = 196 := by decide +kernel
theorem zi_met (l : Launch) (D : va_G) (cA : FieldType → ClassId) (h : Nat → Nat → Nat) (A : Nat → Prop) {j : Nat} (hj : j < 3) : Met l yX9_image (.code yX9_image cX9_image 3 (some .int) :: zm_tbl) zR_img (zn_Pc D cA h A zL_C [.ref 0, .int (Int32.ofNat j)] zL_M) (zi_Q D cA h A j) 10 171 A := by
  refine Met.ofW (cc := cX9_image) (maxL := 3) (ret := some .int) (by decide) rfl ?_
  intro p e s m args below meth c s₁ B hml hv
  obtain ⟨rfl, hP, hK, hD, hA, hw, hfr, hZ, hAO⟩ := hv
  have hts := atoms_spec (ws := Jvm.Cond.code yX9_image cX9_image 3 (some .int) :: zm_tbl) B.pre
  have hown : s.vm.findClass RX9 = some m.cls := findClass_of_methodNamed B.named
  have hB0 : ∀ T0 : zm_T, T0.2.2.2.1 = some .int → T0.2.2.2.2 = none → ∀ (h' : Nat → Nat → Nat) (c0 s0 : Nat), (∀ n, h' 1 n = h 1 n) → c0 ≤ zR_img.cells → s0 ≤ zR_img.slots → zm_B p s m (([.ref 0, .int (Int32.ofNat j)] : List Value).map (zm_cv h)).toArray meth c RX9 cX9_image 3 T0 D cA h' A zR_img c0 s0 := fun T0 hr hn h' c0 s0 hg hc0 hs0 => ⟨B.exec, B.bytes, hml, hown, fun w hw9 => hts w (List.mem_cons_of_mem _ hw9), hK, by rw [hr]; exact B.returns, B.notSynchronized, by rw [show h' 1 = h 1 from funext hg]; exact hZ, ⟨hc0, hs0⟩, fun x hx9 => by rw [hn] at hx9; cases hx9⟩
  have hB : zn_B p s m (([.ref 0, .int (Int32.ofNat j)] : List Value).map (zm_cv h)).toArray meth c RX9 cX9_image 3 ([], [], [], some .int, none) D cA (h 1) A zR_img := ⟨hB0 _ rfl rfl, hA, hAO⟩
  have hnp : ∀ (pc idx a b : Nat), zm_look zU_img.1 pc ≠ some (.putfield idx, a, b) := fun pc idx a b hq => by
    have := List.all_eq_true.mp (show zA_img.all (fun q => match q.2.1 with
      | .putfield _ => false
      | _ => true) = true by decide +kernel) _ (zm_look_mem hq)
    cases this
  rw [lg_entry_eq]
  have hl := lv_entry (([.ref 0, .int (Int32.ofNat j)] : List Value).map (zm_cv h)) (n := 3) (by simp [lg_sl, zm_cv, Value.category])
  have hgo2 := zn_go_ok (l := l) (e := e) (below := below) (Q := MQ below (zi_Q D cA h A j) (([.ref 0, .int (Int32.ofNat j)] : List Value).map (zm_cv h)).toArray s 10 171 A) hB (Or.inr hnp) ⟨rfl, rfl⟩ (zx_img l) 60 h (zi_S0 (Int32.ofNat j)) (zi_S1 j) (fun _ => rfl) (Nat.zero_le _) (Nat.zero_le _) (zi_go hj)
  refine hgo2.2 (fun h1 hx1 => ?_) hD hfr hw s.heap [] _ ⟨rfl, hl.1, hl.2.1, fun k v hk => ?_⟩ hP va_S.rf
  · intro hD1 hfr1 hw1
    obtain ⟨N, hV⟩ := zi_pure hj
    obtain ⟨n, hn⟩ := zm_V_run hV
    have hG := zm_run_ok (l := l) (e := e) (below := below) (hB0 zT_im rfl rfl h1 10 171 (fun n => hx1.2 n) (Nat.le_refl _) (Nat.le_refl _)) (zx_im l) (M0 := zL_M) hD1 hA hw1 n _ hn
    intro H locs la hl1 hP1 hS1
    refine zi_mono (hG H locs la hl1 hP1 hS1) (fun t ht => ?_)
    obtain ⟨o, t1, t2, ⟨t3, t4, t5⟩, t6⟩ := ht
    have hx2 : zn_ext 196 h h1 := by
      have := hx1
      unfold zi_S0 at this
      rw [zi_len] at this
      exact this
    exact ⟨o, t1, t2, ⟨t3, ⟨h1, N, hx2, t4, zm_D_any hD1⟩, t5⟩, t6⟩
  · match k, hk with
    | 0, hk => cases hk; rfl
    | 1, hk => cases hk; rfl
    | 2, hk => cases hk
    | k + 3, hk => cases hk
def zB_imN : List (Nat × List (Instr × Nat × Nat)) := [(0, [(.iload_n 1, 0, 0), (.ifCond .lt 8, 0, 0)]), (4, [(.iload_n 1, 0, 0), (.iconst 3, 0, 0), (.if_icmp .lt 6, 0, 0)]), (9, [(.bipush (-2), 0, 0), (.ireturn, 0, 0)])]
noncomputable def zT_imN : zm_T := (zB_imN, [], [], some .int, none)
noncomputable def zF_imN : zm_L → List Value → zm_I → zm_R := zm_F zm_V zT_imN 3
def zR_imN : Room := { frames := 0, cells := 0, slots := 0, locals := 0 }
theorem ze_imN (l : Launch) : zm_cee l yX9_image cX9_image 3 (some .int) zR_imN 1 2 (some 9) zF_imN := ⟨zm_con (T := zT_imN) (by decide) (zm_ok_of (fl := []) zR_imN zk_im (by decide +kernel) ⟨Nat.le_refl _, Nat.le_refl _⟩ trivial), rfl, rfl, zm_cw 5 206 rfl rfl, zm_cw 1 1 rfl rfl, ⟨by decide, by decide, by decide +kernel⟩, rfl, zm_cw 5 204 rfl rfl, zm_cw 5 205 rfl rfl, ⟨_, rfl, rfl⟩⟩
set_option maxRecDepth 20000 in
theorem zpx_imN {I : Nat → Nat → Int32} {J : Nat → Nat → Int64} {l : Int32} (h : l < 0 ∨ ¬ l < 3) : zF_imN zW_X [.ref 0, .int l] (I, J) = some (some (.int (-2)), (I, J)) := by
  have e0 : zF_imN zW_X [.ref 0, .int l] (I, J) = if l < 0 then zm_V zT_imN zW_X (9, [some (.ref 0), some (.int l), none], [], (I, J)) else zm_V zT_imN zW_X (4, [some (.ref 0), some (.int l), none], [], (I, J)) := (zm_V_eq _ _ _).trans rfl
  have e4 : zm_V zT_imN zW_X (4, [some (.ref 0), some (.int l), none], [], (I, J)) = if l < 3 then zm_V zT_imN zW_X (12, [some (.ref 0), some (.int l), none], [], (I, J)) else zm_V zT_imN zW_X (9, [some (.ref 0), some (.int l), none], [], (I, J)) := (zm_V_eq _ _ _).trans rfl
  have e9 : zm_V zT_imN zW_X (9, [some (.ref 0), some (.int l), none], [], (I, J)) = some (some (.int (-2)), (I, J)) := (zm_V_eq _ _ _).trans rfl
  by_cases h0 : l < 0
  · rw [e0, if_pos h0, e9]
  · rw [e0, if_neg h0, e4, if_neg (h.resolve_left h0), e9]
section ZYI
variable {I : Nat → Nat → Int32} {J : Nat → Nat → Int64}
set_option maxRecDepth 20000 in
theorem zpm_image_n {l1 : Int32} (hq : zF_X10_in zW_M [.long (Int32.toInt64 l1), .long 0, .long (2)] ((zm_w I 0 0 0), J) = some (some (.int 0), ((zm_w I 0 0 0), J))) : zF_X10_image zW_M [.ref 0, .int l1] (I, J) = some (some (.int (-2)), ((zm_w I 0 0 0), J)) := by
  show zm_V zT_X10_image zW_M (0, [some (.ref 0), some (.int l1)], [], (I, J)) = _
  refine Eq.trans ((zm_V_eq _ _ _).trans ((show zm_step zT_X10_image zW_M (zm_V zT_X10_image zW_M) (0, [some (.ref 0), some (.int l1)], [], (I, J)) = zm_app (3, none, true, [], zF_X10_in) zW_M [.long (Int32.toInt64 l1), .long 0, .long (2)] ((zm_w I 0 0 0), J) (fun v N => zm_V zT_X10_image zW_M (14, [some (.ref 0), some (.int l1)], v.toList ++ [], N)) from rfl).trans (zm_app_s rfl rfl (hq)))) ?_
  show zm_V zT_X10_image zW_M (14, [some (.ref 0), some (.int l1)], [.int 0], ((zm_w I 0 0 0), J)) = _
  refine Eq.trans ((zm_V_eq _ _ _).trans (show zm_step zT_X10_image zW_M (zm_V zT_X10_image zW_M) (14, [some (.ref 0), some (.int l1)], [.int 0], ((zm_w I 0 0 0), J)) = if ((0 : Int32) : Int32) = 0 then zm_V zT_X10_image zW_M (17, [some (.ref 0), some (.int l1)], [], ((zm_w I 0 0 0), J)) else zm_V zT_X10_image zW_M (20, [some (.ref 0), some (.int l1)], [], ((zm_w I 0 0 0), J)) from rfl)) ?_
  rw [if_pos (by decide)]
  show zm_V zT_X10_image zW_M (17, [some (.ref 0), some (.int l1)], [], ((zm_w I 0 0 0), J)) = _
  refine Eq.trans ((zm_V_eq _ _ _).trans (show zm_step zT_X10_image zW_M (zm_V zT_X10_image zW_M) (17, [some (.ref 0), some (.int l1)], [], ((zm_w I 0 0 0), J)) = some (some (.int (-2)), ((zm_w I 0 0 0), J)) from rfl)) ?_
  rfl
set_option maxRecDepth 20000 in
theorem zpm_image_0 {I2 : Nat → Nat → Int32} {J2 : Nat → Nat → Int64} (hc : zF_X10_copyBench zW_M [.ref 0, .int 0, .int (1 + 0)] ((zm_w I 0 0 0), J) = some (none, (I2, J2))) : zF_X10_image zW_M [.ref 0, .int 0] (I, J) = some (some (.int 0), ((zm_w I2 11 (Int32.toNatClampNeg 0) (vp_nar .boolean 1)), J2)) := by
  show zm_V zT_X10_image zW_M (0, [some (.ref 0), some (.int 0)], [], (I, J)) = _
  refine Eq.trans ((zm_V_eq _ _ _).trans ((show zm_step zT_X10_image zW_M (zm_V zT_X10_image zW_M) (0, [some (.ref 0), some (.int 0)], [], (I, J)) = zm_app (3, none, true, [], zF_X10_in) zW_M [.long (Int32.toInt64 0), .long 0, .long (2)] ((zm_w I 0 0 0), J) (fun v N => zm_V zT_X10_image zW_M (14, [some (.ref 0), some (.int 0)], v.toList ++ [], N)) from rfl).trans (zm_app_s rfl rfl (zgm_in32 0 0 2 (by decide) (by decide))))) ?_
  show zm_V zT_X10_image zW_M (14, [some (.ref 0), some (.int 0)], [.int 1], ((zm_w I 0 0 0), J)) = _
  refine Eq.trans ((zm_V_eq _ _ _).trans (show zm_step zT_X10_image zW_M (zm_V zT_X10_image zW_M) (14, [some (.ref 0), some (.int 0)], [.int 1], ((zm_w I 0 0 0), J)) = if ((1 : Int32) : Int32) = 0 then zm_V zT_X10_image zW_M (17, [some (.ref 0), some (.int 0)], [], ((zm_w I 0 0 0), J)) else zm_V zT_X10_image zW_M (20, [some (.ref 0), some (.int 0)], [], ((zm_w I 0 0 0), J)) from rfl)) ?_
  rw [if_neg (by decide)]
  show zm_V zT_X10_image zW_M (20, [some (.ref 0), some (.int 0)], [], ((zm_w I 0 0 0), J)) = _
  refine Eq.trans ((zm_V_eq _ _ _).trans ((show zm_step zT_X10_image zW_M (zm_V zT_X10_image zW_M) (20, [some (.ref 0), some (.int 0)], [], ((zm_w I 0 0 0), J)) = zm_app (3, some 10, true, [], zF_X10_copyBench) zW_M [.ref 0, .int 0, .int (1 + 0)] ((zm_w I 0 0 0), J) (fun v N => zm_V zT_X10_image zW_M (28, [some (.ref 0), some (.int 0)], v.toList ++ [], N)) from rfl).trans (zm_app_s rfl rfl (hc)))) ?_
  show zm_V zT_X10_image zW_M (28, [some (.ref 0), some (.int 0)], [], (I2, J2)) = _
  refine Eq.trans ((zm_V_eq _ _ _).trans (show zm_step zT_X10_image zW_M (zm_V zT_X10_image zW_M) (28, [some (.ref 0), some (.int 0)], [], (I2, J2)) = if (0 : Int32) < 0 ∨ 3 ≤ Int32.toNatClampNeg 0 then none else some (some (.int 0), ((zm_w I2 11 (Int32.toNatClampNeg 0) (vp_nar .boolean 1)), J2)) from rfl)) ?_
  rw [if_neg (by decide)]
  first | done | rfl
set_option maxRecDepth 20000 in
theorem zpm_image_1 {I2 : Nat → Nat → Int32} {J2 : Nat → Nat → Int64} (hc : zF_X10_copyBench zW_M [.ref 0, .int 0, .int (1 + 1)] ((zm_w I 0 0 0), J) = some (none, (I2, J2))) : zF_X10_image zW_M [.ref 0, .int 1] (I, J) = some (some (.int 0), ((zm_w I2 11 (Int32.toNatClampNeg 1) (vp_nar .boolean 1)), J2)) := by
  show zm_V zT_X10_image zW_M (0, [some (.ref 0), some (.int 1)], [], (I, J)) = _
  refine Eq.trans ((zm_V_eq _ _ _).trans ((show zm_step zT_X10_image zW_M (zm_V zT_X10_image zW_M) (0, [some (.ref 0), some (.int 1)], [], (I, J)) = zm_app (3, none, true, [], zF_X10_in) zW_M [.long (Int32.toInt64 1), .long 0, .long (2)] ((zm_w I 0 0 0), J) (fun v N => zm_V zT_X10_image zW_M (14, [some (.ref 0), some (.int 1)], v.toList ++ [], N)) from rfl).trans (zm_app_s rfl rfl (zgm_in32 1 0 2 (by decide) (by decide))))) ?_
  show zm_V zT_X10_image zW_M (14, [some (.ref 0), some (.int 1)], [.int 1], ((zm_w I 0 0 0), J)) = _
  refine Eq.trans ((zm_V_eq _ _ _).trans (show zm_step zT_X10_image zW_M (zm_V zT_X10_image zW_M) (14, [some (.ref 0), some (.int 1)], [.int 1], ((zm_w I 0 0 0), J)) = if ((1 : Int32) : Int32) = 0 then zm_V zT_X10_image zW_M (17, [some (.ref 0), some (.int 1)], [], ((zm_w I 0 0 0), J)) else zm_V zT_X10_image zW_M (20, [some (.ref 0), some (.int 1)], [], ((zm_w I 0 0 0), J)) from rfl)) ?_
  rw [if_neg (by decide)]
  show zm_V zT_X10_image zW_M (20, [some (.ref 0), some (.int 1)], [], ((zm_w I 0 0 0), J)) = _
  refine Eq.trans ((zm_V_eq _ _ _).trans ((show zm_step zT_X10_image zW_M (zm_V zT_X10_image zW_M) (20, [some (.ref 0), some (.int 1)], [], ((zm_w I 0 0 0), J)) = zm_app (3, some 10, true, [], zF_X10_copyBench) zW_M [.ref 0, .int 0, .int (1 + 1)] ((zm_w I 0 0 0), J) (fun v N => zm_V zT_X10_image zW_M (28, [some (.ref 0), some (.int 1)], v.toList ++ [], N)) from rfl).trans (zm_app_s rfl rfl (hc)))) ?_
  show zm_V zT_X10_image zW_M (28, [some (.ref 0), some (.int 1)], [], (I2, J2)) = _
  refine Eq.trans ((zm_V_eq _ _ _).trans (show zm_step zT_X10_image zW_M (zm_V zT_X10_image zW_M) (28, [some (.ref 0), some (.int 1)], [], (I2, J2)) = if (1 : Int32) < 0 ∨ 3 ≤ Int32.toNatClampNeg 1 then none else some (some (.int 0), ((zm_w I2 11 (Int32.toNatClampNeg 1) (vp_nar .boolean 1)), J2)) from rfl)) ?_
  rw [if_neg (by decide)]
  first | done | rfl
set_option maxRecDepth 20000 in
theorem zpm_image_2 {I2 : Nat → Nat → Int32} {J2 : Nat → Nat → Int64} (hc : zF_X10_copyBench zW_M [.ref 0, .int 0, .int (1 + 2)] ((zm_w I 0 0 0), J) = some (none, (I2, J2))) : zF_X10_image zW_M [.ref 0, .int 2] (I, J) = some (some (.int 0), ((zm_w I2 11 (Int32.toNatClampNeg 2) (vp_nar .boolean 1)), J2)) := by
  show zm_V zT_X10_image zW_M (0, [some (.ref 0), some (.int 2)], [], (I, J)) = _
  refine Eq.trans ((zm_V_eq _ _ _).trans ((show zm_step zT_X10_image zW_M (zm_V zT_X10_image zW_M) (0, [some (.ref 0), some (.int 2)], [], (I, J)) = zm_app (3, none, true, [], zF_X10_in) zW_M [.long (Int32.toInt64 2), .long 0, .long (2)] ((zm_w I 0 0 0), J) (fun v N => zm_V zT_X10_image zW_M (14, [some (.ref 0), some (.int 2)], v.toList ++ [], N)) from rfl).trans (zm_app_s rfl rfl (zgm_in32 2 0 2 (by decide) (by decide))))) ?_
  show zm_V zT_X10_image zW_M (14, [some (.ref 0), some (.int 2)], [.int 1], ((zm_w I 0 0 0), J)) = _
  refine Eq.trans ((zm_V_eq _ _ _).trans (show zm_step zT_X10_image zW_M (zm_V zT_X10_image zW_M) (14, [some (.ref 0), some (.int 2)], [.int 1], ((zm_w I 0 0 0), J)) = if ((1 : Int32) : Int32) = 0 then zm_V zT_X10_image zW_M (17, [some (.ref 0), some (.int 2)], [], ((zm_w I 0 0 0), J)) else zm_V zT_X10_image zW_M (20, [some (.ref 0), some (.int 2)], [], ((zm_w I 0 0 0), J)) from rfl)) ?_
  rw [if_neg (by decide)]
  show zm_V zT_X10_image zW_M (20, [some (.ref 0), some (.int 2)], [], ((zm_w I 0 0 0), J)) = _
  refine Eq.trans ((zm_V_eq _ _ _).trans ((show zm_step zT_X10_image zW_M (zm_V zT_X10_image zW_M) (20, [some (.ref 0), some (.int 2)], [], ((zm_w I 0 0 0), J)) = zm_app (3, some 10, true, [], zF_X10_copyBench) zW_M [.ref 0, .int 0, .int (1 + 2)] ((zm_w I 0 0 0), J) (fun v N => zm_V zT_X10_image zW_M (28, [some (.ref 0), some (.int 2)], v.toList ++ [], N)) from rfl).trans (zm_app_s rfl rfl (hc)))) ?_
  show zm_V zT_X10_image zW_M (28, [some (.ref 0), some (.int 2)], [], (I2, J2)) = _
  refine Eq.trans ((zm_V_eq _ _ _).trans (show zm_step zT_X10_image zW_M (zm_V zT_X10_image zW_M) (28, [some (.ref 0), some (.int 2)], [], (I2, J2)) = if (2 : Int32) < 0 ∨ 3 ≤ Int32.toNatClampNeg 2 then none else some (some (.int 0), ((zm_w I2 11 (Int32.toNatClampNeg 2) (vp_nar .boolean 1)), J2)) from rfl)) ?_
  rw [if_neg (by decide)]
  first | done | rfl
end ZYI
theorem zpm_image (I : Nat → Nat → Int32) (J : Nat → Nat → Int64) {j : Nat} (hj : j < 3) : ∃ N : zm_I, zF_X10_image zW_M [.ref 0, .int (Int32.ofNat j)] (I, J) = some (some (.int 0), N) := by
  match j, hj with
  | 0, _ =>
    obtain ⟨I2, hc⟩ := zp_copyBench (zm_w I 0 0 0) J (a := 0) (b := 1 + 0) (by decide +kernel) (by decide +kernel) (by decide +kernel) (by decide +kernel) (by decide +kernel)
    exact ⟨_, zpm_image_0 hc⟩
  | 1, _ =>
    obtain ⟨I2, hc⟩ := zp_copyBench (zm_w I 0 0 0) J (a := 0) (b := 1 + 1) (by decide +kernel) (by decide +kernel) (by decide +kernel) (by decide +kernel) (by decide +kernel)
    exact ⟨_, zpm_image_1 hc⟩
  | 2, _ =>
    obtain ⟨I2, hc⟩ := zp_copyBench (zm_w I 0 0 0) J (a := 0) (b := 1 + 2) (by decide +kernel) (by decide +kernel) (by decide +kernel) (by decide +kernel) (by decide +kernel)
    exact ⟨_, zpm_image_2 hc⟩
  | n + 3, h => omega
def zBo_imN : List (Nat × List (Instr × Nat × Nat)) := [(2061, [(.aload_n 1, 0, 0), (.aload_n 0, 0, 0), (.iload_n 3, 0, 0), (.iconst 1, 0, 0), (.iadd, 0, 0), (.iaload, 0, 0), (.invokevirtual 300, 0, 0)]), (2070, [(.aload_n 2, 0, 0), (.aload_n 0, 0, 0), (.iload_n 3, 0, 0), (.iconst 1, 0, 0), (.iadd, 0, 0), (.iaload, 0, 0), (.invokevirtual 303, 0, 0)]), (2079, [(.if_icmp .eq 207, 0, 0)]), (2286, [(.iinc 3 6, 0, 0), (.goto (-2271), 0, 0)]), (18, [(.iload_n 3, 0, 0), (.aload_n 0, 0, 0), (.arraylength, 0, 0), (.bipush 6, 0, 0), (.isub, 0, 0), (.if_icmp .gt 2268, 0, 0)]), (2292, [(.iconst 1, 0, 0)])]
def zw_lim : List (Nat × List (Nat × Jvm.Cond)) := [(5, [(203, .methodLink R_law 300 yX9_image)])]
theorem zk_lim : zm_walks zw_lim = true := by decide +kernel
theorem zl_s2061 : zm_sok room_1 R_law code [(.aload_n 1, 0, 0), (.aload_n 0, 0, 0), (.iload_n 3, 0, 0), (.iconst 1, 0, 0), (.iadd, 0, 0), (.iaload, 0, 0), (.invokevirtual 300, 0, 0)] 2061 := zm_sokB_ok (zm_walk_ok zk_L) (R := room_1) ⟨Nat.le_refl _, Nat.le_refl _⟩ (fl := []) rfl _ _ (by decide +kernel)
theorem zl_s2061a : zm_sok room_1 R_law code [(.aload_n 1, 0, 0), (.aload_n 0, 0, 0), (.iload_n 3, 0, 0), (.iconst 1, 0, 0), (.iadd, 0, 0), (.iaload, 0, 0)] 2061 := zm_sokB_ok (zm_walk_ok zk_L) (R := room_1) ⟨Nat.le_refl _, Nat.le_refl _⟩ (fl := []) rfl _ _ (by decide +kernel)
noncomputable def zTo_imN (xs : Nat → Int32) : zm_T := (zBo_imN, [], [(300, (2, some 9, false, [(0, 164)], zF_imN)), (303, (2, some 10, false, [(0, 31)], zF_X10_image))], ret, some (6, xs))
theorem zxo_imN (l : Launch) (xs : Nat → Int32) : zm_ok l room_1 R_law code (zTo_imN xs) ∧ zl_nr (zTo_imN xs).1 = true := ⟨zx_of ⟨zl_s2061, zl_sk zx_L_10 12 rfl, zl_sk zx_L_10 13 rfl, zl_sk zx_L_11 6 rfl, zl_sk zx_L_0 0 rfl, zl_sk zx_L_11 7 rfl, trivial⟩ (by decide +kernel) ⟨zm_callok_of (ze_imN l) (zm_wk zk_lim 0 rfl) ⟨Nat.le_of_ble_eq_true rfl, Nat.le_of_ble_eq_true rfl⟩, zm_callok_of (ze_X10_image l) (zm_wk zk_L 147 rfl) ⟨Nat.le_of_ble_eq_true rfl, Nat.le_of_ble_eq_true rfl⟩, trivial⟩, by show zl_nr zBo_imN = true; decide +kernel⟩
set_option maxRecDepth 20000 in
theorem zl1_imN (xs : Nat → Int32) (M : zm_I) (k : zm_S → zm_R) : zm_step (zTo_imN xs) zL_C k (2061, zl_ls, [], M) = zm_app (2, some 9, false, [(0, 164)], zF_imN) zL_C [.ref 0, .int (xs 1)] M (fun v N => k (2070, zl_ls, v.toList ++ [], N)) := rfl
set_option maxRecDepth 20000 in
theorem zl2_imN (xs : Nat → Int32) (v : Int32) (M : zm_I) (k : zm_S → zm_R) : zm_step (zTo_imN xs) zL_C k (2070, zl_ls, [.int v], M) = zm_app (2, some 10, false, [(0, 31)], zF_X10_image) zL_C [.ref 165, .int (xs 1)] M (fun w N => k (2079, zl_ls, w.toList ++ [.int v], N)) := rfl
set_option maxRecDepth 20000 in
theorem zl3_imN (xs : Nat → Int32) (v w : Int32) (M : zm_I) (k : zm_S → zm_R) : zm_step (zTo_imN xs) zL_C k (2079, zl_ls, [.int w, .int v], M) = if v = w then k (2286, zl_ls, [], M) else k (2082, zl_ls, [], M) := rfl
set_option maxRecDepth 20000 in
theorem zlt_imN (xs : Nat → Int32) : zl_tl (zTo_imN xs) := ⟨fun _ _ _ => rfl, rfl, ⟨xs, rfl⟩, fun _ _ _ _ => rfl⟩
theorem zl_imN (xs : Nat → Int32) (M0 : zm_I) (h : xs 1 < 0 ∨ ¬ xs 1 < 3) : zl_ok (zTo_imN xs) zL_C M0 (2061, zl_ls, [], zL_M) := by
  have hi := fun (I : Nat → Nat → Int32) (J : Nat → Nat → Int64) => zgm_in32 (I := I) (J := J) (xs 1) 0 2 (B := 0) (C := 2) (by decide) (by decide)
  have he : (if xs 1 < 0 then (0 : Int32) else if 2 < xs 1 then 0 else 1) = 0 := by
    by_cases h0 : xs 1 < 0
    · rw [if_pos h0]
    · rw [if_neg h0, if_pos (zi_2.mpr (Int32.not_lt.mp (h.resolve_left h0)))]
  simp only [he] at hi
  exact zl_opI (zlt_imN xs) M0 (zl1_imN xs) (zl2_imN xs) (zl3_imN xs) (zl_callX (zpx_imN h) rfl rfl) (zl_callM (zpm_image_n (hi _ _)) rfl rfl)
-- within range: behind the class's call, in the world that has grown
set_option maxRecDepth 20000 in
theorem zl2_imY (xs : Nat → Int32) (wl : zm_L) (v : Int32) (M : zm_I) (k : zm_S → zm_R) : zm_step (zTo_imN xs) wl k (2070, zl_ls, [.int v], M) = zm_app (2, some 10, false, [(0, 31)], zF_X10_image) wl [.ref 165, .int (xs 1)] M (fun w N => k (2079, zl_ls, w.toList ++ [.int v], N)) := rfl
set_option maxRecDepth 20000 in
theorem zl3_imY (xs : Nat → Int32) (wl : zm_L) (v w : Int32) (M : zm_I) (k : zm_S → zm_R) : zm_step (zTo_imN xs) wl k (2079, zl_ls, [.int w, .int v], M) = if v = w then k (2286, zl_ls, [], M) else k (2082, zl_ls, [], M) := rfl
theorem zl_imYw (xs : Nat → Int32) (M0 M : zm_I) {wl : zm_L} (hw : zm_sub [(165, 31)] wl = zW_M) (hr : zm_recv wl [.ref 165, .int (xs 1)] (some 10) = true) (hd : (zm_dis [(165, 31)] && zm_bound wl.length [(165, 31)]) = true) {j : Nat} (hj : j < 3) (hx : xs 1 = Int32.ofNat j) : zl_ok (zTo_imN xs) wl M0 (2070, zl_ls, [.int 0], M) := by
  obtain ⟨N, hN⟩ := zpm_image (zm_sub2 [(165, 31)] M).1 (zm_sub2 [(165, 31)] M).2 hj
  rw [← hx] at hN
  have h2 : ∀ k, zm_app (2, some 10, false, [(0, 31)], zF_X10_image) wl [.ref 165, .int (xs 1)] M k = k (some (.int 0)) (zm_mrg [(165, 31)] M N) := fun k => zm_app_l (C := (2, some 10, false, [(0, 31)], zF_X10_image)) (wc := zW_M) (ac := [.ref 0, .int (xs 1)]) (bs := [(165, 31)]) hr rfl rfl hd hw rfl hN
  refine zl_ok_step (S' := (2079, zl_ls, [.int 0, .int 0], zm_mrg [(165, 31)] M N)) (fun k => (zl2_imY xs wl 0 M k).trans (h2 _)) ?_
  refine zl_ok_step (S' := (2286, zl_ls, [], zm_mrg [(165, 31)] M N)) (fun k => (zl3_imY xs wl 0 0 _ k).trans (if_pos rfl)) ?_
  exact zl_tail (zlt_imN xs) wl M0 _
set_option maxRecDepth 20000 in
theorem zl_imY (xs : Nat → Int32) (M0 M : zm_I) {j : Nat} (hj : j < 3) (hx : xs 1 = Int32.ofNat j) : zl_ok (zTo_imN xs) (zi_w j) M0 (2070, zl_ls, [.int 0], M) := by
  match j, hj with
  | 0, hj => exact zl_imYw xs M0 M zi_subM0 rfl rfl hj hx
  | 1, hj => exact zl_imYw xs M0 M zi_subM1 rfl rfl hj hx
  | 2, hj => exact zl_imYw xs M0 M zi_subM2 rfl rfl hj hx
  | n + 3, h => omega
theorem zi_wok {j : Nat} (hj : j < 3) : zm_wok (zi_w j) := by
  match j, hj with
  | 0, _ => exact zn_wokB_ok (by decide +kernel)
  | 1, _ => exact zn_wokB_ok (by decide +kernel)
  | 2, _ => exact zn_wokB_ok (by decide +kernel)
  | n + 3, h => omega
