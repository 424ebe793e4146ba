/-! IMAGE: its tables (printed by program, wip/law/genlaw.py) -/
def zA_img : List (Nat × Instr × Nat × Nat) := [(0, (.iload_n 1, 0, 0)), (1, (.ifCond .lt 8, 0, 0)), (4, (.iload_n 1, 0, 0)), (5, (.iconst 3, 0, 0)), (6, (.if_icmp .lt 6, 0, 0)), (9, (.bipush (-2), 0, 0)), (11, (.ireturn, 0, 0)), (12, (.aload_n 0, 0, 0)), (13, (.getfield 26, 9, 3)), (16, (.iload_n 1, 0, 0)), (17, (.aaload, 0, 0)), (18, (.astore_n 2, 0, 0)), (19, (.aload_n 2, 0, 0)), (20, (.ifnonnull 18, 0, 0)), (23, (.new 16, 0, 0)), (26, (.dup, 0, 0)), (27, (.invokespecial 18, 1, 0)), (30, (.astore_n 2, 0, 0)), (31, (.aload_n 0, 0, 0)), (32, (.getfield 26, 9, 3)), (35, (.iload_n 1, 0, 0)), (36, (.aload_n 2, 0, 0)), (37, (.aastore, 0, 0))]
def zw_img : List (Nat × List (Nat × Jvm.Cond)) := [(1, [(3, .initialized RX0), (60, .classLink RX9 16 RX0), (61, .instantiable RX0 17)]), (2, [(120, .fieldLink RX9 26 "WearingBench" "images" "[LWearingBench$Bench;")])]
theorem zk_img : zm_walks zw_img = true := by decide +kernel
def zU_img : zn_T := (zA_img, [(18, (zN_X0_init, 9, 154))], 10, 171)
def zR_img : Room := { frames := 3, cells := 10, slots := 171, locals := 100 }
theorem zx_img (l : Launch) : zn_ok l zR_img RX9 cX9_image zU_img := zn_ok_of zk_img (by decide +kernel) ⟨zn_callok_of (zo_X0_init l) rfl rfl ⟨Nat.le_of_ble_eq_true rfl, Nat.le_of_ble_eq_true rfl⟩ (zm_cw 1 64 rfl rfl) (Or.inr (by decide +kernel)) (zo_X0_init_w.1) (zo_X0_init_w.2) rfl ⟨by decide, by decide, by decide +kernel⟩, trivial⟩ ⟨Nat.le_of_ble_eq_true rfl, Nat.le_of_ble_eq_true rfl⟩
def zB_im : List (Nat × List (Instr × Nat × Nat)) := [(0, [(.iload_n 1, 0, 0), (.ifCond .lt 8, 0, 0)]), (4, [(.iload_n 1, 0, 0), (.iconst 3, 0, 0), (.if_icmp .lt 6, 0, 0)]), (9, [(.bipush (-2), 0, 0), (.ireturn, 0, 0)]), (12, [(.aload_n 0, 0, 0), (.getfield 26, 9, 3), (.iload_n 1, 0, 0), (.aaload, 0, 0), (.astore_n 2, 0, 0), (.aload_n 2, 0, 0), (.ifnonnull 18, 0, 0)]), (38, [(.aload_n 2, 0, 0), (.aload_n 0, 0, 0), (.getfield 19, 9, 1), (.invokevirtual 102, 0, 0)]), (46, [(.iconst 0, 0, 0), (.ireturn, 0, 0)])]
def zw_im : List (Nat × List (Nat × Jvm.Cond)) := [(2, [(118, .fieldLink RX9 19 "WearingBench" "now" "LWearingBench$Bench;"), (120, .fieldLink RX9 26 "WearingBench" "images" "[LWearingBench$Bench;")]), (3, [(59, .methodLink RX9 102 yX0_copyFrom)])]
theorem zk_im : zm_walks zw_im = true := by decide +kernel
noncomputable def zT_im : zm_T := (zB_im, [], [(102, (2, some 0, false, [(0, 10), (1, 10)], zF_X0_copyFrom))], some .int, none)
theorem zx_im (l : Launch) : zm_ok l zR_img RX9 cX9_image zT_im := zm_ok_of (fl := [(19, 9, 1), (26, 9, 3)]) zR_img zk_im (by decide +kernel) ⟨Nat.le_refl _, Nat.le_refl _⟩ ⟨zm_callok_of (ze_X0_copyFrom l) (zm_wk zk_im 2 rfl) ⟨Nat.le_of_ble_eq_true rfl, Nat.le_of_ble_eq_true rfl⟩, trivial⟩
noncomputable def zF_im : zm_L → List Value → zm_I → zm_R := zm_F zm_V zT_im 3
def zR_im : Room := { frames := 3, cells := 0, slots := 0, locals := 100 }
theorem ze_im (l : Launch) : zm_cee l yX9_image cX9_image 3 (some .int) zR_im 1 2 (some 9) zF_im := ⟨zm_con (T := zT_im) (by decide) (zm_ok_of (fl := [(19, 9, 1), (26, 9, 3)]) zR_im zk_im (by decide +kernel) ⟨Nat.le_refl _, Nat.le_refl _⟩ ⟨zm_callok_of (ze_X0_copyFrom l) (zm_wk zk_im 2 rfl) ⟨Nat.le_of_ble_eq_true rfl, Nat.le_of_ble_eq_true rfl⟩, trivial⟩), rfl, rfl, zm_cw 5 206 rfl rfl, zm_cw 1 1 rfl rfl, ⟨by decide, by decide, by decide +kernel⟩, rfl, zm_cw 5 204 rfl rfl, zm_cw 5 205 rfl rfl, ⟨_, rfl, rfl⟩⟩
theorem zl_simg : zm_sok room_1 R_law code [(.aload_n 1, 0, 0), (.aload_n 0, 0, 0), (.iload_n 3, 0, 0), (.iconst 1, 0, 0), (.iadd, 0, 0), (.iaload, 0, 0)] 2058 := zm_sokB_ok (zm_walk_ok zk_L) (R := room_1) ⟨Nat.le_refl _, Nat.le_refl _⟩ (fl := []) rfl _ _ (by decide +kernel)
theorem zl_simg2 : zm_sok room_1 R_law code [(.aload_n 1, 0, 0), (.aload_n 0, 0, 0), (.iload_n 3, 0, 0), (.iconst 1, 0, 0), (.iadd, 0, 0), (.iaload, 0, 0), (.invokevirtual 300, 0, 0)] 2058 := zl_sk zx_L_21 4 rfl
def zp_img : Nat := 2058
def zp_imc : Nat := 2064
def zp_im1 : Nat := 2067
theorem zf_dimg : decode code zp_imc = .ok (.invokevirtual 300, 3) := by decide +kernel
def zBo_i1 : List (Nat × List (Instr × Nat × Nat)) := [(2058, [(.aload_n 1, 0, 0), (.aload_n 0, 0, 0), (.iload_n 3, 0, 0), (.iconst 1, 0, 0), (.iadd, 0, 0), (.iaload, 0, 0)])]
noncomputable def zTo_i1 (L : Nat) (xs : Nat → Int32) : zm_T := (zBo_i1, [], [], ret, some (L, xs))
theorem zxo_i1 (l : Launch) (L : Nat) (xs : Nat → Int32) : zm_ok l room_1 R_law code (zTo_i1 L xs) ∧ zl_nr (zTo_i1 L xs).1 = true := ⟨zx_of ⟨zl_simg, trivial⟩ rfl trivial, by show zl_nr zBo_i1 = true; decide +kernel⟩
set_option maxRecDepth 20000 in
theorem zl1_i1 {L j : Nat} (h : 6 * j + 6 ≤ L ∧ L ≤ 3072) (xs : Nat → Int32) (wl : zm_L) (M : zm_I) (k : zm_S → zm_R) : zm_step (zTo_i1 L xs) wl k (2058, zl_lb (zl_i j), [], M) = k (zp_imc, zl_lb (zl_i j), [.int (xs (6 * j + 1)), .ref 0], M) := (show zm_step (zTo_i1 L xs) wl k (2058, zl_lb (zl_i j), [], M) = zl_rd L xs (zl_i j + Int32.ofNat 1) (fun v => k (zp_imc, zl_lb (zl_i j), [.int v, .ref 0], M)) from rfl).trans (zl_rd_o h 1 (by decide))
def zBo_i2 : List (Nat × List (Instr × Nat × Nat)) := [(2058, [(.aload_n 1, 0, 0), (.aload_n 0, 0, 0), (.iload_n 3, 0, 0), (.iconst 1, 0, 0), (.iadd, 0, 0), (.iaload, 0, 0), (.invokevirtual 300, 0, 0)])]
noncomputable def zTo_i2 (L : Nat) (xs : Nat → Int32) : zm_T := (zBo_i2, [], [(300, (2, some 9, true, [], zF_im))], ret, some (L, xs))
theorem zxo_i2 (l : Launch) (L : Nat) (xs : Nat → Int32) : zm_ok l room_1 R_law code (zTo_i2 L xs) ∧ zl_nr (zTo_i2 L xs).1 = true := ⟨zx_of ⟨zl_simg2, trivial⟩ (by decide +kernel) ⟨zm_callok_of (ze_im l) (zm_wk zk_L 70 rfl) ⟨Nat.le_of_ble_eq_true rfl, Nat.le_of_ble_eq_true rfl⟩, trivial⟩, by show zl_nr zBo_i2 = true; decide +kernel⟩
set_option maxRecDepth 20000 in
theorem zl1_i2 {L j : Nat} (h : 6 * j + 6 ≤ L ∧ L ≤ 3072) (xs : Nat → Int32) (wl : zm_L) (M : zm_I) (k : zm_S → zm_R) : zm_step (zTo_i2 L xs) wl k (2058, zl_lb (zl_i j), [], M) = zm_app (2, some 9, true, [], zF_im) wl [.ref 0, .int (xs (6 * j + 1))] M (fun v N => k (zp_im1, zl_lb (zl_i j), v.toList ++ [], N)) := (show zm_step (zTo_i2 L xs) wl k (2058, zl_lb (zl_i j), [], M) = zl_rd L xs (zl_i j + Int32.ofNat 1) (fun a => zm_app (2, some 9, true, [], zF_im) wl [.ref 0, .int a] M (fun v N => k (zp_im1, zl_lb (zl_i j), v.toList ++ [], N))) from rfl).trans (zl_rd_o h 1 (by decide))
theorem zw_imL : Jvm.Cond.methodLink R_law 300 yX9_image ∈ zm_tbl := zm_wk zk_L 70 rfl
theorem zw_imW : Jvm.Cond.code yX9_image cX9_image 3 (some .int) ∈ zm_tbl ∧ Jvm.Cond.initialized RX9 ∈ zm_tbl ∧ Jvm.Cond.instanceMethod yX9_image ∈ zm_tbl ∧ Jvm.Cond.selects RX9 yX9_image yX9_image ∈ zm_tbl := ⟨zm_cw 5 206 rfl rfl, zm_cw 1 1 rfl rfl, zm_cw 5 204 rfl rfl, zm_cw 5 205 rfl rfl⟩
def zp_imi : Nat := 300
def zp_back : Nat := 2081
def zp_bk1 : Nat := 2090
