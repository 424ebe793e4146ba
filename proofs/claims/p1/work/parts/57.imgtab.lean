/-! IMAGE: its table (printed by program) -/
def zA_img : List (Nat × Instr × Nat × Nat) := [(0, (.iload_n 1, 0, 0)), (1, (.ifCond .lt 8, 0, 0)), (4, (.iload_n 1, 0, 0)), (5, (.iconst 3, 0, 0)), (6, (.if_icmp .lt 6, 0, 0)), (9, (.bipush (-2), 0, 0)), (11, (.ireturn, 0, 0)), (12, (.aload_n 0, 0, 0)), (13, (.getfield 26, 9, 3)), (16, (.iload_n 1, 0, 0)), (17, (.aaload, 0, 0)), (18, (.astore_n 2, 0, 0)), (19, (.aload_n 2, 0, 0)), (20, (.ifnonnull 18, 0, 0)), (23, (.new 16, 0, 0)), (26, (.dup, 0, 0)), (27, (.invokespecial 18, 1, 0)), (30, (.astore_n 2, 0, 0)), (31, (.aload_n 0, 0, 0)), (32, (.getfield 26, 9, 3)), (35, (.iload_n 1, 0, 0)), (36, (.aload_n 2, 0, 0)), (37, (.aastore, 0, 0))]
def zw_img : List (Nat × List (Nat × Jvm.Cond)) := [(1, [(3, .initialized RX0), (60, .classLink RX9 16 RX0), (61, .instantiable RX0 17)]), (2, [(120, .fieldLink RX9 26 "WearingBench" "images" "[LWearingBench$Bench;")])]
theorem zk_img : zm_walks zw_img = true := by decide +kernel
def zU_img : zn_T := (zA_img, [(18, (zN_X0_init, 9, 154))], 10, 171)
def zR_img : Room := { frames := 3, cells := 10, slots := 171, locals := 100 }
theorem zx_img (l : Launch) : zn_ok l zR_img RX9 cX9_image zU_img := zn_ok_of zk_img (by decide +kernel) ⟨zn_callok_of (zo_X0_init l) rfl rfl ⟨Nat.le_of_ble_eq_true rfl, Nat.le_of_ble_eq_true rfl⟩ (zm_cw 1 64 rfl rfl) (Or.inr (by decide +kernel)) (zo_X0_init_w.1) (zo_X0_init_w.2) rfl ⟨by decide, by decide, by decide +kernel⟩, trivial⟩ ⟨Nat.le_of_ble_eq_true rfl, Nat.le_of_ble_eq_true rfl⟩
def zH_img : zn_H := [(18, zh_X0_init)]
theorem zH_img_ok : zn_Gok zH_img zU_img := zn_allG_ok ⟨rfl, zh_X0_init_ok, trivial⟩
