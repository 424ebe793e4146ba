/-! 34.ctors, 35.wrote -/
section
/-! TABLES OF THE CONSTRUCTORS, printed by program (wip/gen/gen34.py) -/
def zn_iokB (zw : List Jvm.Cond) (R : Room) (own : String) (i : Instr) (a b : Nat) : Bool := match i with
  | .new idx => match zm_cl[a]? with
    | some r => zm_hasW zw (.classLink own idx r.1) && zm_hasW zw (.instantiable r.1 r.2.2) && zm_hasW zw (.initialized r.1)
    | none => false
  | .newarray t => zm_hasW zw (.arrayClass (newarray.typeOf t))
  | .anewarray idx => match zm_cl[a]? with
    | some r => zm_hasW zw (.classLink own idx r.1)
    | none => false
  | .putfield idx => zm_fokB zw own (idx, a, b) && decide (own = zn_nm a)
  | .getfield idx => zm_fokB zw own (idx, a, b)
  | .invokespecial idx => match a with
    | 0 => Nat.ble 1 R.frames && Nat.ble 20 R.locals && zm_hasW zw (.methodLink own idx Lib.objectInit) && zm_hasW zw (.instanceMethod Lib.objectInit) && zm_hasW zw (.code Lib.objectInit ⟨#[0xb1]⟩ 1 none)
    | _ => true
  | _ => true
theorem zn_iokB_ok {zw : List Jvm.Cond} (hz : ∀ q ∈ zw, q ∈ zm_tbl) {R : Room} {own : String} {i : Instr} {a b : Nat} (h : zn_iokB zw R own i a b = true) : zn_iok R own i a b := by
  cases i
  case new idx =>
    simp only [zn_iokB] at h
    split at h
    · next r hr =>
      simp only [Bool.and_eq_true] at h
      exact ⟨r, hr, zm_hasW_ok hz h.1.1, zm_hasW_ok hz h.1.2, zm_hasW_ok hz h.2⟩
    · cases h
  case newarray t => exact zm_hasW_ok hz h
  case anewarray idx =>
    simp only [zn_iokB] at h
    split at h
    · next r hr => exact ⟨r, hr, zm_hasW_ok hz h⟩
    · cases h
  case putfield idx =>
    simp only [zn_iokB, Bool.and_eq_true, decide_eq_true_eq] at h
    exact ⟨zm_fokB_ok hz h.1, h.2⟩
  case getfield idx => exact zm_fokB_ok hz h
  case invokespecial idx =>
    intro ha
    subst ha
    simp only [zn_iokB, Bool.and_eq_true, Nat.ble_eq] at h
    exact ⟨h.1.1.1.1, h.1.1.1.2, zm_hasW_ok hz h.1.1.2, zm_hasW_ok hz h.1.2, zm_hasW_ok hz h.2⟩
  all_goals exact trivial
theorem zn_ok_of {zc : List (Nat × List (Nat × Jvm.Cond))} {l : Launch} {R : Room} {own : String} {cc : ByteArray} {T : zn_T} (hw : zm_walks zc = true) (h : T.1.all (fun q => zn_dec cc q.1 q.2.1 && zn_iokB (zm_flat zc) R own q.2.1 q.2.2.1 q.2.2.2) = true) (hc : zm_allP (zn_callok l R own) T.2.1) (hr : T.2.2.1 ≤ R.cells ∧ T.2.2.2 ≤ R.slots) : zn_ok l R own cc T := by
  have hz := zm_walk_ok hw
  refine ⟨fun pc x hx => ?_, zm_ok3 hc, hr⟩
  have := List.all_eq_true.mp h _ (zm_look_mem hx)
  simp only [Bool.and_eq_true] at this
  exact ⟨this.1, zn_iokB_ok hz this.2⟩
theorem zn_callok_of {l : Launch} {y : MethodName} {bytes : ByteArray} {maxL : Nat} {rm : Room} {C : zn_C} (h : zn_Con l y bytes maxL rm C) (h2 : rm.cells = C.2.1) (h3 : rm.slots = C.2.2) {R : Room} {own : String} {idx : Nat} (hR : rm.frames + 1 ≤ R.frames ∧ 8 + (maxL + 11) + rm.locals ≤ R.locals) (h4 : Jvm.Cond.code y bytes maxL none ∈ zm_tbl) (hl : Jvm.Cond.methodLink own idx y ∈ zm_tbl ∨ (own, idx, y) ∈ zn_nest) (h5 : Jvm.Cond.initialized y.cls ∈ zm_tbl) (h6 : Jvm.Cond.instanceMethod y ∈ zm_tbl) (h7 : y.name = "<init>") (h8 : y.cls ≠ "java/lang/invoke/MethodHandle" ∧ y.cls ≠ "java/lang/invoke/VarHandle" ∧ (parseMethodDescriptor y.desc).map (fun d => d.parameters.length) = some 0) : zn_callok l R own idx C := ⟨y, bytes, maxL, rm, h, h2, h3, hR, h4, hl, h5, h6, h7, h8⟩
def zA_X0_init : List (Nat × Instr × Nat × Nat) := [(0, (.aload_n 0, 0, 0)), (1, (.invokespecial 3, 0, 0)), (4, (.aload_n 0, 0, 0)), (5, (.bipush 6, 0, 0)), (7, (.newarray .int, 0, 0)), (9, (.putfield 9, 0, 8)), (12, (.aload_n 0, 0, 0)), (13, (.iconst 5, 0, 0)), (14, (.newarray .int, 0, 0)), (16, (.putfield 15, 0, 9)), (19, (.aload_n 0, 0, 0)), (20, (.iconst 5, 0, 0)), (21, (.newarray .int, 0, 0)), (23, (.putfield 18, 0, 10)), (26, (.aload_n 0, 0, 0)), (27, (.iconst 5, 0, 0)), (28, (.newarray .int, 0, 0)), (30, (.putfield 21, 0, 11)), (33, (.aload_n 0, 0, 0)), (34, (.iconst 5, 0, 0)), (35, (.newarray .int, 0, 0)), (37, (.putfield 24, 0, 12)), (40, (.aload_n 0, 0, 0)), (41, (.iconst 5, 0, 0)), (42, (.newarray .int, 0, 0)), (44, (.putfield 27, 0, 13)), (47, (.aload_n 0, 0, 0)), (48, (.bipush 41, 0, 0)), (50, (.newarray .int, 0, 0)), (52, (.putfield 30, 0, 14)), (55, (.aload_n 0, 0, 0)), (56, (.bipush 41, 0, 0)), (58, (.newarray .int, 0, 0)), (60, (.putfield 33, 0, 15)), (63, (.aload_n 0, 0, 0)), (64, (.bipush 41, 0, 0)), (66, (.newarray .int, 0, 0)), (68, (.putfield 36, 0, 16))]
def zw_X0_init : List (Nat × List (Nat × Jvm.Cond)) := [(1, [(3, .initialized RX0), (26, .instanceMethod Lib.objectInit), (27, .code Lib.objectInit ⟨#[0xb1]⟩ 1 none), (59, .arrayClass .int), (63, .instanceMethod yX0_init), (65, .methodLink RX0 3 Lib.objectInit), (101, .fieldLink RX0 9 "WearingBench$Bench" "gives" "[I"), (105, .fieldLink RX0 15 "WearingBench$Bench" "age" "[I"), (109, .fieldLink RX0 18 "WearingBench$Bench" "comes" "[I"), (114, .fieldLink RX0 21 "WearingBench$Bench" "seat" "[I"), (120, .fieldLink RX0 24 "WearingBench$Bench" "least" "[I"), (124, .fieldLink RX0 27 "WearingBench$Bench" "most" "[I"), (128, .fieldLink RX0 30 "WearingBench$Bench" "actCaller" "[I"), (130, .fieldLink RX0 33 "WearingBench$Bench" "actSeat" "[I"), (132, .fieldLink RX0 36 "WearingBench$Bench" "actMinute" "[I")])]
theorem zk_X0_init : zm_walks zw_X0_init = true := by decide +kernel
def zU_X0_init : zn_T := (zA_X0_init, [], 9, 154)
def zR_X0_init : Room := { frames := 1, cells := 9, slots := 154, locals := 20 }
theorem zx_X0_init (l : Launch) : zn_ok l zR_X0_init RX0 cX0_init zU_X0_init := zn_ok_of zk_X0_init (by decide +kernel) trivial ⟨Nat.le_of_ble_eq_true rfl, Nat.le_of_ble_eq_true rfl⟩
def zN_X0_init : zn_F := zn_run zU_X0_init 1 71 39
theorem zo_X0_init (l : Launch) : zn_Con l yX0_init cX0_init 1 zR_X0_init (zN_X0_init, 9, 154) := zn_con (T := zU_X0_init) (by decide) rfl (zx_X0_init l) (by decide +kernel)
theorem zo_X0_init_w : Jvm.Cond.initialized RX0 ∈ zm_tbl ∧ Jvm.Cond.instanceMethod yX0_init ∈ zm_tbl := ⟨zm_wk zk_X0_init 0 rfl, zm_wk zk_X0_init 4 rfl⟩
def zA_X2_init : List (Nat × Instr × Nat × Nat) := [(0, (.aload_n 0, 0, 0)), (1, (.invokespecial 3, 0, 0)), (4, (.aload_n 0, 0, 0)), (5, (.iconst 5, 0, 0)), (6, (.newarray .int, 0, 0)), (8, (.putfield 9, 2, 0)), (11, (.aload_n 0, 0, 0)), (12, (.iconst 5, 0, 0)), (13, (.newarray .int, 0, 0)), (15, (.putfield 15, 2, 1)), (18, (.aload_n 0, 0, 0)), (19, (.iconst 5, 0, 0)), (20, (.newarray .int, 0, 0)), (22, (.putfield 18, 2, 2)), (25, (.aload_n 0, 0, 0)), (26, (.iconst 5, 0, 0)), (27, (.newarray .int, 0, 0)), (29, (.putfield 21, 2, 3)), (32, (.aload_n 0, 0, 0)), (33, (.iconst 5, 0, 0)), (34, (.newarray .int, 0, 0)), (36, (.putfield 24, 2, 4)), (39, (.aload_n 0, 0, 0)), (40, (.iconst 5, 0, 0)), (41, (.newarray .int, 0, 0)), (43, (.putfield 27, 2, 5)), (46, (.aload_n 0, 0, 0)), (47, (.bipush 6, 0, 0)), (49, (.newarray .int, 0, 0)), (51, (.putfield 30, 2, 6))]
def zw_X2_init : List (Nat × List (Nat × Jvm.Cond)) := [(1, [(5, .initialized RX2), (26, .instanceMethod Lib.objectInit), (27, .code Lib.objectInit ⟨#[0xb1]⟩ 1 none), (59, .arrayClass .int), (181, .instanceMethod yX2_init), (183, .methodLink RX2 3 Lib.objectInit), (184, .fieldLink RX2 9 "WearingBench$Day" "place" "[I"), (187, .fieldLink RX2 15 "WearingBench$Day" "years" "[I"), (189, .fieldLink RX2 18 "WearingBench$Day" "seatBefore" "[I"), (190, .fieldLink RX2 21 "WearingBench$Day" "minutesKept" "[I"), (191, .fieldLink RX2 24 "WearingBench$Day" "wentAt" "[I"), (193, .fieldLink RX2 27 "WearingBench$Day" "wentAge" "[I"), (196, .fieldLink RX2 30 "WearingBench$Day" "sitter" "[I")])]
theorem zk_X2_init : zm_walks zw_X2_init = true := by decide +kernel
def zU_X2_init : zn_T := (zA_X2_init, [], 7, 36)
def zR_X2_init : Room := { frames := 1, cells := 7, slots := 36, locals := 20 }
theorem zx_X2_init (l : Launch) : zn_ok l zR_X2_init RX2 cX2_init zU_X2_init := zn_ok_of zk_X2_init (by decide +kernel) trivial ⟨Nat.le_of_ble_eq_true rfl, Nat.le_of_ble_eq_true rfl⟩
def zN_X2_init : zn_F := zn_run zU_X2_init 1 54 31
theorem zo_X2_init (l : Launch) : zn_Con l yX2_init cX2_init 1 zR_X2_init (zN_X2_init, 7, 36) := zn_con (T := zU_X2_init) (by decide) rfl (zx_X2_init l) (by decide +kernel)
theorem zo_X2_init_w : Jvm.Cond.initialized RX2 ∈ zm_tbl ∧ Jvm.Cond.instanceMethod yX2_init ∈ zm_tbl := ⟨zm_wk zk_X2_init 0 rfl, zm_wk zk_X2_init 4 rfl⟩
def zA_X4_init : List (Nat × Instr × Nat × Nat) := [(0, (.aload_n 0, 0, 0)), (1, (.invokespecial 3, 0, 0)), (4, (.aload_n 0, 0, 0)), (5, (.bipush 36, 0, 0)), (7, (.newarray .int, 0, 0)), (9, (.putfield 9, 4, 2))]
def zw_X4_init : List (Nat × List (Nat × Jvm.Cond)) := [(1, [(9, .initialized RX4), (26, .instanceMethod Lib.objectInit), (27, .code Lib.objectInit ⟨#[0xb1]⟩ 1 none), (59, .arrayClass .int)]), (2, [(84, .instanceMethod yX4_init), (86, .methodLink RX4 3 Lib.objectInit), (91, .fieldLink RX4 9 "WearingBench$Game" "toldBits" "[I")])]
theorem zk_X4_init : zm_walks zw_X4_init = true := by decide +kernel
def zU_X4_init : zn_T := (zA_X4_init, [], 1, 36)
def zR_X4_init : Room := { frames := 1, cells := 1, slots := 36, locals := 20 }
theorem zx_X4_init (l : Launch) : zn_ok l zR_X4_init RX4 cX4_init zU_X4_init := zn_ok_of zk_X4_init (by decide +kernel) trivial ⟨Nat.le_of_ble_eq_true rfl, Nat.le_of_ble_eq_true rfl⟩
def zN_X4_init : zn_F := zn_run zU_X4_init 1 12 7
theorem zo_X4_init (l : Launch) : zn_Con l yX4_init cX4_init 1 zR_X4_init (zN_X4_init, 1, 36) := zn_con (T := zU_X4_init) (by decide) rfl (zx_X4_init l) (by decide +kernel)
theorem zo_X4_init_w : Jvm.Cond.initialized RX4 ∈ zm_tbl ∧ Jvm.Cond.instanceMethod yX4_init ∈ zm_tbl := ⟨zm_wk zk_X4_init 0 rfl, zm_wk zk_X4_init 4 rfl⟩
def zA_X5_init : List (Nat × Instr × Nat × Nat) := [(0, (.aload_n 0, 0, 0)), (1, (.invokespecial 3, 0, 0)), (4, (.aload_n 0, 0, 0)), (5, (.bipush 10, 0, 0)), (7, (.newarray .int, 0, 0)), (9, (.putfield 9, 5, 1)), (12, (.aload_n 0, 0, 0)), (13, (.bipush 10, 0, 0)), (15, (.newarray .int, 0, 0)), (17, (.putfield 15, 5, 2))]
def zw_X5_init : List (Nat × List (Nat × Jvm.Cond)) := [(1, [(8, .initialized RX5), (26, .instanceMethod Lib.objectInit), (27, .code Lib.objectInit ⟨#[0xb1]⟩ 1 none), (59, .arrayClass .int)]), (2, [(66, .instanceMethod yX5_init), (68, .methodLink RX5 3 Lib.objectInit), (71, .fieldLink RX5 9 "WearingBench$Pile" "order" "[I"), (73, .fieldLink RX5 15 "WearingBench$Pile" "beneath" "[I")])]
theorem zk_X5_init : zm_walks zw_X5_init = true := by decide +kernel
def zU_X5_init : zn_T := (zA_X5_init, [], 2, 20)
def zR_X5_init : Room := { frames := 1, cells := 2, slots := 20, locals := 20 }
theorem zx_X5_init (l : Launch) : zn_ok l zR_X5_init RX5 cX5_init zU_X5_init := zn_ok_of zk_X5_init (by decide +kernel) trivial ⟨Nat.le_of_ble_eq_true rfl, Nat.le_of_ble_eq_true rfl⟩
def zN_X5_init : zn_F := zn_run zU_X5_init 1 20 11
theorem zo_X5_init (l : Launch) : zn_Con l yX5_init cX5_init 1 zR_X5_init (zN_X5_init, 2, 20) := zn_con (T := zU_X5_init) (by decide) rfl (zx_X5_init l) (by decide +kernel)
theorem zo_X5_init_w : Jvm.Cond.initialized RX5 ∈ zm_tbl ∧ Jvm.Cond.instanceMethod yX5_init ∈ zm_tbl := ⟨zm_wk zk_X5_init 0 rfl, zm_wk zk_X5_init 4 rfl⟩
def zA_X6_init : List (Nat × Instr × Nat × Nat) := [(0, (.aload_n 0, 0, 0)), (1, (.invokespecial 3, 0, 0)), (4, (.aload_n 0, 0, 0)), (5, (.iconst 5, 0, 0)), (6, (.newarray .int, 0, 0)), (8, (.putfield 9, 6, 3)), (11, (.aload_n 0, 0, 0)), (12, (.iconst 5, 0, 0)), (13, (.newarray .int, 0, 0)), (15, (.putfield 15, 6, 4)), (18, (.aload_n 0, 0, 0)), (19, (.iconst 5, 0, 0)), (20, (.newarray .int, 0, 0)), (22, (.putfield 18, 6, 5))]
def zw_X6_init : List (Nat × List (Nat × Jvm.Cond)) := [(1, [(6, .initialized RX6), (26, .instanceMethod Lib.objectInit), (27, .code Lib.objectInit ⟨#[0xb1]⟩ 1 none), (59, .arrayClass .int)]), (2, [(5, .instanceMethod yX6_init), (7, .methodLink RX6 3 Lib.objectInit), (14, .fieldLink RX6 9 "WearingBench$Planner" "row" "[I"), (16, .fieldLink RX6 15 "WearingBench$Planner" "order" "[I"), (17, .fieldLink RX6 18 "WearingBench$Planner" "leastTold" "[I")])]
theorem zk_X6_init : zm_walks zw_X6_init = true := by decide +kernel
def zU_X6_init : zn_T := (zA_X6_init, [], 3, 15)
def zR_X6_init : Room := { frames := 1, cells := 3, slots := 15, locals := 20 }
theorem zx_X6_init (l : Launch) : zn_ok l zR_X6_init RX6 cX6_init zU_X6_init := zn_ok_of zk_X6_init (by decide +kernel) trivial ⟨Nat.le_of_ble_eq_true rfl, Nat.le_of_ble_eq_true rfl⟩
def zN_X6_init : zn_F := zn_run zU_X6_init 1 25 15
theorem zo_X6_init (l : Launch) : zn_Con l yX6_init cX6_init 1 zR_X6_init (zN_X6_init, 3, 15) := zn_con (T := zU_X6_init) (by decide) rfl (zx_X6_init l) (by decide +kernel)
theorem zo_X6_init_w : Jvm.Cond.initialized RX6 ∈ zm_tbl ∧ Jvm.Cond.instanceMethod yX6_init ∈ zm_tbl := ⟨zm_wk zk_X6_init 0 rfl, zm_wk zk_X6_init 4 rfl⟩
def zA_X7_init : List (Nat × Instr × Nat × Nat) := [(0, (.aload_n 0, 0, 0)), (1, (.invokespecial 3, 0, 0)), (4, (.aload_n 0, 0, 0)), (5, (.iconst (-1), 0, 0)), (6, (.putfield 9, 7, 0)), (9, (.aload_n 0, 0, 0)), (10, (.bipush 60, 0, 0)), (12, (.newarray .long, 0, 0)), (14, (.putfield 15, 7, 2))]
def zw_X7_init : List (Nat × List (Nat × Jvm.Cond)) := [(1, [(10, .initialized RX7), (26, .instanceMethod Lib.objectInit), (27, .code Lib.objectInit ⟨#[0xb1]⟩ 1 none)]), (2, [(62, .arrayClass .long), (101, .instanceMethod yX7_init), (103, .methodLink RX7 3 Lib.objectInit), (104, .fieldLink RX7 9 "WearingBench$Row" "width" "I"), (109, .fieldLink RX7 15 "WearingBench$Row" "numbers" "[J")])]
theorem zk_X7_init : zm_walks zw_X7_init = true := by decide +kernel
def zU_X7_init : zn_T := (zA_X7_init, [], 1, 60)
def zR_X7_init : Room := { frames := 1, cells := 1, slots := 60, locals := 20 }
theorem zx_X7_init (l : Launch) : zn_ok l zR_X7_init RX7 cX7_init zU_X7_init := zn_ok_of zk_X7_init (by decide +kernel) trivial ⟨Nat.le_of_ble_eq_true rfl, Nat.le_of_ble_eq_true rfl⟩
def zN_X7_init : zn_F := zn_run zU_X7_init 1 17 10
theorem zo_X7_init (l : Launch) : zn_Con l yX7_init cX7_init 1 zR_X7_init (zN_X7_init, 1, 60) := zn_con (T := zU_X7_init) (by decide) rfl (zx_X7_init l) (by decide +kernel)
theorem zo_X7_init_w : Jvm.Cond.initialized RX7 ∈ zm_tbl ∧ Jvm.Cond.instanceMethod yX7_init ∈ zm_tbl := ⟨zm_wk zk_X7_init 0 rfl, zm_wk zk_X7_init 4 rfl⟩
def zA_X8_init : List (Nat × Instr × Nat × Nat) := [(0, (.aload_n 0, 0, 0)), (1, (.invokespecial 3, 0, 0)), (4, (.aload_n 0, 0, 0)), (5, (.sipush 800, 0, 0)), (8, (.newarray .int, 0, 0)), (10, (.putfield 9, 8, 0)), (13, (.aload_n 0, 0, 0)), (14, (.iconst 0, 0, 0)), (15, (.putfield 15, 8, 2)), (18, (.aload_n 0, 0, 0)), (19, (.iconst (-1), 0, 0)), (20, (.putfield 19, 8, 3))]
def zw_X8_init : List (Nat × List (Nat × Jvm.Cond)) := [(1, [(2, .initialized RX8), (26, .instanceMethod Lib.objectInit), (27, .code Lib.objectInit ⟨#[0xb1]⟩ 1 none), (31, .instanceMethod yX8_init), (33, .methodLink RX8 3 Lib.objectInit), (34, .fieldLink RX8 9 "WearingBench$Tape" "bytes" "[I"), (37, .fieldLink RX8 15 "WearingBench$Tape" "fault" "I"), (39, .fieldLink RX8 19 "WearingBench$Tape" "place" "I"), (59, .arrayClass .int)])]
theorem zk_X8_init : zm_walks zw_X8_init = true := by decide +kernel
def zU_X8_init : zn_T := (zA_X8_init, [], 1, 800)
def zR_X8_init : Room := { frames := 1, cells := 1, slots := 800, locals := 20 }
theorem zx_X8_init (l : Launch) : zn_ok l zR_X8_init RX8 cX8_init zU_X8_init := zn_ok_of zk_X8_init (by decide +kernel) trivial ⟨Nat.le_of_ble_eq_true rfl, Nat.le_of_ble_eq_true rfl⟩
def zN_X8_init : zn_F := zn_run zU_X8_init 1 23 13
theorem zo_X8_init (l : Launch) : zn_Con l yX8_init cX8_init 1 zR_X8_init (zN_X8_init, 1, 800) := zn_con (T := zU_X8_init) (by decide) rfl (zx_X8_init l) (by decide +kernel)
theorem zo_X8_init_w : Jvm.Cond.initialized RX8 ∈ zm_tbl ∧ Jvm.Cond.instanceMethod yX8_init ∈ zm_tbl := ⟨zm_wk zk_X8_init 0 rfl, zm_wk zk_X8_init 3 rfl⟩
def zA_X3_init : List (Nat × Instr × Nat × Nat) := [(0, (.aload_n 0, 0, 0)), (1, (.invokespecial 3, 0, 0)), (4, (.aload_n 0, 0, 0)), (5, (.new 9, 2, 0)), (8, (.dup, 0, 0)), (9, (.invokespecial 11, 1, 0)), (12, (.putfield 12, 3, 0)), (15, (.aload_n 0, 0, 0)), (16, (.sipush 305, 0, 0)), (19, (.newarray .int, 0, 0)), (21, (.putfield 18, 3, 2)), (24, (.aload_n 0, 0, 0)), (25, (.sipush 305, 0, 0)), (28, (.newarray .int, 0, 0)), (30, (.putfield 22, 3, 3))]
def zw_X3_init : List (Nat × List (Nat × Jvm.Cond)) := [(1, [(4, .initialized RX3), (5, .initialized RX2), (26, .instanceMethod Lib.objectInit), (27, .code Lib.objectInit ⟨#[0xb1]⟩ 1 none), (59, .arrayClass .int), (175, .instanceMethod yX3_init), (177, .methodLink RX3 3 Lib.objectInit), (178, .classLink RX3 9 RX2), (179, .instantiable RX2 10), (225, .fieldLink RX3 12 "WearingBench$Diary" "day" "LWearingBench$Day;"), (229, .fieldLink RX3 18 "WearingBench$Diary" "ages" "[I"), (230, .fieldLink RX3 22 "WearingBench$Diary" "seats" "[I")])]
theorem zk_X3_init : zm_walks zw_X3_init = true := by decide +kernel
def zU_X3_init : zn_T := (zA_X3_init, [(11, (zN_X2_init, 7, 36))], 10, 656)
def zR_X3_init : Room := { frames := 2, cells := 10, slots := 656, locals := 40 }
theorem zx_X3_init (l : Launch) : zn_ok l zR_X3_init RX3 cX3_init zU_X3_init := zn_ok_of zk_X3_init (by decide +kernel) ⟨zn_callok_of (zo_X2_init l) rfl rfl ⟨Nat.le_of_ble_eq_true rfl, Nat.le_of_ble_eq_true rfl⟩ (zm_cw 1 182 rfl rfl) (Or.inr (by decide +kernel)) (zo_X2_init_w.1) (zo_X2_init_w.2) rfl ⟨by decide, by decide, by decide +kernel⟩, trivial⟩ ⟨Nat.le_of_ble_eq_true rfl, Nat.le_of_ble_eq_true rfl⟩
def zN_X3_init : zn_F := zn_run zU_X3_init 1 33 16
theorem zo_X3_init (l : Launch) : zn_Con l yX3_init cX3_init 1 zR_X3_init (zN_X3_init, 10, 656) := zn_con (T := zU_X3_init) (by decide) rfl (zx_X3_init l) (by decide +kernel)
theorem zo_X3_init_w : Jvm.Cond.initialized RX3 ∈ zm_tbl ∧ Jvm.Cond.instanceMethod yX3_init ∈ zm_tbl := ⟨zm_wk zk_X3_init 0 rfl, zm_wk zk_X3_init 5 rfl⟩
def zA_X1_init : List (Nat × Instr × Nat × Nat) := [(0, (.aload_n 0, 0, 0)), (1, (.invokespecial 3, 0, 0)), (4, (.aload_n 0, 0, 0)), (5, (.bipush 50, 0, 0)), (7, (.newarray .long, 0, 0)), (9, (.putfield 9, 1, 1)), (12, (.aload_n 0, 0, 0)), (13, (.bipush 50, 0, 0)), (15, (.newarray .long, 0, 0)), (17, (.putfield 15, 1, 2)), (20, (.aload_n 0, 0, 0)), (21, (.bipush 11, 0, 0)), (23, (.anewarray 18, 2, 0)), (26, (.putfield 20, 1, 3)), (29, (.iconst 0, 0, 0)), (30, (.istore_n 1, 0, 0)), (31, (.iload_n 1, 0, 0)), (32, (.bipush 10, 0, 0)), (34, (.if_icmp .gt 22, 0, 0)), (37, (.aload_n 0, 0, 0)), (38, (.getfield 20, 1, 3)), (41, (.iload_n 1, 0, 0)), (42, (.new 18, 2, 0)), (45, (.dup, 0, 0)), (46, (.invokespecial 24, 1, 0)), (49, (.aastore, 0, 0)), (50, (.iinc 1 1, 0, 0)), (53, (.goto (-22), 0, 0))]
def zw_X1_init : List (Nat × List (Nat × Jvm.Cond)) := [(1, [(5, .initialized RX2), (7, .initialized RX1), (26, .instanceMethod Lib.objectInit), (27, .code Lib.objectInit ⟨#[0xb1]⟩ 1 none), (179, .instantiable RX2 10)]), (2, [(37, .instanceMethod yX1_init), (39, .methodLink RX1 3 Lib.objectInit), (40, .classLink RX1 18 RX2), (45, .fieldLink RX1 9 "WearingBench$Chances" "going" "[J"), (47, .fieldLink RX1 15 "WearingBench$Chances" "telling" "[J"), (49, .fieldLink RX1 20 "WearingBench$Chances" "days" "[LWearingBench$Day;"), (62, .arrayClass .long)])]
theorem zk_X1_init : zm_walks zw_X1_init = true := by decide +kernel
def zU_X1_init : zn_T := (zA_X1_init, [(24, (zN_X2_init, 7, 36))], 91, 617)
def zR_X1_init : Room := { frames := 2, cells := 91, slots := 617, locals := 40 }
theorem zx_X1_init (l : Launch) : zn_ok l zR_X1_init RX1 cX1_init zU_X1_init := zn_ok_of zk_X1_init (by decide +kernel) ⟨zn_callok_of (zo_X2_init l) rfl rfl ⟨Nat.le_of_ble_eq_true rfl, Nat.le_of_ble_eq_true rfl⟩ (zm_cw 1 182 rfl rfl) (Or.inr (by decide +kernel)) (zo_X2_init_w.1) (zo_X2_init_w.2) rfl ⟨by decide, by decide, by decide +kernel⟩, trivial⟩ ⟨Nat.le_of_ble_eq_true rfl, Nat.le_of_ble_eq_true rfl⟩
def zN_X1_init : zn_F := zn_run zU_X1_init 2 56 152
theorem zo_X1_init (l : Launch) : zn_Con l yX1_init cX1_init 2 zR_X1_init (zN_X1_init, 91, 617) := zn_con (T := zU_X1_init) (by decide) rfl (zx_X1_init l) (by decide +kernel)
theorem zo_X1_init_w : Jvm.Cond.initialized RX1 ∈ zm_tbl ∧ Jvm.Cond.instanceMethod yX1_init ∈ zm_tbl := ⟨zm_wk zk_X1_init 1 rfl, zm_wk zk_X1_init 5 rfl⟩
def zA_X9_init : List (Nat × Instr × Nat × Nat) := [(0, (.aload_n 0, 0, 0)), (1, (.invokespecial 1, 0, 0)), (4, (.aload_n 0, 0, 0)), (5, (.new 7, 8, 0)), (8, (.dup, 0, 0)), (9, (.invokespecial 9, 1, 0)), (12, (.putfield 10, 9, 0)), (15, (.aload_n 0, 0, 0)), (16, (.new 16, 0, 0)), (19, (.dup, 0, 0)), (20, (.invokespecial 18, 1, 0)), (23, (.putfield 19, 9, 1)), (26, (.aload_n 0, 0, 0)), (27, (.new 16, 0, 0)), (30, (.dup, 0, 0)), (31, (.invokespecial 18, 1, 0)), (34, (.putfield 23, 9, 2)), (37, (.aload_n 0, 0, 0)), (38, (.iconst 3, 0, 0)), (39, (.anewarray 16, 0, 0)), (42, (.putfield 26, 9, 3)), (45, (.aload_n 0, 0, 0)), (46, (.iconst 4, 0, 0)), (47, (.anewarray 30, 7, 0)), (50, (.putfield 32, 9, 4)), (53, (.aload_n 0, 0, 0)), (54, (.new 36, 3, 0)), (57, (.dup, 0, 0)), (58, (.invokespecial 38, 1, 0)), (61, (.putfield 39, 9, 5)), (64, (.aload_n 0, 0, 0)), (65, (.new 36, 3, 0)), (68, (.dup, 0, 0)), (69, (.invokespecial 38, 1, 0)), (72, (.putfield 43, 9, 6)), (75, (.aload_n 0, 0, 0)), (76, (.new 46, 2, 0)), (79, (.dup, 0, 0)), (80, (.invokespecial 48, 1, 0)), (83, (.putfield 49, 9, 7)), (86, (.aload_n 0, 0, 0)), (87, (.new 53, 6, 0)), (90, (.dup, 0, 0)), (91, (.invokespecial 55, 1, 0)), (94, (.putfield 56, 9, 8)), (97, (.aload_n 0, 0, 0)), (98, (.new 60, 1, 0)), (101, (.dup, 0, 0)), (102, (.invokespecial 62, 1, 0)), (105, (.putfield 63, 9, 9)), (108, (.aload_n 0, 0, 0)), (109, (.new 67, 5, 0)), (112, (.dup, 0, 0)), (113, (.invokespecial 69, 1, 0)), (116, (.putfield 70, 9, 10)), (119, (.aload_n 0, 0, 0)), (120, (.new 74, 4, 0)), (123, (.dup, 0, 0)), (124, (.invokespecial 76, 1, 0)), (127, (.putfield 77, 9, 11)), (130, (.aload_n 0, 0, 0)), (131, (.sipush 366, 0, 0)), (134, (.newarray .int, 0, 0)), (136, (.putfield 81, 9, 12)), (139, (.iconst 0, 0, 0)), (140, (.istore_n 1, 0, 0)), (141, (.iload_n 1, 0, 0)), (142, (.iconst 4, 0, 0)), (143, (.if_icmp .ge 22, 0, 0)), (146, (.aload_n 0, 0, 0)), (147, (.getfield 32, 9, 4)), (150, (.iload_n 1, 0, 0)), (151, (.new 30, 7, 0)), (154, (.dup, 0, 0)), (155, (.invokespecial 85, 1, 0)), (158, (.aastore, 0, 0)), (159, (.iinc 1 1, 0, 0)), (162, (.goto (-21), 0, 0))]
def zw_X9_init : List (Nat × List (Nat × Jvm.Cond)) := [(1, [(1, .initialized RX9), (2, .initialized RX8), (3, .initialized RX0), (4, .initialized RX3), (5, .initialized RX2), (6, .initialized RX6), (7, .initialized RX1), (8, .initialized RX5), (9, .initialized RX4), (10, .initialized RX7), (23, .instanceMethod yX9_init), (25, .methodLink RX9 1 Lib.objectInit), (26, .instanceMethod Lib.objectInit), (27, .code Lib.objectInit ⟨#[0xb1]⟩ 1 none), (28, .classLink RX9 7 RX8), (29, .instantiable RX8 7), (59, .arrayClass .int), (60, .classLink RX9 16 RX0), (61, .instantiable RX0 17), (170, .classLink RX9 30 RX7), (172, .classLink RX9 36 RX3), (173, .instantiable RX3 4), (179, .instantiable RX2 10)]), (2, [(0, .classLink RX9 46 RX2), (2, .classLink RX9 53 RX6), (3, .instantiable RX6 7), (34, .classLink RX9 60 RX1), (35, .instantiable RX1 5), (36, .methodLink RX9 62 yX1_init), (63, .classLink RX9 67 RX5), (64, .instantiable RX5 3), (81, .classLink RX9 74 RX4), (82, .instantiable RX4 3), (99, .instantiable RX7 3), (117, .fieldLink RX9 10 "WearingBench" "tape" "LWearingBench$Tape;"), (118, .fieldLink RX9 19 "WearingBench" "now" "LWearingBench$Bench;"), (119, .fieldLink RX9 23 "WearingBench" "trial" "LWearingBench$Bench;"), (120, .fieldLink RX9 26 "WearingBench" "images" "[LWearingBench$Bench;"), (121, .fieldLink RX9 32 "WearingBench" "rows" "[LWearingBench$Row;"), (122, .fieldLink RX9 39 "WearingBench" "today" "LWearingBench$Diary;"), (123, .fieldLink RX9 43 "WearingBench" "otherDay" "LWearingBench$Diary;"), (124, .fieldLink RX9 49 "WearingBench" "probe" "LWearingBench$Day;"), (125, .fieldLink RX9 56 "WearingBench" "planner" "LWearingBench$Planner;"), (126, .fieldLink RX9 63 "WearingBench" "chances" "LWearingBench$Chances;"), (127, .fieldLink RX9 70 "WearingBench" "pile" "LWearingBench$Pile;"), (128, .fieldLink RX9 77 "WearingBench" "game" "LWearingBench$Game;"), (129, .fieldLink RX9 81 "WearingBench" "seen" "[I")])]
theorem zk_X9_init : zm_walks zw_X9_init = true := by decide +kernel
def zU_X9_init : zn_T := (zA_X9_init, [(9, (zN_X8_init, 1, 800)), (18, (zN_X0_init, 9, 154)), (38, (zN_X3_init, 10, 656)), (48, (zN_X2_init, 7, 36)), (55, (zN_X6_init, 3, 15)), (62, (zN_X1_init, 91, 617)), (69, (zN_X5_init, 2, 20)), (76, (zN_X4_init, 1, 36)), (85, (zN_X7_init, 1, 60))], 164, 3846)
def zR_X9_init : Room := { frames := 3, cells := 164, slots := 3846, locals := 61 }
theorem zx_X9_init (l : Launch) : zn_ok l zR_X9_init RX9 cX9_init zU_X9_init := zn_ok_of zk_X9_init (by decide +kernel) ⟨zn_callok_of (zo_X8_init l) rfl rfl ⟨Nat.le_of_ble_eq_true rfl, Nat.le_of_ble_eq_true rfl⟩ (zm_cw 1 32 rfl rfl) (Or.inr (by decide +kernel)) (zo_X8_init_w.1) (zo_X8_init_w.2) rfl ⟨by decide, by decide, by decide +kernel⟩, zn_callok_of (zo_X0_init l) rfl rfl ⟨Nat.le_of_ble_eq_true rfl, Nat.le_of_ble_eq_true rfl⟩ (zm_cw 1 64 rfl rfl) (Or.inr (by decide +kernel)) (zo_X0_init_w.1) (zo_X0_init_w.2) rfl ⟨by decide, by decide, by decide +kernel⟩, zn_callok_of (zo_X3_init l) rfl rfl ⟨Nat.le_of_ble_eq_true rfl, Nat.le_of_ble_eq_true rfl⟩ (zm_cw 1 176 rfl rfl) (Or.inr (by decide +kernel)) (zo_X3_init_w.1) (zo_X3_init_w.2) rfl ⟨by decide, by decide, by decide +kernel⟩, zn_callok_of (zo_X2_init l) rfl rfl ⟨Nat.le_of_ble_eq_true rfl, Nat.le_of_ble_eq_true rfl⟩ (zm_cw 1 182 rfl rfl) (Or.inr (by decide +kernel)) (zo_X2_init_w.1) (zo_X2_init_w.2) rfl ⟨by decide, by decide, by decide +kernel⟩, zn_callok_of (zo_X6_init l) rfl rfl ⟨Nat.le_of_ble_eq_true rfl, Nat.le_of_ble_eq_true rfl⟩ (zm_cw 2 6 rfl rfl) (Or.inr (by decide +kernel)) (zo_X6_init_w.1) (zo_X6_init_w.2) rfl ⟨by decide, by decide, by decide +kernel⟩, zn_callok_of (zo_X1_init l) rfl rfl ⟨Nat.le_of_ble_eq_true rfl, Nat.le_of_ble_eq_true rfl⟩ (zm_cw 2 38 rfl rfl) (Or.inl (zm_wk zk_X9_init 28 rfl)) (zo_X1_init_w.1) (zo_X1_init_w.2) rfl ⟨by decide, by decide, by decide +kernel⟩, zn_callok_of (zo_X5_init l) rfl rfl ⟨Nat.le_of_ble_eq_true rfl, Nat.le_of_ble_eq_true rfl⟩ (zm_cw 2 67 rfl rfl) (Or.inr (by decide +kernel)) (zo_X5_init_w.1) (zo_X5_init_w.2) rfl ⟨by decide, by decide, by decide +kernel⟩, zn_callok_of (zo_X4_init l) rfl rfl ⟨Nat.le_of_ble_eq_true rfl, Nat.le_of_ble_eq_true rfl⟩ (zm_cw 2 85 rfl rfl) (Or.inr (by decide +kernel)) (zo_X4_init_w.1) (zo_X4_init_w.2) rfl ⟨by decide, by decide, by decide +kernel⟩, zn_callok_of (zo_X7_init l) rfl rfl ⟨Nat.le_of_ble_eq_true rfl, Nat.le_of_ble_eq_true rfl⟩ (zm_cw 2 102 rfl rfl) (Or.inr (by decide +kernel)) (zo_X7_init_w.1) (zo_X7_init_w.2) rfl ⟨by decide, by decide, by decide +kernel⟩, trivial⟩ ⟨Nat.le_of_ble_eq_true rfl, Nat.le_of_ble_eq_true rfl⟩
def zN_X9_init : zn_F := zn_run zU_X9_init 2 165 118
theorem zo_X9_init (l : Launch) : zn_Con l yX9_init cX9_init 2 zR_X9_init (zN_X9_init, 164, 3846) := zn_con (T := zU_X9_init) (by decide) rfl (zx_X9_init l) (by decide +kernel)
theorem zo_X9_init_w : Jvm.Cond.initialized RX9 ∈ zm_tbl ∧ Jvm.Cond.instanceMethod yX9_init ∈ zm_tbl := ⟨zm_wk zk_X9_init 0 rfl, zm_wk zk_X9_init 10 rfl⟩
def zA_X10_init : List (Nat × Instr × Nat × Nat) := [(0, (.aload_n 0, 0, 0)), (1, (.invokespecial 1, 0, 0)), (4, (.aload_n 0, 0, 0)), (5, (.iconst 4, 0, 0)), (6, (.newarray .int, 0, 0)), (8, (.putfield 7, 10, 1)), (11, (.aload_n 0, 0, 0)), (12, (.iconst 4, 0, 0)), (13, (.newarray .int, 0, 0)), (15, (.putfield 13, 10, 2)), (18, (.aload_n 0, 0, 0)), (19, (.sipush 240, 0, 0)), (22, (.newarray .long, 0, 0)), (24, (.putfield 16, 10, 3)), (27, (.aload_n 0, 0, 0)), (28, (.bipush 60, 0, 0)), (30, (.newarray .long, 0, 0)), (32, (.putfield 20, 10, 4)), (35, (.aload_n 0, 0, 0)), (36, (.sipush 800, 0, 0)), (39, (.newarray .byte, 0, 0)), (41, (.putfield 23, 10, 5)), (44, (.aload_n 0, 0, 0)), (45, (.iconst (-1), 0, 0)), (46, (.putfield 27, 10, 15)), (49, (.aload_n 0, 0, 0)), (50, (.iconst 5, 0, 0)), (51, (.newarray .int, 0, 0)), (53, (.putfield 31, 10, 16)), (56, (.aload_n 0, 0, 0)), (57, (.bipush 35, 0, 0)), (59, (.newarray .int, 0, 0)), (61, (.putfield 34, 10, 17)), (64, (.aload_n 0, 0, 0)), (65, (.bipush 30, 0, 0)), (67, (.newarray .int, 0, 0)), (69, (.putfield 37, 10, 18)), (72, (.aload_n 0, 0, 0)), (73, (.bipush 125, 0, 0)), (75, (.newarray .int, 0, 0)), (77, (.putfield 40, 10, 19)), (80, (.aload_n 0, 0, 0)), (81, (.sipush 600, 0, 0)), (84, (.newarray .int, 0, 0)), (86, (.putfield 43, 10, 20)), (89, (.aload_n 0, 0, 0)), (90, (.iconst 3, 0, 0)), (91, (.newarray .boolean, 0, 0)), (93, (.putfield 46, 10, 21)), (96, (.aload_n 0, 0, 0)), (97, (.bipush 6, 0, 0)), (99, (.newarray .int, 0, 0)), (101, (.putfield 50, 10, 29)), (104, (.aload_n 0, 0, 0)), (105, (.iconst 5, 0, 0)), (106, (.newarray .int, 0, 0)), (108, (.putfield 53, 10, 30)), (111, (.aload_n 0, 0, 0)), (112, (.iconst 5, 0, 0)), (113, (.newarray .int, 0, 0)), (115, (.putfield 56, 10, 31)), (118, (.aload_n 0, 0, 0)), (119, (.iconst 5, 0, 0)), (120, (.newarray .int, 0, 0)), (122, (.putfield 59, 10, 32)), (125, (.aload_n 0, 0, 0)), (126, (.sipush 305, 0, 0)), (129, (.newarray .int, 0, 0)), (131, (.putfield 62, 10, 33)), (134, (.aload_n 0, 0, 0)), (135, (.sipush 305, 0, 0)), (138, (.newarray .int, 0, 0)), (140, (.putfield 65, 10, 34)), (143, (.aload_n 0, 0, 0)), (144, (.iconst 5, 0, 0)), (145, (.newarray .int, 0, 0)), (147, (.putfield 68, 10, 35)), (150, (.aload_n 0, 0, 0)), (151, (.iconst 5, 0, 0)), (152, (.newarray .int, 0, 0)), (154, (.putfield 71, 10, 36)), (157, (.aload_n 0, 0, 0)), (158, (.bipush 40, 0, 0)), (160, (.newarray .boolean, 0, 0)), (162, (.putfield 74, 10, 37)), (165, (.aload_n 0, 0, 0)), (166, (.iconst 5, 0, 0)), (167, (.newarray .int, 0, 0)), (169, (.putfield 77, 10, 38)), (172, (.aload_n 0, 0, 0)), (173, (.iconst 5, 0, 0)), (174, (.newarray .int, 0, 0)), (176, (.putfield 80, 10, 39)), (179, (.aload_n 0, 0, 0)), (180, (.iconst 5, 0, 0)), (181, (.newarray .int, 0, 0)), (183, (.putfield 83, 10, 40)), (186, (.aload_n 0, 0, 0)), (187, (.iconst 5, 0, 0)), (188, (.newarray .boolean, 0, 0)), (190, (.putfield 86, 10, 41)), (193, (.aload_n 0, 0, 0)), (194, (.iconst 5, 0, 0)), (195, (.newarray .int, 0, 0)), (197, (.putfield 89, 10, 42)), (200, (.aload_n 0, 0, 0)), (201, (.iconst 5, 0, 0)), (202, (.newarray .int, 0, 0)), (204, (.putfield 92, 10, 45)), (207, (.aload_n 0, 0, 0)), (208, (.sipush 6161, 0, 0)), (211, (.newarray .int, 0, 0)), (213, (.putfield 95, 10, 47)), (216, (.aload_n 0, 0, 0)), (217, (.bipush 10, 0, 0)), (219, (.newarray .int, 0, 0)), (221, (.putfield 98, 10, 48)), (224, (.aload_n 0, 0, 0)), (225, (.bipush 10, 0, 0)), (227, (.newarray .int, 0, 0)), (229, (.putfield 101, 10, 49)), (232, (.aload_n 0, 0, 0)), (233, (.bipush 36, 0, 0)), (235, (.newarray .int, 0, 0)), (237, (.putfield 104, 10, 51)), (240, (.iconst 0, 0, 0)), (241, (.istore_n 1, 0, 0)), (242, (.iload_n 1, 0, 0)), (243, (.iconst 4, 0, 0)), (244, (.if_icmp .ge 16, 0, 0)), (247, (.aload_n 0, 0, 0)), (248, (.getfield 7, 10, 1)), (251, (.iload_n 1, 0, 0)), (252, (.iconst (-1), 0, 0)), (253, (.iastore, 0, 0)), (254, (.iinc 1 1, 0, 0)), (257, (.goto (-15), 0, 0))]
def zw_X10_init : List (Nat × List (Nat × Jvm.Cond)) := [(1, [(11, .initialized RX10), (26, .instanceMethod Lib.objectInit), (27, .code Lib.objectInit ⟨#[0xb1]⟩ 1 none), (59, .arrayClass .int)]), (2, [(62, .arrayClass .long)]), (3, [(67, .arrayClass .byte)]), (6, [(3, .instanceMethod yX10_init), (5, .methodLink RX10 1 Lib.objectInit), (7, .fieldLink RX10 7 "WearingBenchModel" "width" "[I"), (8, .fieldLink RX10 13 "WearingBenchModel" "many" "[I"), (9, .fieldLink RX10 16 "WearingBenchModel" "cells" "[J"), (10, .fieldLink RX10 20 "WearingBenchModel" "moved" "[J"), (11, .fieldLink RX10 23 "WearingBenchModel" "tape" "[B"), (21, .fieldLink RX10 27 "WearingBenchModel" "faultPlace" "I"), (22, .fieldLink RX10 31 "WearingBenchModel" "lines" "[I"), (23, .fieldLink RX10 34 "WearingBenchModel" "has" "[I"), (24, .fieldLink RX10 37 "WearingBenchModel" "seat" "[I"), (25, .fieldLink RX10 40 "WearingBenchModel" "caller" "[I"), (26, .fieldLink RX10 43 "WearingBenchModel" "act" "[I"), (27, .fieldLink RX10 46 "WearingBenchModel" "isKept" "[Z"), (35, .fieldLink RX10 50 "WearingBenchModel" "gives" "[I"), (36, .fieldLink RX10 53 "WearingBenchModel" "age0" "[I"), (37, .fieldLink RX10 56 "WearingBenchModel" "comes" "[I"), (38, .fieldLink RX10 59 "WearingBenchModel" "seat0" "[I"), (39, .fieldLink RX10 62 "WearingBenchModel" "ageAt" "[I"), (40, .fieldLink RX10 65 "WearingBenchModel" "seatAt" "[I"), (41, .fieldLink RX10 68 "WearingBenchModel" "goneAt" "[I"), (42, .fieldLink RX10 71 "WearingBenchModel" "goneAge" "[I"), (43, .fieldLink RX10 74 "WearingBenchModel" "hasMoved" "[Z"), (44, .fieldLink RX10 77 "WearingBenchModel" "ageNow" "[I"), (45, .fieldLink RX10 80 "WearingBenchModel" "seatNow" "[I"), (46, .fieldLink RX10 83 "WearingBenchModel" "satNow" "[I"), (47, .fieldLink RX10 86 "WearingBenchModel" "isThere" "[Z"), (48, .fieldLink RX10 89 "WearingBenchModel" "ageThen" "[I"), (51, .fieldLink RX10 92 "WearingBenchModel" "bestSeat" "[I"), (53, .fieldLink RX10 95 "WearingBenchModel" "often" "[I"), (54, .fieldLink RX10 98 "WearingBenchModel" "ahead" "[I"), (55, .fieldLink RX10 101 "WearingBenchModel" "cut" "[I"), (57, .fieldLink RX10 104 "WearingBenchModel" "toldBySeats" "[I"), (166, .arrayClass .boolean)])]
theorem zk_X10_init : zm_walks zw_X10_init = true := by decide +kernel
def zU_X10_init : zn_T := (zA_X10_init, [], 30, 8834)
def zR_X10_init : Room := { frames := 1, cells := 30, slots := 8834, locals := 20 }
theorem zx_X10_init (l : Launch) : zn_ok l zR_X10_init RX10 cX10_init zU_X10_init := zn_ok_of zk_X10_init (by decide +kernel) trivial ⟨Nat.le_of_ble_eq_true rfl, Nat.le_of_ble_eq_true rfl⟩
def zN_X10_init : zn_F := zn_run zU_X10_init 2 260 171
theorem zo_X10_init (l : Launch) : zn_Con l yX10_init cX10_init 2 zR_X10_init (zN_X10_init, 30, 8834) := zn_con (T := zU_X10_init) (by decide) rfl (zx_X10_init l) (by decide +kernel)
theorem zo_X10_init_w : Jvm.Cond.initialized RX10 ∈ zm_tbl ∧ Jvm.Cond.instanceMethod yX10_init ∈ zm_tbl := ⟨zm_wk zk_X10_init 0 rfl, zm_wk zk_X10_init 6 rfl⟩
def zA_L0 : List (Nat × Instr × Nat × Nat) := [(0, (.new 7, 9, 0)), (3, (.dup, 0, 0)), (4, (.invokespecial 9, 1, 0)), (7, (.astore_n 1, 0, 0)), (8, (.new 10, 10, 0)), (11, (.dup, 0, 0)), (12, (.invokespecial 12, 1, 0)), (15, (.astore_n 2, 0, 0)), (16, (.iconst 0, 0, 0)), (17, (.istore_n 3, 0, 0))]
def zw_L0 : List (Nat × List (Nat × Jvm.Cond)) := [(1, [(1, .initialized RX9), (11, .initialized RX10), (20, .classLink R_law 7 RX9), (21, .instantiable RX9 13), (22, .methodLink R_law 9 yX9_init)]), (6, [(0, .classLink R_law 10 RX10), (1, .instantiable RX10 53), (2, .methodLink R_law 12 yX10_init)])]
theorem zk_L0 : zm_walks zw_L0 = true := by decide +kernel
def zU_L0 : zn_T := (zA_L0, [(9, (zN_X9_init, 164, 3846)), (12, (zN_X10_init, 30, 8834))], 196, 12746)
theorem zx_L0 (l : Launch) : zn_ok l room_1 R_law code zU_L0 := zn_ok_of zk_L0 (by decide +kernel) ⟨zn_callok_of (zo_X9_init l) rfl rfl ⟨Nat.le_of_ble_eq_true rfl, Nat.le_of_ble_eq_true rfl⟩ (zm_cw 1 24 rfl rfl) (Or.inl (zm_wk zk_L0 4 rfl)) (zo_X9_init_w.1) (zo_X9_init_w.2) rfl ⟨by decide, by decide, by decide +kernel⟩, zn_callok_of (zo_X10_init l) rfl rfl ⟨Nat.le_of_ble_eq_true rfl, Nat.le_of_ble_eq_true rfl⟩ (zm_cw 6 4 rfl rfl) (Or.inl (zm_wk zk_L0 7 rfl)) (zo_X10_init_w.1) (zo_X10_init_w.2) rfl ⟨by decide, by decide, by decide +kernel⟩, trivial⟩ ⟨Nat.le_of_ble_eq_true rfl, Nat.le_of_ble_eq_true rfl⟩
end
section
/-! WHAT IS WRITTEN BY A RUN THAT MAKES CELLS, as a list -/
abbrev zn_W : Type := List (Nat × Nat × Int32)
def zn_wr (L : zn_W) (M : zm_I) : zm_I := L.foldl (fun M q => (zm_w M.1 q.1 q.2.1 q.2.2, M.2)) M
theorem zn_wr_app (L L' : zn_W) (M : zm_I) : zn_wr (L ++ L') M = zn_wr L' (zn_wr L M) := by simp [zn_wr, List.foldl_append]
abbrev zn_H : Type := List (Nat × (zm_L → List Value → zm_I → zn_W))
def zn_nw (i : Instr) (b : Nat) (st : List Value) : zn_W := match i with
  | .putfield _ => match st with
    | .int x :: .ref n :: _ => [(n, b, x)]
    | _ => []
  | .iastore => match st with
    | .int x :: .int i :: .ref n :: _ => [(n, i.toNatClampNeg, x)]
    | _ => []
  | _ => []
def zn_stw (G : zn_H) (T : zn_T) (S : zn_S) : zn_W := match zm_look T.1 S.1.1 with
  | none => []
  | some (i, a, b) => match i with
    | .invokespecial idx => match a with
      | 0 => []
      | _ => match S.1.2.2.1 with
        | .ref n :: _ => match zm_look G idx with
          | some f => f S.2.1 [.ref n] S.1.2.2.2
          | none => []
        | _ => []
    | i => zn_nw i b S.1.2.2.1
def zn_gow (G : zn_H) (T : zn_T) (stop : Nat) : Nat → zn_S → zn_W
  | 0, _ => []
  | n + 1, S => match Nat.beq S.1.1 stop with
    | true => []
    | false => match zn_step T S with
      | some S1 => zn_stw G T S ++ zn_gow G T stop n S1
      | none => []
def zn_runw (G : zn_H) (T : zn_T) (nL stop fuel : Nat) : zm_L → List Value → zm_I → zn_W := fun wl av M => zn_gow G T stop fuel ((0, zm_pad nL (zm_sl av), [], M), wl, 0, 0)
def zn_is (F : zn_F) (f : zm_L → List Value → zm_I → zn_W) : Prop := ∀ wl av M q, F wl av M = some q → q.2 = zn_wr (f wl av M) M
/-- each constructor that is called has its list -/
def zn_Gok (G : zn_H) (T : zn_T) : Prop := ∀ (idx : Nat) (C : zn_C), zm_look T.2.1 idx = some C → ∃ f, zm_look G idx = some f ∧ zn_is C.1 f
theorem zn_next_w {wl : zm_L} {i : Instr} {a b pc : Nat} {ls : List (Option Value)} {st : List Value} {M : zm_I} {S1 : zm_S} (h : zn_next wl i a b pc ls st M = some S1) : S1.2.2.2 = zn_wr (zn_nw i b st) M := by
  cases i
  all_goals first
    | (simp [zn_next] at h; done)
    | (simp only [zn_next] at h; repeat' split at h) <;> first
      | (cases h; done)
      | (cases h; rfl)
theorem zn_step_w {G : zn_H} {T : zn_T} (hG : zn_Gok G T) {S S1 : zn_S} (hh : zn_step T S = some S1) : S1.1.2.2.2 = zn_wr (zn_stw G T S) S.1.2.2.2 := by
  unfold zn_step at hh
  unfold zn_stw
  split at hh
  · cases hh
  · next i a b hlk =>
    rw [hlk]
    have ord : ∀ {S1 : zn_S}, (match zn_next S.2.1 i a b S.1.1 S.1.2.1 S.1.2.2.1 S.1.2.2.2 with
      | some q => some (q, S.2)
      | none => none) = some S1 → ∃ q, zn_next S.2.1 i a b S.1.1 S.1.2.1 S.1.2.2.1 S.1.2.2.2 = some q ∧ S1.1 = q := by
      intro S1 hh
      split at hh
      · next q hq => cases hh; exact ⟨q, hq, rfl⟩
      · cases hh
    cases i
    case new idx =>
      simp only at hh
      split at hh
      · cases hh; rfl
      · cases hh
    case newarray t =>
      simp only at hh
      repeat' split at hh
      all_goals first | (cases hh; done) | (cases hh; rfl)
    case anewarray idx =>
      simp only at hh
      repeat' split at hh
      all_goals first | (cases hh; done) | (cases hh; rfl)
    case aastore =>
      simp only at hh
      split at hh
      · next q hq =>
        cases hh
        unfold zn_as at hq
        repeat' split at hq
        all_goals first | (cases hq; done) | (cases hq; rfl)
      · cases hh
    case invokespecial idx =>
      match a, hh with
      | 0, hh =>
        simp only at hh
        repeat' split at hh
        all_goals first | (cases hh; done) | (cases hh; rfl)
      | a + 1, hh =>
        simp only at hh ⊢
        unfold zn_ct at hh
        split at hh
        · next n r hst =>
          rw [hst]
          split at hh
          · next C hC =>
            obtain ⟨f, hf, hi⟩ := hG idx C hC
            split at hh
            · split at hh
              · next q hq =>
                split at hh
                · cases hh
                  simp only [hf]
                  exact hi _ _ _ _ hq
                · cases hh
              · cases hh
            · cases hh
          · cases hh
        · cases hh
    case putfield idx =>
      simp only at hh
      split at hh
      · next q hq =>
        cases hh
        unfold zn_pr at hq
        split at hq
        · next v n r hst =>
          simp only [hst, zn_nw]
          repeat' split at hq
          all_goals first | (cases hq; done) | (cases hq; rfl)
        · cases hq
      · obtain ⟨q, hq, he⟩ := ord hh
        rw [he]
        exact zn_next_w hq
    case iastore =>
      obtain ⟨q, hq, he⟩ := ord hh
      rw [he]
      exact zn_next_w hq
    all_goals
      obtain ⟨q, hq, he⟩ := ord hh
      rw [he]
      exact zn_next_w hq
theorem zn_go_w {G : zn_H} {T : zn_T} (hG : zn_Gok G T) {stop : Nat} : ∀ (n : Nat) (S S1 : zn_S), zn_go T stop n S = some S1 → S1.1.2.2.2 = zn_wr (zn_gow G T stop n S) S.1.2.2.2
  | 0, S, S1, hh => by cases hh
  | n + 1, S, S1, hh => by
    unfold zn_go at hh
    unfold zn_gow
    split at hh
    · next hb => cases hh; rw [hb]; rfl
    · next hb =>
      rw [hb]
      split at hh
      · next S2 hS2 =>
        simp only [hS2]
        rw [zn_wr_app, ← zn_step_w hG hS2]
        exact zn_go_w hG n S2 S1 hh
      · cases hh
theorem zn_run_w {G : zn_H} {T : zn_T} (hG : zn_Gok G T) {nL stop fuel : Nat} : zn_is (zn_run T nL stop fuel) (zn_runw G T nL stop fuel) := by
  intro wl av M q hq
  unfold zn_run at hq
  split at hq
  · cases hq
  · split at hq
    · next S hS =>
      split at hq
      · split at hq
        · cases hq
          exact zn_go_w hG _ _ _ hS
        · cases hq
      · cases hq
    · cases hq
theorem zn_Gok_nil {G : zn_H} {T : zn_T} (h : T.2.1 = []) : zn_Gok G T := fun idx C hC => by rw [h] at hC; cases hC
def zn_allG : List (Nat × zn_C) → zn_H → Prop
  | [], _ => True
  | (k, C) :: r, (k', f) :: r' => k = k' ∧ zn_is C.1 f ∧ zn_allG r r'
  | _ :: _, [] => False
theorem zn_allG_ok : ∀ {L : List (Nat × zn_C)} {G : zn_H}, zn_allG L G → ∀ (idx : Nat) (C : zn_C), zm_look L idx = some C → ∃ f, zm_look G idx = some f ∧ zn_is C.1 f
  | [], _, _, idx, C, h => by cases h
  | (k, C0) :: r, (k', f) :: r', hp, idx, C, h => by
    obtain ⟨rfl, h1, h2⟩ := hp
    unfold zm_look at h ⊢
    split at h
    · cases h; exact ⟨f, rfl, h1⟩
    · exact zn_allG_ok h2 idx C h
  | _ :: _, [], hp, _, _, _ => hp.elim
end
