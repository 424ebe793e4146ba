/-! WHAT THE TWO CONSTRUCTORS MAKE, printed by program (wip/gen/gen36.py) -/
def zH_X0_init : zn_H := []
theorem zH_X0_init_ok : zn_Gok zH_X0_init zU_X0_init := zn_Gok_nil rfl
def zh_X0_init : zm_L → List Value → zm_I → zn_W := zn_runw zH_X0_init zU_X0_init 1 71 39
theorem zh_X0_init_ok : zn_is zN_X0_init zh_X0_init := zn_run_w zH_X0_init_ok
def zH_X2_init : zn_H := []
theorem zH_X2_init_ok : zn_Gok zH_X2_init zU_X2_init := zn_Gok_nil rfl
def zh_X2_init : zm_L → List Value → zm_I → zn_W := zn_runw zH_X2_init zU_X2_init 1 54 31
theorem zh_X2_init_ok : zn_is zN_X2_init zh_X2_init := zn_run_w zH_X2_init_ok
def zH_X4_init : zn_H := []
theorem zH_X4_init_ok : zn_Gok zH_X4_init zU_X4_init := zn_Gok_nil rfl
def zh_X4_init : zm_L → List Value → zm_I → zn_W := zn_runw zH_X4_init zU_X4_init 1 12 7
theorem zh_X4_init_ok : zn_is zN_X4_init zh_X4_init := zn_run_w zH_X4_init_ok
def zH_X5_init : zn_H := []
theorem zH_X5_init_ok : zn_Gok zH_X5_init zU_X5_init := zn_Gok_nil rfl
def zh_X5_init : zm_L → List Value → zm_I → zn_W := zn_runw zH_X5_init zU_X5_init 1 20 11
theorem zh_X5_init_ok : zn_is zN_X5_init zh_X5_init := zn_run_w zH_X5_init_ok
def zH_X6_init : zn_H := []
theorem zH_X6_init_ok : zn_Gok zH_X6_init zU_X6_init := zn_Gok_nil rfl
def zh_X6_init : zm_L → List Value → zm_I → zn_W := zn_runw zH_X6_init zU_X6_init 1 25 15
theorem zh_X6_init_ok : zn_is zN_X6_init zh_X6_init := zn_run_w zH_X6_init_ok
def zH_X7_init : zn_H := []
theorem zH_X7_init_ok : zn_Gok zH_X7_init zU_X7_init := zn_Gok_nil rfl
def zh_X7_init : zm_L → List Value → zm_I → zn_W := zn_runw zH_X7_init zU_X7_init 1 17 10
theorem zh_X7_init_ok : zn_is zN_X7_init zh_X7_init := zn_run_w zH_X7_init_ok
def zH_X8_init : zn_H := []
theorem zH_X8_init_ok : zn_Gok zH_X8_init zU_X8_init := zn_Gok_nil rfl
def zh_X8_init : zm_L → List Value → zm_I → zn_W := zn_runw zH_X8_init zU_X8_init 1 23 13
theorem zh_X8_init_ok : zn_is zN_X8_init zh_X8_init := zn_run_w zH_X8_init_ok
def zH_X3_init : zn_H := [(11, zh_X2_init)]
theorem zH_X3_init_ok : zn_Gok zH_X3_init zU_X3_init := zn_allG_ok ⟨rfl, zh_X2_init_ok, trivial⟩
def zh_X3_init : zm_L → List Value → zm_I → zn_W := zn_runw zH_X3_init zU_X3_init 1 33 16
theorem zh_X3_init_ok : zn_is zN_X3_init zh_X3_init := zn_run_w zH_X3_init_ok
def zH_X1_init : zn_H := [(24, zh_X2_init)]
theorem zH_X1_init_ok : zn_Gok zH_X1_init zU_X1_init := zn_allG_ok ⟨rfl, zh_X2_init_ok, trivial⟩
def zh_X1_init : zm_L → List Value → zm_I → zn_W := zn_runw zH_X1_init zU_X1_init 2 56 152
theorem zh_X1_init_ok : zn_is zN_X1_init zh_X1_init := zn_run_w zH_X1_init_ok
def zH_X9_init : zn_H := [(9, zh_X8_init), (18, zh_X0_init), (38, zh_X3_init), (48, zh_X2_init), (55, zh_X6_init), (62, zh_X1_init), (69, zh_X5_init), (76, zh_X4_init), (85, zh_X7_init)]
theorem zH_X9_init_ok : zn_Gok zH_X9_init zU_X9_init := zn_allG_ok ⟨rfl, zh_X8_init_ok, rfl, zh_X0_init_ok, rfl, zh_X3_init_ok, rfl, zh_X2_init_ok, rfl, zh_X6_init_ok, rfl, zh_X1_init_ok, rfl, zh_X5_init_ok, rfl, zh_X4_init_ok, rfl, zh_X7_init_ok, trivial⟩
def zh_X9_init : zm_L → List Value → zm_I → zn_W := zn_runw zH_X9_init zU_X9_init 2 165 118
theorem zh_X9_init_ok : zn_is zN_X9_init zh_X9_init := zn_run_w zH_X9_init_ok
def zH_X10_init : zn_H := []
theorem zH_X10_init_ok : zn_Gok zH_X10_init zU_X10_init := zn_Gok_nil rfl
def zh_X10_init : zm_L → List Value → zm_I → zn_W := zn_runw zH_X10_init zU_X10_init 2 260 171
theorem zh_X10_init_ok : zn_is zN_X10_init zh_X10_init := zn_run_w zH_X10_init_ok
def zH_L0 : zn_H := [(9, zh_X9_init), (12, zh_X10_init)]
theorem zH_L0_ok : zn_Gok zH_L0 zU_L0 := zn_allG_ok ⟨rfl, zh_X9_init_ok, rfl, zh_X10_init_ok, trivial⟩
def zL_S0 : zn_S := ((0, [some (.retAddr 100), none, none, none], [], (fun _ _ => 0, fun _ _ => 0)), [], 0, 0)
def zL_S1 : zn_S := match zn_go zU_L0 18 12 zL_S0 with
  | some S => S
  | none => zL_S0
def zL_A : zm_L := [(.inl 9, [.ref 1, .ref 3, .ref 13, .ref 23, .ref 24, .ref 25, .ref 36, .ref 47, .ref 55, .ref 59, .ref 151, .ref 154, .ref 156]), (.inl 8, [.ref 2, .null, .null, .null, .null, .null, .null]), (.inr (.int, 800), []), (.inl 0, [.null, .null, .null, .null, .null, .null, .null, .null, .ref 4, .ref 5, .ref 6, .ref 7, .ref 8, .ref 9, .ref 10, .ref 11, .ref 12]), (.inr (.int, 6), []), (.inr (.int, 5), []), (.inr (.int, 5), []), (.inr (.int, 5), []), (.inr (.int, 5), []), (.inr (.int, 5), []), (.inr (.int, 41), []), (.inr (.int, 41), []), (.inr (.int, 41), []), (.inl 0, [.null, .null, .null, .null, .null, .null, .null, .null, .ref 14, .ref 15, .ref 16, .ref 17, .ref 18, .ref 19, .ref 20, .ref 21, .ref 22]), (.inr (.int, 6), []), (.inr (.int, 5), []), (.inr (.int, 5), []), (.inr (.int, 5), []), (.inr (.int, 5), []), (.inr (.int, 5), []), (.inr (.int, 41), []), (.inr (.int, 41), []), (.inr (.int, 41), []), (.inr (.object RX0, 3), [.null, .null, .null]), (.inr (.object RX7, 4), [.ref 157, .ref 159, .ref 161, .ref 163]), (.inl 3, [.ref 26, .null, .ref 34, .ref 35]), (.inl 2, [.ref 27, .ref 28, .ref 29, .ref 30, .ref 31, .ref 32, .ref 33, .null, .null, .null]), (.inr (.int, 5), []), (.inr (.int, 5), []), (.inr (.int, 5), []), (.inr (.int, 5), []), (.inr (.int, 5), []), (.inr (.int, 5), []), (.inr (.int, 6), []), (.inr (.int, 305), []), (.inr (.int, 305), []), (.inl 3, [.ref 37, .null, .ref 45, .ref 46]), (.inl 2, [.ref 38, .ref 39, .ref 40, .ref 41, .ref 42, .ref 43, .ref 44, .null, .null, .null]), (.inr (.int, 5), []), (.inr (.int, 5), []), (.inr (.int, 5), []), (.inr (.int, 5), []), (.inr (.int, 5), []), (.inr (.int, 5), []), (.inr (.int, 6), []), (.inr (.int, 305), []), (.inr (.int, 305), []), (.inl 2, [.ref 48, .ref 49, .ref 50, .ref 51, .ref 52, .ref 53, .ref 54, .null, .null, .null]), (.inr (.int, 5), []), (.inr (.int, 5), []), (.inr (.int, 5), []), (.inr (.int, 5), []), (.inr (.int, 5), []), (.inr (.int, 5), []), (.inr (.int, 6), []), (.inl 6, [.null, .null, .null, .ref 56, .ref 57, .ref 58, .null]), (.inr (.int, 5), []), (.inr (.int, 5), []), (.inr (.int, 5), []), (.inl 1, [.null, .ref 60, .ref 61, .ref 62, .null]), (.inr (.long, 50), []), (.inr (.long, 50), []), (.inr (.object RX2, 11), [.ref 63, .ref 71, .ref 79, .ref 87, .ref 95, .ref 103, .ref 111, .ref 119, .ref 127, .ref 135, .ref 143]), (.inl 2, [.ref 64, .ref 65, .ref 66, .ref 67, .ref 68, .ref 69, .ref 70, .null, .null, .null]), (.inr (.int, 5), []), (.inr (.int, 5), []), (.inr (.int, 5), []), (.inr (.int, 5), []), (.inr (.int, 5), []), (.inr (.int, 5), []), (.inr (.int, 6), []), (.inl 2, [.ref 72, .ref 73, .ref 74, .ref 75, .ref 76, .ref 77, .ref 78, .null, .null, .null]), (.inr (.int, 5), []), (.inr (.int, 5), []), (.inr (.int, 5), []), (.inr (.int, 5), []), (.inr (.int, 5), []), (.inr (.int, 5), []), (.inr (.int, 6), []), (.inl 2, [.ref 80, .ref 81, .ref 82, .ref 83, .ref 84, .ref 85, .ref 86, .null, .null, .null]), (.inr (.int, 5), []), (.inr (.int, 5), []), (.inr (.int, 5), []), (.inr (.int, 5), []), (.inr (.int, 5), []), (.inr (.int, 5), []), (.inr (.int, 6), []), (.inl 2, [.ref 88, .ref 89, .ref 90, .ref 91, .ref 92, .ref 93, .ref 94, .null, .null, .null]), (.inr (.int, 5), []), (.inr (.int, 5), []), (.inr (.int, 5), []), (.inr (.int, 5), []), (.inr (.int, 5), []), (.inr (.int, 5), []), (.inr (.int, 6), []), (.inl 2, [.ref 96, .ref 97, .ref 98, .ref 99, .ref 100, .ref 101, .ref 102, .null, .null, .null]), (.inr (.int, 5), []), (.inr (.int, 5), []), (.inr (.int, 5), []), (.inr (.int, 5), []), (.inr (.int, 5), []), (.inr (.int, 5), []), (.inr (.int, 6), []), (.inl 2, [.ref 104, .ref 105, .ref 106, .ref 107, .ref 108, .ref 109, .ref 110, .null, .null, .null]), (.inr (.int, 5), []), (.inr (.int, 5), []), (.inr (.int, 5), []), (.inr (.int, 5), []), (.inr (.int, 5), []), (.inr (.int, 5), []), (.inr (.int, 6), []), (.inl 2, [.ref 112, .ref 113, .ref 114, .ref 115, .ref 116, .ref 117, .ref 118, .null, .null, .null]), (.inr (.int, 5), []), (.inr (.int, 5), []), (.inr (.int, 5), []), (.inr (.int, 5), []), (.inr (.int, 5), []), (.inr (.int, 5), []), (.inr (.int, 6), []), (.inl 2, [.ref 120, .ref 121, .ref 122, .ref 123, .ref 124, .ref 125, .ref 126, .null, .null, .null]), (.inr (.int, 5), []), (.inr (.int, 5), []), (.inr (.int, 5), []), (.inr (.int, 5), []), (.inr (.int, 5), []), (.inr (.int, 5), []), (.inr (.int, 6), []), (.inl 2, [.ref 128, .ref 129, .ref 130, .ref 131, .ref 132, .ref 133, .ref 134, .null, .null, .null]), (.inr (.int, 5), []), (.inr (.int, 5), []), (.inr (.int, 5), []), (.inr (.int, 5), []), (.inr (.int, 5), []), (.inr (.int, 5), []), (.inr (.int, 6), []), (.inl 2, [.ref 136, .ref 137, .ref 138, .ref 139, .ref 140, .ref 141, .ref 142, .null, .null, .null]), (.inr (.int, 5), []), (.inr (.int, 5), []), (.inr (.int, 5), []), (.inr (.int, 5), []), (.inr (.int, 5), []), (.inr (.int, 5), []), (.inr (.int, 6), []), (.inl 2, [.ref 144, .ref 145, .ref 146, .ref 147, .ref 148, .ref 149, .ref 150, .null, .null, .null]), (.inr (.int, 5), []), (.inr (.int, 5), []), (.inr (.int, 5), []), (.inr (.int, 5), []), (.inr (.int, 5), []), (.inr (.int, 5), []), (.inr (.int, 6), []), (.inl 5, [.null, .ref 152, .ref 153]), (.inr (.int, 10), []), (.inr (.int, 10), []), (.inl 4, [.null, .null, .ref 155]), (.inr (.int, 36), []), (.inr (.int, 366), []), (.inl 7, [.null, .null, .ref 158]), (.inr (.long, 60), []), (.inl 7, [.null, .null, .ref 160]), (.inr (.long, 60), []), (.inl 7, [.null, .null, .ref 162]), (.inr (.long, 60), []), (.inl 7, [.null, .null, .ref 164]), (.inr (.long, 60), []), (.inl 10, [.null, .ref 166, .ref 167, .ref 168, .ref 169, .ref 170, .null, .null, .null, .null, .null, .null, .null, .null, .null, .null, .ref 171, .ref 172, .ref 173, .ref 174, .ref 175, .ref 176, .null, .null, .null, .null, .null, .null, .null, .ref 177, .ref 178, .ref 179, .ref 180, .ref 181, .ref 182, .ref 183, .ref 184, .ref 185, .ref 186, .ref 187, .ref 188, .ref 189, .ref 190, .null, .null, .ref 191, .null, .ref 192, .ref 193, .ref 194, .null, .ref 195, .null]), (.inr (.int, 4), []), (.inr (.int, 4), []), (.inr (.long, 240), []), (.inr (.long, 60), []), (.inr (.byte, 800), []), (.inr (.int, 5), []), (.inr (.int, 35), []), (.inr (.int, 30), []), (.inr (.int, 125), []), (.inr (.int, 600), []), (.inr (.boolean, 3), []), (.inr (.int, 6), []), (.inr (.int, 5), []), (.inr (.int, 5), []), (.inr (.int, 5), []), (.inr (.int, 305), []), (.inr (.int, 305), []), (.inr (.int, 5), []), (.inr (.int, 5), []), (.inr (.boolean, 40), []), (.inr (.int, 5), []), (.inr (.int, 5), []), (.inr (.int, 5), []), (.inr (.boolean, 5), []), (.inr (.int, 5), []), (.inr (.int, 5), []), (.inr (.int, 6161), []), (.inr (.int, 10), []), (.inr (.int, 10), []), (.inr (.int, 36), [])]
def zn_eqC (a b : zm_D × List Value) : Bool := decide (a.2 = b.2) && (match a.1, b.1 with
  | .inl x, .inl y => Nat.beq x y
  | .inr x, .inr y => decide (x.1 = y.1) && Nat.beq x.2 y.2
  | _, _ => false)
def zn_eqL : zm_L → zm_L → Bool
  | [], [] => true
  | a :: r, b :: q => zn_eqC a b && zn_eqL r q
  | _, _ => false
theorem zn_eqC_ok {a b : zm_D × List Value} (h : zn_eqC a b = true) : a = b := by
  obtain ⟨a1, a2⟩ := a
  obtain ⟨b1, b2⟩ := b
  simp only [zn_eqC, Bool.and_eq_true, decide_eq_true_eq] at h
  obtain ⟨rfl, h⟩ := h
  rcases a1 with x | ⟨x, m⟩ <;> rcases b1 with y | ⟨y, k⟩
  · rw [Nat.eq_of_beq_eq_true h]
  · cases h
  · cases h
  · simp only [Bool.and_eq_true, decide_eq_true_eq] at h
    rw [h.1, Nat.eq_of_beq_eq_true h.2]
theorem zn_eqL_ok : ∀ {a b : zm_L}, zn_eqL a b = true → a = b
  | [], [], _ => rfl
  | x :: r, y :: q, h => by
    simp only [zn_eqL, Bool.and_eq_true] at h
    rw [zn_eqC_ok h.1, zn_eqL_ok h.2]
  | [], _ :: _, h => by cases h
  | _ :: _, [], h => by cases h
/-- what the law has made, looked at in one run -/
def zL_ck (S : zn_S) : Bool := Nat.beq S.1.1 18 && (decide (S.1.2.1 = [some (.retAddr 100), some (.ref 0), some (.ref 165), some (.int 0)]) && (decide (S.1.2.2.1 = []) && (zn_eqL S.2.1 zL_A && (Nat.beq S.2.2.1 196 && Nat.beq S.2.2.2 12746))))
def zL_ckO (o : Option zn_S) : Bool := match o with
  | some S => zL_ck S
  | none => false
theorem zL_all : zL_ckO (zn_go zU_L0 18 12 zL_S0) = true := by decide +kernel
theorem zL_some : (zn_go zU_L0 18 12 zL_S0).isSome = true := by
  have h := zL_all
  cases hz : zn_go zU_L0 18 12 zL_S0 with
  | none => rw [hz] at h; exact absurd h Bool.false_ne_true
  | some S => rfl
theorem zL_go : zn_go zU_L0 18 12 zL_S0 = some zL_S1 := by
  have h := zL_some
  unfold zL_S1
  cases hz : zn_go zU_L0 18 12 zL_S0 with
  | none => rw [hz] at h; cases h
  | some S => rfl
theorem zL_ck1 : zL_ck zL_S1 = true := by
  have h := zL_all
  rw [zL_go] at h
  exact h
theorem zL_ckA {S : zn_S} (h : zL_ck S = true) : S.1.1 = 18 ∧ S.1.2.1 = [some (.retAddr 100), some (.ref 0), some (.ref 165), some (.int 0)] ∧ S.1.2.2.1 = [] ∧ S.2.1 = zL_A ∧ S.2.2.1 = 196 ∧ S.2.2.2 = 12746 := by
  simp only [zL_ck, Bool.and_eq_true, decide_eq_true_eq] at h
  obtain ⟨h1, h2, h3, h4, h5, h6⟩ := h
  exact ⟨Nat.eq_of_beq_eq_true h1, h2, h3, zn_eqL_ok h4, Nat.eq_of_beq_eq_true h5, Nat.eq_of_beq_eq_true h6⟩
theorem zL_pc : zL_S1.1.1 = 18 := (zL_ckA zL_ck1).1
theorem zL_ls : zL_S1.1.2.1 = [some (.retAddr 100), some (.ref 0), some (.ref 165), some (.int 0)] := (zL_ckA zL_ck1).2.1
theorem zL_st : zL_S1.1.2.2.1 = [] := (zL_ckA zL_ck1).2.2.1
theorem zL_wl : zL_S1.2.1 = zL_A := (zL_ckA zL_ck1).2.2.2.1
theorem zL_cs : zL_S1.2.2.1 = 196 ∧ zL_S1.2.2.2 = 12746 := (zL_ckA zL_ck1).2.2.2.2
def zL_W : zn_W := [(1, 2, 0), (1, 3, -1), (157, 0, -1), (159, 0, -1), (161, 0, -1), (163, 0, -1), (165, 15, -1), (166, 0, -1), (166, 1, -1), (166, 2, -1), (166, 3, -1)]
theorem zL_wr : zn_gow zH_L0 zU_L0 18 12 zL_S0 = zL_W := by decide +kernel
theorem zn_S_eq (S : zn_S) {a c s : Nat} {b : List (Option Value)} {d : List Value} {M : zm_I} {w : zm_L} (h1 : S.1.1 = a) (h2 : S.1.2.1 = b) (h3 : S.1.2.2.1 = d) (h4 : S.1.2.2.2 = M) (h5 : S.2.1 = w) (h6 : S.2.2.1 = c) (h7 : S.2.2.2 = s) : S = ((a, b, d, M), w, c, s) := by
  subst h1 h2 h3 h4 h5 h6 h7
  rfl
theorem zL_S1_eq : zL_S1 = ((18, [some (.retAddr 100), some (.ref 0), some (.ref 165), some (.int 0)], [], zn_wr zL_W (fun _ _ => 0, fun _ _ => 0)), zL_A, 196, 12746) := zn_S_eq zL_S1 zL_pc zL_ls zL_st (by rw [← zL_wr]; exact zn_go_w zH_L0_ok 12 _ _ zL_go) zL_wl zL_cs.1 zL_cs.2
def zL_p : List Nat := [0, 3, 4, 5, 6, 7, 8, 9, 10, 11, 12, 13, 14, 15, 16, 17, 18, 19, 20, 21, 22, 25, 26, 27, 28, 29, 30, 31, 32, 33, 34, 35, 36, 37, 38, 39, 40, 41, 42, 43, 44, 45, 46, 47, 48, 49, 50, 51, 52, 53, 54, 1, 2, 24, 157, 158, 159, 160, 161, 162, 163, 164, 156, 151, 152, 153, 154, 155, 55, 56, 57, 58, 59, 60, 61, 62, 63, 64, 65, 66, 67, 68, 69, 70, 71, 72, 73, 74, 75, 76, 77, 78, 79, 80, 81, 82, 83, 84, 85, 86, 87, 88, 89, 90, 91, 92, 93, 94, 95, 96, 97, 98, 99, 100, 101, 102, 103, 104, 105, 106, 107, 108, 109, 110, 111, 112, 113, 114, 115, 116, 117, 118, 119, 120, 121, 122, 123, 124, 125, 126, 127, 128, 129, 130, 131, 132, 133, 134, 135, 136, 137, 138, 139, 140, 141, 142, 143, 144, 145, 146, 147, 148, 149, 150, 23, 165, 166, 167, 168, 169, 170, 171, 172, 173, 174, 175, 176, 177, 178, 179, 180, 181, 182, 183, 184, 185, 186, 187, 188, 189, 190, 191, 192, 193, 194, 195]
def zL_C : zm_L := [(.inl 9, [.ref 51, .ref 1, .ref 11, .ref 164, .ref 53, .ref 21, .ref 32, .ref 43, .ref 68, .ref 72, .ref 63, .ref 66, .ref 62]), (.inl 0, [.null, .null, .null, .null, .null, .null, .null, .null, .ref 2, .ref 3, .ref 4, .ref 5, .ref 6, .ref 7, .ref 8, .ref 9, .ref 10]), (.inr (.int, 6), []), (.inr (.int, 5), []), (.inr (.int, 5), []), (.inr (.int, 5), []), (.inr (.int, 5), []), (.inr (.int, 5), []), (.inr (.int, 41), []), (.inr (.int, 41), []), (.inr (.int, 41), []), (.inl 0, [.null, .null, .null, .null, .null, .null, .null, .null, .ref 12, .ref 13, .ref 14, .ref 15, .ref 16, .ref 17, .ref 18, .ref 19, .ref 20]), (.inr (.int, 6), []), (.inr (.int, 5), []), (.inr (.int, 5), []), (.inr (.int, 5), []), (.inr (.int, 5), []), (.inr (.int, 5), []), (.inr (.int, 41), []), (.inr (.int, 41), []), (.inr (.int, 41), []), (.inl 3, [.ref 22, .null, .ref 30, .ref 31]), (.inl 2, [.ref 23, .ref 24, .ref 25, .ref 26, .ref 27, .ref 28, .ref 29]), (.inr (.int, 5), []), (.inr (.int, 5), []), (.inr (.int, 5), []), (.inr (.int, 5), []), (.inr (.int, 5), []), (.inr (.int, 5), []), (.inr (.int, 6), []), (.inr (.int, 305), []), (.inr (.int, 305), []), (.inl 3, [.ref 33, .null, .ref 41, .ref 42]), (.inl 2, [.ref 34, .ref 35, .ref 36, .ref 37, .ref 38, .ref 39, .ref 40]), (.inr (.int, 5), []), (.inr (.int, 5), []), (.inr (.int, 5), []), (.inr (.int, 5), []), (.inr (.int, 5), []), (.inr (.int, 5), []), (.inr (.int, 6), []), (.inr (.int, 305), []), (.inr (.int, 305), []), (.inl 2, [.ref 44, .ref 45, .ref 46, .ref 47, .ref 48, .ref 49, .ref 50]), (.inr (.int, 5), []), (.inr (.int, 5), []), (.inr (.int, 5), []), (.inr (.int, 5), []), (.inr (.int, 5), []), (.inr (.int, 5), []), (.inr (.int, 6), []), (.inl 8, [.ref 52]), (.inr (.int, 800), []), (.inr (.object RX7, 4), [.ref 54, .ref 56, .ref 58, .ref 60]), (.inl 7, [.null, .null, .ref 55]), (.inr (.long, 60), []), (.inl 7, [.null, .null, .ref 57]), (.inr (.long, 60), []), (.inl 7, [.null, .null, .ref 59]), (.inr (.long, 60), []), (.inl 7, [.null, .null, .ref 61]), (.inr (.long, 60), []), (.inr (.int, 366), []), (.inl 5, [.null, .ref 64, .ref 65]), (.inr (.int, 10), []), (.inr (.int, 10), []), (.inl 4, [.null, .null, .ref 67]), (.inr (.int, 36), []), (.inl 6, [.null, .null, .null, .ref 69, .ref 70, .ref 71]), (.inr (.int, 5), []), (.inr (.int, 5), []), (.inr (.int, 5), []), (.inl 1, [.null, .ref 73, .ref 74, .ref 75]), (.inr (.long, 50), []), (.inr (.long, 50), []), (.inr (.object RX2, 11), [.ref 76, .ref 84, .ref 92, .ref 100, .ref 108, .ref 116, .ref 124, .ref 132, .ref 140, .ref 148, .ref 156]), (.inl 2, [.ref 77, .ref 78, .ref 79, .ref 80, .ref 81, .ref 82, .ref 83]), (.inr (.int, 5), []), (.inr (.int, 5), []), (.inr (.int, 5), []), (.inr (.int, 5), []), (.inr (.int, 5), []), (.inr (.int, 5), []), (.inr (.int, 6), []), (.inl 2, [.ref 85, .ref 86, .ref 87, .ref 88, .ref 89, .ref 90, .ref 91]), (.inr (.int, 5), []), (.inr (.int, 5), []), (.inr (.int, 5), []), (.inr (.int, 5), []), (.inr (.int, 5), []), (.inr (.int, 5), []), (.inr (.int, 6), []), (.inl 2, [.ref 93, .ref 94, .ref 95, .ref 96, .ref 97, .ref 98, .ref 99]), (.inr (.int, 5), []), (.inr (.int, 5), []), (.inr (.int, 5), []), (.inr (.int, 5), []), (.inr (.int, 5), []), (.inr (.int, 5), []), (.inr (.int, 6), []), (.inl 2, [.ref 101, .ref 102, .ref 103, .ref 104, .ref 105, .ref 106, .ref 107]), (.inr (.int, 5), []), (.inr (.int, 5), []), (.inr (.int, 5), []), (.inr (.int, 5), []), (.inr (.int, 5), []), (.inr (.int, 5), []), (.inr (.int, 6), []), (.inl 2, [.ref 109, .ref 110, .ref 111, .ref 112, .ref 113, .ref 114, .ref 115]), (.inr (.int, 5), []), (.inr (.int, 5), []), (.inr (.int, 5), []), (.inr (.int, 5), []), (.inr (.int, 5), []), (.inr (.int, 5), []), (.inr (.int, 6), []), (.inl 2, [.ref 117, .ref 118, .ref 119, .ref 120, .ref 121, .ref 122, .ref 123]), (.inr (.int, 5), []), (.inr (.int, 5), []), (.inr (.int, 5), []), (.inr (.int, 5), []), (.inr (.int, 5), []), (.inr (.int, 5), []), (.inr (.int, 6), []), (.inl 2, [.ref 125, .ref 126, .ref 127, .ref 128, .ref 129, .ref 130, .ref 131]), (.inr (.int, 5), []), (.inr (.int, 5), []), (.inr (.int, 5), []), (.inr (.int, 5), []), (.inr (.int, 5), []), (.inr (.int, 5), []), (.inr (.int, 6), []), (.inl 2, [.ref 133, .ref 134, .ref 135, .ref 136, .ref 137, .ref 138, .ref 139]), (.inr (.int, 5), []), (.inr (.int, 5), []), (.inr (.int, 5), []), (.inr (.int, 5), []), (.inr (.int, 5), []), (.inr (.int, 5), []), (.inr (.int, 6), []), (.inl 2, [.ref 141, .ref 142, .ref 143, .ref 144, .ref 145, .ref 146, .ref 147]), (.inr (.int, 5), []), (.inr (.int, 5), []), (.inr (.int, 5), []), (.inr (.int, 5), []), (.inr (.int, 5), []), (.inr (.int, 5), []), (.inr (.int, 6), []), (.inl 2, [.ref 149, .ref 150, .ref 151, .ref 152, .ref 153, .ref 154, .ref 155]), (.inr (.int, 5), []), (.inr (.int, 5), []), (.inr (.int, 5), []), (.inr (.int, 5), []), (.inr (.int, 5), []), (.inr (.int, 5), []), (.inr (.int, 6), []), (.inl 2, [.ref 157, .ref 158, .ref 159, .ref 160, .ref 161, .ref 162, .ref 163]), (.inr (.int, 5), []), (.inr (.int, 5), []), (.inr (.int, 5), []), (.inr (.int, 5), []), (.inr (.int, 5), []), (.inr (.int, 5), []), (.inr (.int, 6), []), (.inr (.object RX0, 3), [.null, .null, .null]), (.inl 10, [.null, .ref 166, .ref 167, .ref 168, .ref 169, .ref 170, .null, .null, .null, .null, .null, .null, .null, .null, .null, .null, .ref 171, .ref 172, .ref 173, .ref 174, .ref 175, .ref 176, .null, .null, .null, .null, .null, .null, .null, .ref 177, .ref 178, .ref 179, .ref 180, .ref 181, .ref 182, .ref 183, .ref 184, .ref 185, .ref 186, .ref 187, .ref 188, .ref 189, .ref 190, .null, .null, .ref 191, .null, .ref 192, .ref 193, .ref 194, .null, .ref 195]), (.inr (.int, 4), []), (.inr (.int, 4), []), (.inr (.long, 240), []), (.inr (.long, 60), []), (.inr (.byte, 800), []), (.inr (.int, 5), []), (.inr (.int, 35), []), (.inr (.int, 30), []), (.inr (.int, 125), []), (.inr (.int, 600), []), (.inr (.boolean, 3), []), (.inr (.int, 6), []), (.inr (.int, 5), []), (.inr (.int, 5), []), (.inr (.int, 5), []), (.inr (.int, 305), []), (.inr (.int, 305), []), (.inr (.int, 5), []), (.inr (.int, 5), []), (.inr (.boolean, 40), []), (.inr (.int, 5), []), (.inr (.int, 5), []), (.inr (.int, 5), []), (.inr (.boolean, 5), []), (.inr (.int, 5), []), (.inr (.int, 5), []), (.inr (.int, 6161), []), (.inr (.int, 10), []), (.inr (.int, 10), []), (.inr (.int, 36), [])]
def zL_WC : zn_W := [(51, 2, 0), (51, 3, -1), (54, 0, -1), (56, 0, -1), (58, 0, -1), (60, 0, -1), (165, 15, -1), (166, 0, -1), (166, 1, -1), (166, 2, -1), (166, 3, -1)]
