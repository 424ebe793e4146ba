/-! MOVE, UNDO, ANEW, RATE: what they do to today's bench, on both sides -/
section ZPV
variable {I : Nat → Nat → Int32} {J : Nat → Nat → Int64}
theorem zV_hbX : zF_X9_hasBench zW_X [.ref 0] (I, J) = some (some (.int (if (I 1 0).toInt ≤ 0 then 0 else 1)), (I, J)) := by
  have e0 : zv_X9_hasBench_X_15 I J 0 = some (some (.int 0), (I, J)) := by rw [zq_X9_hasBench_X_15, if_pos (Or.inl rfl)]
  have e1 : zv_X9_hasBench_X_15 I J 1 = some (some (.int 1), (I, J)) := by rw [zq_X9_hasBench_X_15, if_pos (Or.inr rfl)]
  rw [zf_X9_hasBench_X, zq_X9_hasBench_X_0]
  by_cases c : I 1 0 ≤ 0
  · rw [if_pos c, zq_X9_hasBench_X_14, e0]
    rw [ze_le, ze_i0] at c
    rw [if_pos c]
  · rw [if_neg c, zq_X9_hasBench_X_10, e1]
    rw [ze_le, ze_i0] at c
    rw [if_neg c]
theorem zV_ibM : zF_X10_isBench zW_M [.ref 0] (I, J) = some (some (.int (if (I 6 0).toInt ≤ 0 then 0 else 1)), (I, J)) := by
  have e0 : zv_X10_isBench_M_14 I J 0 = some (some (.int 0), (I, J)) := by rw [zq_X10_isBench_M_14, if_pos (Or.inl rfl)]
  have e1 : zv_X10_isBench_M_14 I J 1 = some (some (.int 1), (I, J)) := by rw [zq_X10_isBench_M_14, if_pos (Or.inr rfl)]
  rw [zf_X10_isBench_M, zq_X10_isBench_M_0, if_neg (by decide), show Int32.toNatClampNeg 0 = 0 by decide]
  by_cases c : I 6 0 ≤ 0
  · rw [if_pos c, zq_X10_isBench_M_13, e0]
    rw [ze_le, ze_i0] at c
    rw [if_pos c]
  · rw [if_neg c, zq_X10_isBench_M_9, e1]
    rw [ze_le, ze_i0] at c
    rw [if_neg c]
theorem zV_miX (l : Int32) : zF_X9_isMinute zW_X [.int l] (I, J) = some (some (.int (if 0 ≤ l.toInt ∧ l.toInt ≤ 60 then 1 else 0)), (I, J)) := by
  have e0 : zv_X9_isMinute_X_15 I J l 0 = some (some (.int 0), (I, J)) := by rw [zq_X9_isMinute_X_15, if_pos (Or.inl rfl)]
  have e1 : zv_X9_isMinute_X_15 I J l 1 = some (some (.int 1), (I, J)) := by rw [zq_X9_isMinute_X_15, if_pos (Or.inr rfl)]
  rw [zf_X9_isMinute_X, zq_X9_isMinute_X_0]
  by_cases c : l < 0
  · rw [if_pos c, zq_X9_isMinute_X_14, e0]
    rw [ze_lt, ze_i0] at c
    rw [if_neg (by omega)]
  · rw [if_neg c, zq_X9_isMinute_X_4]
    rw [ze_lt, ze_i0] at c
    by_cases d : (60 : Int32) < l
    · rw [if_pos d, zq_X9_isMinute_X_14, e0]
      rw [ze_lt, ze_i60] at d
      rw [if_neg (by omega)]
    · rw [if_neg d, zq_X9_isMinute_X_10, e1]
      rw [ze_lt, ze_i60] at d
      rw [if_pos (by omega)]
theorem zV_miM (l : Int32) : zF_X10_isMinute zW_M [.int l] (I, J) = some (some (.int (if 0 ≤ l.toInt ∧ l.toInt ≤ 60 then 1 else 0)), (I, J)) := by
  rw [zf_X10_isMinute_M, zc_X10_isMinute_M_0 _ _ _ (zh_inV _ _ _ _ _), zq_X10_isMinute_M_9, if_pos (zh_inr_b _ _ _), ze_inr, ze_l0, Int32.toInt_toInt64, show (60 : Int64).toInt = 60 by decide]
theorem zV_fg : zF_X9_forgetAnswers zW_X [.ref 0] (I, J) = some (none, (zm_w (zm_w (zm_w I 21 1 0) 68 0 0) 72 0 0, J)) := (zf_X9_forgetAnswers_X _ _).trans (zq_X9_forgetAnswers_X_0 _ _)
theorem zV_fgo {K : Nat → Nat → Int32} {n b : Nat} (h : n ≠ 21 ∧ n ≠ 68 ∧ n ≠ 72) : zm_w (zm_w (zm_w K 21 1 0) 68 0 0) 72 0 0 n b = K n b := by rw [ze_wo h.2.2, ze_wo h.2.1, ze_wo h.1]
theorem zV_add (M : zm_I) (l1 l2 l3 : Int32) {k : Nat} (hk : k < 41) (h7 : M.1 0 7 = Int32.ofNat k) : zF_X0_addAct zW_B [.ref 0, .int l1, .int l2, .int l3] M = some (none, (zm_w (zm_w (zm_w (zm_w M.1 7 k l1) 8 k l2) 9 k l3) 0 7 (Int32.ofNat (k + 1)), M.2)) := by
  have e : zF_X0_addAct zW_B [.ref 0, .int l1, .int l2, .int l3] M = zv_X0_addAct_B_0 M.1 M.2 l1 l2 l3 := zf_X0_addAct_B M.1 M.2 l1 l2 l3
  have c : M.1 0 7 ≤ 40 := by
    rw [h7, ze_le, zp_o (by omega), show (40 : Int32).toInt = 40 by decide]
    omega
  have w1 : zm_w M.1 7 k l1 0 7 = Int32.ofNat k := by rw [ze_wo (by decide), h7]
  have w2 : zm_w (zm_w M.1 7 k l1) 8 k l2 0 7 = Int32.ofNat k := by rw [ze_wo (by decide), w1]
  have w3 : zm_w (zm_w (zm_w M.1 7 k l1) 8 k l2) 9 k l3 0 7 = Int32.ofNat k := by rw [ze_wo (by decide), w2]
  rw [e, zq_X0_addAct_B_0, if_pos c, zq_X0_addAct_B_10, h7, if_neg (zp_in (by omega) hk), zp_cl (by omega), w1, if_neg (zp_in (by omega) hk), zp_cl (by omega), w2, if_neg (zp_in (by omega) hk), zp_cl (by omega), w3, zp_o1 (by omega)]
/-- what a move asks -/
def zV_ok (C S k : Int) (l1 l2 l3 : Int32) : Prop := (0 ≤ l1.toInt ∧ l1.toInt < C) ∧ (0 ≤ l2.toInt ∧ l2.toInt < S) ∧ (0 ≤ l3.toInt ∧ l3.toInt ≤ 60) ∧ k < 40
theorem zV_mvX (hG : zt_Gs zo_g1 (I, J)) (l1 l2 l3 : Int32) {x : Int32} {N : zm_I} (h : zF_X9_move zW_X [.ref 0, .int l1, .int l2, .int l3] (I, J) = some (some (.int x), N)) : (¬ zV_ok (I 1 6).toInt (I 1 5).toInt (I 1 7).toInt l1 l2 l3 ∧ ∀ n b, 1 ≤ n → n ≤ 10 → N.1 n b = I n b) ∨ (zV_ok (I 1 6).toInt (I 1 5).toInt (I 1 7).toInt l1 l2 l3 ∧ ∃ k : Nat, I 1 7 = Int32.ofNat k ∧ k < 40 ∧ ∀ n b, 1 ≤ n → n ≤ 10 → N.1 n b = zm_w (zm_w (zm_w (zm_w I 8 k l1) 9 k l2) 10 k l3) 1 7 (Int32.ofNat (k + 1)) n b) := by
  have b7 : (0 : Int) ≤ (I 1 7).toInt ∧ (I 1 7).toInt ≤ 41 := hG 1 _ rfl 7 _ rfl
  have b6 : (0 : Int) ≤ (I 1 6).toInt ∧ (I 1 6).toInt ≤ 5 := hG 1 _ rfl 6 _ rfl
  have b5 : (0 : Int) ≤ (I 1 5).toInt ∧ (I 1 5).toInt ≤ 6 := hG 1 _ rfl 5 _ rfl
  have id1 : zm_mrg [(1, 10)] (I, J) (zm_sub2 [(1, 10)] (I, J)) = (I, J) := zm_mrg_id _ _
  have hc := zp_hasCaller (zm_sub2 [(1, 10)] (I, J)) l1
  have hs := zp_hasSeat (zm_sub2 [(1, 10)] (I, J)) l2
  rw [show (zm_sub2 [(1, 10)] (I, J)).1 0 6 = I 1 6 from rfl] at hc
  rw [show (zm_sub2 [(1, 10)] (I, J)).1 0 5 = I 1 5 from rfl] at hs
  have h := (zf_X9_move_X I J l1 l2 l3).symm.trans h
  rw [zc_X9_move_X_0 _ _ _ _ _ hc, id1, zq_X9_move_X_8] at h
  have no : ∀ {P : Prop}, ¬ zV_ok (I 1 6).toInt (I 1 5).toInt (I 1 7).toInt l1 l2 l3 → N = (I, J) → (¬ zV_ok (I 1 6).toInt (I 1 5).toInt (I 1 7).toInt l1 l2 l3 ∧ ∀ n b, 1 ≤ n → n ≤ 10 → N.1 n b = I n b) ∨ P := fun hn e => Or.inl ⟨hn, fun n b _ _ => by rw [e]⟩
  by_cases c1 : 0 ≤ l1.toInt ∧ l1.toInt < (I 1 6).toInt
  rotate_left
  · rw [if_neg c1, if_pos rfl, zq_X9_move_X_29] at h
    exact no (fun z => c1 z.1) (by cases h; rfl)
  rw [if_pos c1, if_neg (by decide), zc_X9_move_X_11 _ _ _ _ _ hs, id1, zq_X9_move_X_19] at h
  by_cases c2 : 0 ≤ l2.toInt ∧ l2.toInt < (I 1 5).toInt
  rotate_left
  · rw [if_neg c2, if_pos rfl, zq_X9_move_X_29] at h
    exact no (fun z => c2 z.2.1) (by cases h; rfl)
  rw [if_pos c2, if_neg (by decide), zc_X9_move_X_22 _ _ _ _ _ (zV_miX l3), zq_X9_move_X_26] at h
  by_cases c3 : 0 ≤ l3.toInt ∧ l3.toInt ≤ 60
  rotate_left
  · rw [if_neg c3, if_pos rfl, zq_X9_move_X_29] at h
    exact no (fun z => c3 z.2.2.1) (by cases h; rfl)
  rw [if_pos c3, if_neg (by decide), zq_X9_move_X_32] at h
  by_cases c4 : I 1 7 < 40
  rotate_left
  · rw [if_neg c4, zq_X9_move_X_44] at h
    rw [ze_lt, show (40 : Int32).toInt = 40 by decide] at c4
    exact no (fun z => c4 z.2.2.2) (by cases h; rfl)
  rw [if_pos c4] at h
  rw [ze_lt, show (40 : Int32).toInt = 40 by decide] at c4
  refine Or.inr ⟨⟨c1, c2, c3, c4⟩, ?_⟩
  obtain ⟨k, hk⟩ : ∃ k : Nat, (I 1 7).toInt = k := ⟨(I 1 7).toInt.toNat, by omega⟩
  have h7 : I 1 7 = Int32.ofNat k := Int32.toInt_inj.mp (by rw [hk, zp_o (by omega)])
  refine ⟨k, h7, by omega, ?_⟩
  rw [zc_X9_move_X_47 _ _ _ _ _ (zV_add (zm_sub2 [(1, 10)] (I, J)) l1 l2 l3 (k := k) (by omega) h7), zc_X9_move_X_66 _ _ _ _ _ _ zV_fg] at h
  generalize hQ : zm_mrg [(1, 10)] (I, J) (zm_w (zm_w (zm_w (zm_w (zm_sub2 [(1, 10)] (I, J)).1 7 k l1) 8 k l2) 9 k l3) 0 7 (Int32.ofNat (k + 1)), (zm_sub2 [(1, 10)] (I, J)).2) = Q at h
  have em : ∀ n b, Q.1 n b = zm_w (zm_w (zm_w (zm_w I 8 k l1) 9 k l2) 10 k l3) 1 7 (Int32.ofNat (k + 1)) n b := fun n b => by
    rw [← hQ]
    by_cases hn : n < 1 ∨ 1 + 10 ≤ n
    · rw [(zy_m0 hn _ _).1, ze_wo (by omega), ze_wo (by omega), ze_wo (by omega), ze_wo (by omega)]
    · rw [(zy_m1 (a := 1) (z := 10) (n := n) (by omega) (by omega) _ _).1]
      obtain ⟨m, rfl⟩ : ∃ m, n = 1 + m := ⟨n - 1, by omega⟩
      rw [Nat.add_sub_cancel_left]
      have es : (zm_sub2 [(1, 10)] (I, J)).1 m b = I (1 + m) b := by rw [(zy_s1 (a := 1) (z := 10) (n := m) (by omega) (I, J)).1]
      unfold zm_w
      simp only [show (1 + m = 1) ↔ m = 0 by omega, show (1 + m = 8) ↔ m = 7 by omega, show (1 + m = 9) ↔ m = 8 by omega, show (1 + m = 10) ↔ m = 9 by omega, es]
  have emJ : ∀ n, Q.2 n = J n := fun n => by
    rw [← hQ]
    by_cases hn : n < 1 ∨ 1 + 10 ≤ n
    · rw [(zy_m0 hn _ _).2]
    · rw [(zy_m1 (a := 1) (z := 10) (n := n) (by omega) (by omega) _ _).2, (zy_s1 (a := 1) (z := 10) (n := n - 1) (by omega) (I, J)).2, show 1 + (n - 1) = n by omega]
  have eI : Q.1 = zm_w (zm_w (zm_w (zm_w I 8 k l1) 9 k l2) 10 k l3) 1 7 (Int32.ofNat (k + 1)) := funext fun n => funext fun b => em n b
  have eJ : Q.2 = J := funext emJ
  rw [eI, eJ] at h
  have hG1 : zt_Gs zo_g1 (zm_w (zm_w (zm_w (zm_w I 8 k l1) 9 k l2) 10 k l3) 1 7 (Int32.ofNat (k + 1)), J) :=
    zt_Gs_w (zt_Gs_w (zt_Gs_w (zt_Gs_w hG (n := 8) (lo := 0) (hi := 40) (st := 1) (i := k) ⟨by omega, by omega, Nat.one_dvd _⟩ (x := l1) (a := 0) (b := 4) c1.1 (by omega) (by decide +kernel)) (n := 9) (lo := 0) (hi := 40) (st := 1) (i := k) ⟨by omega, by omega, Nat.one_dvd _⟩ (x := l2) (a := 0) (b := 5) c2.1 (by omega) (by decide +kernel)) (n := 10) (lo := 0) (hi := 40) (st := 1) (i := k) ⟨by omega, by omega, Nat.one_dvd _⟩ (x := l3) (a := 0) (b := 60) c3.1 c3.2 (by decide +kernel)) (n := 1) (lo := 7) (hi := 7) (st := 1) (i := 7) ⟨by omega, by omega, Nat.one_dvd _⟩ (x := Int32.ofNat (k + 1)) (a := 0) (b := 41) (by rw [zp_o (by omega)]; omega) (by rw [zp_o (by omega)]; omega) (by decide +kernel)
  have hG2 : zt_Gs zo_g1 (zm_w (zm_w (zm_w (zm_w (zm_w (zm_w (zm_w I 8 k l1) 9 k l2) 10 k l3) 1 7 (Int32.ofNat (k + 1))) 21 1 0) 68 0 0) 72 0 0, J) := zy_Gw (zy_Gw (zy_Gw hG1 (by decide +kernel)) (by decide +kernel)) (by decide +kernel)
  generalize hK : zm_w (zm_w (zm_w (zm_w I 8 k l1) 9 k l2) 10 k l3) 1 7 (Int32.ofNat (k + 1)) = K at h hG2 ⊢
  obtain ⟨v, L, q1, -, q3, o, ho, hr⟩ := zp_get (w0 := zW_X) (G := zo_g1) (zi_78 0 zo_hd) rfl rfl (as := [.ref 0]) (zq_s1 zq_r0 zq_s0) zh_no hG2
  have hv : v = some (.ref 21) := by
    have ho' : o = (some (zjr 21), [], [], []) := List.mem_singleton.mp ho
    subst ho'
    obtain ⟨w, e, hw⟩ : ∃ w, v = some w ∧ w = Value.ref 21 := hr.1
    rw [e, hw]
  subst hv
  rw [zc_X9_move_X_70 _ _ _ _ _ _ (I2 := L.1) (J2 := L.2) q1, zq_X9_move_X_74] at h
  cases h
  intro n b h1 h10
  rw [(q3 n b (by
    have : zt_hit zi_78_K.2.2.1 n b = false := zt_hit_no (by
      have : n = 1 ∨ n = 2 ∨ n = 3 ∨ n = 4 ∨ n = 5 ∨ n = 6 ∨ n = 7 ∨ n = 8 ∨ n = 9 ∨ n = 10 := by omega
      rcases this with rfl | rfl | rfl | rfl | rfl | rfl | rfl | rfl | rfl | rfl <;> decide) b
    exact this)).1]
  exact zV_fgo (by omega)
/-- the reference's move -/
theorem zV_mvM (hG : zt_Gs zo_g22 (I, J)) (hP : zq_P (I, J)) (h7 : 0 ≤ (I 7 6).toInt ∧ (I 7 6).toInt ≤ 40) (l1 l2 l3 : Int32) {y : Int32} {N : zm_I} (h : zF_X10_move zW_M [.ref 0, .int l1, .int l2, .int l3] (I, J) = some (some (.int y), N)) : (¬ zV_ok (I 7 5).toInt (I 7 4).toInt (I 7 6).toInt l1 l2 l3 ∧ ∀ n b, n ≠ 0 → n < 12 → N.1 n b = I n b) ∨ (zV_ok (I 7 5).toInt (I 7 4).toInt (I 7 6).toInt l1 l2 l3 ∧ ∃ k : Nat, I 7 6 = Int32.ofNat k ∧ k < 40 ∧ ∀ n b, n ≠ 0 → n < 12 → N.1 n b = zm_w (zm_w (zm_w (zm_w I 10 (3 * k) l1) 10 (3 * k + 1) l2) 10 (3 * k + 2) l3) 7 6 (Int32.ofNat (k + 1)) n b) := by
  have b4 : (0 : Int) ≤ (I 7 4).toInt := (hG 7 _ rfl 4 _ rfl).1
  have w0 : ∀ n b, n ≠ 0 → zm_w I 0 0 0 n b = I n b := fun n b hn => ze_wo hn
  have c6 : Int32.toNatClampNeg 6 = 6 := by decide
  have h := (zf_X10_move_M I J l1 l2 l3).symm.trans h
  rw [zc_X10_move_M_0 _ _ _ _ _ (zp_isCallerM l1), zq_X10_move_M_11, w0 7 5 (by decide)] at h
  have no : ∀ {P : Prop}, ¬ zV_ok (I 7 5).toInt (I 7 4).toInt (I 7 6).toInt l1 l2 l3 → N = (zm_w I 0 0 0, J) → (¬ zV_ok (I 7 5).toInt (I 7 4).toInt (I 7 6).toInt l1 l2 l3 ∧ ∀ n b, n ≠ 0 → n < 12 → N.1 n b = I n b) ∨ P := fun hn e => Or.inl ⟨hn, fun n b hb _ => by rw [e]; exact w0 n b hb⟩
  by_cases c1 : 0 ≤ l1.toInt ∧ l1.toInt < (I 7 5).toInt
  rotate_left
  · rw [if_neg c1, if_pos rfl, zq_X10_move_M_30] at h
    exact no (fun z => c1 z.1) (by cases h; rfl)
  rw [if_pos c1, if_neg (by decide), zc_X10_move_M_14 _ _ _ _ _ (zp_isSeatM l2 (by rw [w0 7 4 (by decide)]; exact b4)), zq_X10_move_M_20, w0 7 4 (by decide)] at h
  by_cases c2 : 0 ≤ l2.toInt ∧ l2.toInt < (I 7 4).toInt
  rotate_left
  · rw [if_neg c2, if_pos rfl, zq_X10_move_M_30] at h
    exact no (fun z => c2 z.2.1) (by cases h; rfl)
  rw [if_pos c2, if_neg (by decide), zc_X10_move_M_23 _ _ _ _ _ (zV_miM l3), zq_X10_move_M_27] at h
  by_cases c3 : 0 ≤ l3.toInt ∧ l3.toInt ≤ 60
  rotate_left
  · rw [if_neg c3, if_pos rfl, zq_X10_move_M_30] at h
    exact no (fun z => c3 z.2.2.1) (by cases h; rfl)
  rw [if_pos c3, if_neg (by decide), zq_X10_move_M_33, if_neg (by decide), c6, w0 7 6 (by decide)] at h
  by_cases c4 : I 7 6 = 40
  · rw [if_pos c4, zq_X10_move_M_45] at h
    refine no (fun z => ?_) (by cases h; rfl)
    have z4 := z.2.2.2
    rw [c4, show (40 : Int32).toInt = 40 by decide] at z4
    omega
  rw [if_neg c4] at h
  have c4 : (I 7 6).toInt < 40 := by
    have : ¬ (I 7 6).toInt = 40 := fun e => c4 (Int32.toInt_inj.mp (by rw [e]; decide))
    omega
  refine Or.inr ⟨⟨c1, c2, c3, c4⟩, ?_⟩
  obtain ⟨k, hk⟩ : ∃ k : Nat, (I 7 6).toInt = k := ⟨(I 7 6).toInt.toNat, by omega⟩
  have e7 : I 7 6 = Int32.ofNat k := Int32.toInt_inj.mp (by rw [hk, zp_o (by omega)])
  refine ⟨k, e7, by omega, ?_⟩
  have m3 : (3 : Int32) * Int32.ofNat k = Int32.ofNat (3 * k) := by
    apply Int32.toInt_inj.mp
    have t3 : (3 : Int32).toInt = 3 := by decide
    rw [zh_mul (by rw [t3, zp_o (by omega)]; omega) (by rw [t3, zp_o (by omega)]; omega), t3, zp_o (by omega), zp_o (by omega)]
    omega
  have m31 : Int32.ofNat (3 * k) + 1 = Int32.ofNat (3 * k + 1) := zp_o1 (by omega)
  have m32 : Int32.ofNat (3 * k) + 2 = Int32.ofNat (3 * k + 2) := zh_ofadd (by decide) (by omega)
  have r6 : zm_w (zm_w (zm_w (zm_w I 0 0 0) 10 (3 * k) l1) 10 (3 * k + 1) l2) 10 (3 * k + 2) l3 7 6 = Int32.ofNat k := by rw [ze_wo (by decide), ze_wo (by decide), ze_wo (by decide), ze_wo (by decide), e7]
  rw [zq_X10_move_M_48, if_neg (by decide), c6, w0 7 6 (by decide), e7, m3, if_neg (zp_in (by omega) (by omega)), m31, if_neg (zp_in (by omega) (by omega)), m32, if_neg (zp_in (by omega) (by omega)), if_neg (by decide), if_neg (by decide), zp_cl (by omega), zp_cl (by omega), zp_cl (by omega), r6, zp_o1 (by omega)] at h
  have hG0 : zt_Gs zo_g22 (zm_w I 0 0 0, J) := zy_Gw hG (by decide +kernel)
  have hG1 : zt_Gs zo_g22 (zm_w (zm_w (zm_w (zm_w (zm_w I 0 0 0) 10 (3 * k) l1) 10 (3 * k + 1) l2) 10 (3 * k + 2) l3) 7 6 (Int32.ofNat (k + 1)), J) :=
    zt_Gs_w (zt_Gs_w (zt_Gs_w (zt_Gs_w hG0 (n := 10) (lo := 0) (hi := 597) (st := 3) (i := 3 * k) ⟨by omega, by omega, ⟨k, by omega⟩⟩ (x := l1) (a := 0) (b := 4) c1.1 (by have := (hG 7 _ rfl 5 _ rfl).2; have : (I 7 5).toInt ≤ 5 := this; omega) (by decide +kernel)) (n := 10) (lo := 1) (hi := 598) (st := 3) (i := 3 * k + 1) ⟨by omega, by omega, ⟨k, by omega⟩⟩ (x := l2) (a := 0) (b := 5) c2.1 (by have : (I 7 4).toInt ≤ 6 := (hG 7 _ rfl 4 _ rfl).2; omega) (by decide +kernel)) (n := 10) (lo := 2) (hi := 599) (st := 3) (i := 3 * k + 2) ⟨by omega, by omega, ⟨k, by omega⟩⟩ (x := l3) (a := 0) (b := 60) c3.1 c3.2 (by decide +kernel)) (n := 7) (lo := 6) (hi := 6) (st := 1) (i := 6) ⟨by omega, by omega, Nat.one_dvd _⟩ (x := Int32.ofNat (k + 1)) (a := 0) (b := 40) (by rw [zp_o (by omega)]; omega) (by rw [zp_o (by omega)]; omega) (by decide +kernel)
  have hf : 1 ≤ (I 7 2).toInt ∧ (I 7 2).toInt ≤ 30 := by
    rcases hP 0 (by decide) with ⟨-, -, z⟩ | z
    · have z : (I 7 5).toInt = 0 := z
      omega
    · exact z
  have hK : ∀ n b, n ≠ 0 → n < 12 → zm_w (zm_w (zm_w (zm_w (zm_w I 0 0 0) 10 (3 * k) l1) 10 (3 * k + 1) l2) 10 (3 * k + 2) l3) 7 6 (Int32.ofNat (k + 1)) n b = zm_w (zm_w (zm_w (zm_w I 10 (3 * k) l1) 10 (3 * k + 1) l2) 10 (3 * k + 2) l3) 7 6 (Int32.ofNat (k + 1)) n b := fun n b hn _ => by
    unfold zm_w
    simp only [hn, false_and, if_false]
  have k72 : zm_w (zm_w (zm_w (zm_w (zm_w I 0 0 0) 10 (3 * k) l1) 10 (3 * k + 1) l2) 10 (3 * k + 2) l3) 7 6 (Int32.ofNat (k + 1)) 7 2 = I 7 2 := by rw [ze_wj (by decide), ze_wo (by decide), ze_wo (by decide), ze_wo (by decide), ze_wo (by decide)]
  generalize zm_w (zm_w (zm_w (zm_w (zm_w I 0 0 0) 10 (3 * k) l1) 10 (3 * k + 1) l2) 10 (3 * k + 2) l3) 7 6 (Int32.ofNat (k + 1)) = K at h hG1 hK k72
  obtain ⟨v, L, q1, -, q3, o, ho, hr⟩ := zp_get (w0 := zW_M) (G := zo_g22) (zi_457 0 zo_hd) rfl rfl (as := [.ref 0]) (zq_s1 zq_r0 zq_s0) (zq_ca (zq_c1 (by show (1 : Int) ≤ (K 7 2).toInt; rw [k72]; exact hf.1) (by show (K 7 2).toInt ≤ (30 : Int); rw [k72]; exact hf.2)) zh_no) hG1
  have hv : v = none := by
    have ho' : o = (none, [], [((1, 0, 23), .ofNat 1, .ofNat 30), ((1, 7, 2), .ofNat 1, .ofNat 30)], []) := List.mem_singleton.mp ho
    subst ho'
    exact hr.1
  subst hv
  rw [zc_X10_move_M_102 _ _ _ _ _ _ (I2 := L.1) (J2 := L.2) q1, zq_X10_move_M_106] at h
  have hN : N = L := by
    split at h
    · cases h
    · split at h
      · rw [zq_X10_move_M_120, zq_X10_move_M_121] at h
        cases h
        rfl
      · rw [zq_X10_move_M_116, zq_X10_move_M_121] at h
        cases h
        rfl
  intro n b h1 h12
  rw [hN, (q3 n b (zt_hit_no (by
    have : n = 1 ∨ n = 2 ∨ n = 3 ∨ n = 4 ∨ n = 5 ∨ n = 6 ∨ n = 7 ∨ n = 8 ∨ n = 9 ∨ n = 10 ∨ n = 11 := by omega
    rcases this with rfl | rfl | rfl | rfl | rfl | rfl | rfl | rfl | rfl | rfl | rfl <;> decide) b)).1]
  exact hK n b h1 h12
/-- undo, anew, rate of the class -/
theorem zV_unX {x : Int32} {N : zm_I} (h : zF_X9_undo zW_X [.ref 0] (I, J) = some (some (.int x), N)) : ((I 1 0).toInt ≤ 0 ∧ x = -2 ∧ ∀ n b, 1 ≤ n → n ≤ 10 → N.1 n b = I n b) ∨ (0 < (I 1 0).toInt ∧ (I 1 7).toInt ≤ 0 ∧ x = -5 ∧ ∀ n b, 1 ≤ n → n ≤ 10 → N.1 n b = I n b) ∨ (0 < (I 1 0).toInt ∧ 0 < (I 1 7).toInt ∧ x = I 1 7 - 1 ∧ ∀ n b, 1 ≤ n → n ≤ 10 → N.1 n b = zm_w I 1 7 (I 1 7 - 1) n b) := by
  have h := (zf_X9_undo_X I J).symm.trans h
  rw [zc_X9_undo_X_0 _ _ zV_hbX, zq_X9_undo_X_4] at h
  by_cases c : (I 1 0).toInt ≤ 0
  · rw [if_pos c, if_pos rfl, zq_X9_undo_X_7] at h
    cases h
    exact Or.inl ⟨c, rfl, fun _ _ _ _ => rfl⟩
  · rw [if_neg c, if_neg (by decide), zq_X9_undo_X_10] at h
    by_cases d : 0 < I 1 7
    · rw [if_pos d, zc_X9_undo_X_23 _ _ zV_fg, zq_X9_undo_X_40, zV_fgo (by decide), ze_wi] at h
      rw [ze_lt, ze_i0] at d
      cases h
      exact Or.inr (Or.inr ⟨by omega, d, rfl, fun n b h1 h2 => zV_fgo (by omega)⟩)
    · rw [if_neg d, zq_X9_undo_X_20] at h
      rw [ze_lt, ze_i0] at d
      cases h
      exact Or.inr (Or.inl ⟨by omega, by omega, rfl, fun _ _ _ _ => rfl⟩)
theorem zV_anX {x : Int32} {N : zm_I} (h : zF_X9_anew zW_X [.ref 0] (I, J) = some (some (.int x), N)) : ((I 1 0).toInt ≤ 0 ∧ x = -2 ∧ ∀ n b, 1 ≤ n → n ≤ 10 → N.1 n b = I n b) ∨ (0 < (I 1 0).toInt ∧ x = I 1 7 ∧ ∀ n b, 1 ≤ n → n ≤ 10 → N.1 n b = zm_w I 1 7 0 n b) := by
  have h := (zf_X9_anew_X I J).symm.trans h
  rw [zc_X9_anew_X_0 _ _ zV_hbX, zq_X9_anew_X_4] at h
  by_cases c : (I 1 0).toInt ≤ 0
  · rw [if_pos c, if_pos rfl, zq_X9_anew_X_7] at h
    cases h
    exact Or.inl ⟨c, rfl, fun _ _ _ _ => rfl⟩
  · rw [if_neg c, if_neg (by decide), zc_X9_anew_X_10 _ _ zV_fg, zq_X9_anew_X_30] at h
    cases h
    exact Or.inr ⟨by omega, rfl, fun n b h1 h2 => zV_fgo (by omega)⟩
theorem zV_raX (l : Int32) {x : Int32} {N : zm_I} (h : zF_X9_rate zW_X [.ref 0, .int l] (I, J) = some (some (.int x), N)) : (¬ (0 < (I 1 0).toInt ∧ 0 ≤ l.toInt ∧ l.toInt ≤ 99) ∧ x = -2 ∧ ∀ n b, 1 ≤ n → n ≤ 10 → N.1 n b = I n b) ∨ ((0 < (I 1 0).toInt ∧ 0 ≤ l.toInt ∧ l.toInt ≤ 99) ∧ 0 < (I 1 7).toInt ∧ x = -5 ∧ ∀ n b, 1 ≤ n → n ≤ 10 → N.1 n b = I n b) ∨ ((0 < (I 1 0).toInt ∧ 0 ≤ l.toInt ∧ l.toInt ≤ 99) ∧ (I 1 7).toInt ≤ 0 ∧ x = I 1 2 ∧ ∀ n b, 1 ≤ n → n ≤ 10 → N.1 n b = zm_w I 1 2 l n b) := by
  have h := (zf_X9_rate_X I J l).symm.trans h
  have i99 : (99 : Int32).toInt = 99 := by decide
  rw [zc_X9_rate_X_0 _ _ _ zV_hbX, zq_X9_rate_X_4] at h
  by_cases c : (I 1 0).toInt ≤ 0
  · rw [if_pos c, if_pos rfl, zq_X9_rate_X_17] at h
    cases h
    exact Or.inl ⟨fun z => by omega, rfl, fun _ _ _ _ => rfl⟩
  rw [if_neg c, if_neg (by decide), zq_X9_rate_X_7] at h
  by_cases d : l < 0
  · rw [if_pos d, zq_X9_rate_X_17] at h
    rw [ze_lt, ze_i0] at d
    cases h
    exact Or.inl ⟨fun z => by omega, rfl, fun _ _ _ _ => rfl⟩
  rw [if_neg d, zq_X9_rate_X_11] at h
  rw [ze_lt, ze_i0] at d
  by_cases e : l ≤ 99
  rotate_left
  · rw [if_neg e, zq_X9_rate_X_17] at h
    rw [ze_le, i99] at e
    cases h
    exact Or.inl ⟨fun z => by omega, rfl, fun _ _ _ _ => rfl⟩
  rw [if_pos e, zq_X9_rate_X_20] at h
  rw [ze_le, i99] at e
  by_cases g : I 1 7 ≤ 0
  · rw [if_pos g, zc_X9_rate_X_33 _ _ _ zV_fg, zq_X9_rate_X_53] at h
    rw [ze_le, ze_i0] at g
    cases h
    exact Or.inr (Or.inr ⟨⟨by omega, by omega, e⟩, g, rfl, fun n b h1 h2 => zV_fgo (by omega)⟩)
  · rw [if_neg g, zq_X9_rate_X_30] at h
    rw [ze_le, ze_i0] at g
    cases h
    exact Or.inr (Or.inl ⟨⟨by omega, by omega, e⟩, by omega, rfl, fun _ _ _ _ => rfl⟩)
/-- undo, anew, rate of the reference -/
theorem zV_unM (h0 : 0 ≤ (I 7 6).toInt) {x : Int32} {N : zm_I} (h : zF_X10_undo zW_M [.ref 0] (I, J) = some (some (.int x), N)) : ((I 6 0).toInt ≤ 0 ∧ x = -2 ∧ ∀ n b, n ≠ 0 → n < 12 → N.1 n b = I n b) ∨ (0 < (I 6 0).toInt ∧ (I 7 6).toInt ≤ 0 ∧ x = -5 ∧ ∀ n b, n ≠ 0 → n < 12 → N.1 n b = I n b) ∨ (0 < (I 6 0).toInt ∧ 0 < (I 7 6).toInt ∧ x = I 7 6 - 1 ∧ ∀ n b, n ≠ 0 → n < 12 → N.1 n b = zm_w I 7 6 (I 7 6 - 1) n b) := by
  have w0 : ∀ n b, n ≠ 0 → zm_w I 0 0 0 n b = I n b := fun n b hn => ze_wo hn
  have c6 : Int32.toNatClampNeg 6 = 6 := by decide
  have h := (zf_X10_undo_M I J).symm.trans h
  rw [zc_X10_undo_M_0 _ _ zV_ibM, zq_X10_undo_M_9, w0 6 0 (by decide)] at h
  by_cases c : (I 6 0).toInt ≤ 0
  · rw [if_pos c, if_pos rfl, zq_X10_undo_M_12] at h
    cases h
    exact Or.inl ⟨c, rfl, fun n b h1 _ => w0 n b h1⟩
  rw [if_neg c, if_neg (by decide), zq_X10_undo_M_15, if_neg (by decide), c6, w0 7 6 (by decide)] at h
  by_cases d : I 7 6 = 0
  · rw [if_pos d, zq_X10_undo_M_25] at h
    cases h
    exact Or.inr (Or.inl ⟨by omega, by rw [d]; decide, rfl, fun n b h1 _ => w0 n b h1⟩)
  · have d' : ¬ (I 7 6).toInt = 0 := fun z => d (Int32.toInt_inj.mp (z.trans ze_i0.symm))
    rw [if_neg d, zq_X10_undo_M_28, if_neg (by decide), if_neg (by decide), if_neg (by decide), c6, w0 7 6 (by decide), ze_wi] at h
    cases h
    refine Or.inr (Or.inr ⟨by omega, by omega, rfl, fun n b h1 _ => ?_⟩)
    show zm_w (zm_w I 0 0 0) 7 6 (I 7 6 - 1) n b = _
    unfold zm_w
    simp only [h1, false_and, if_false]
theorem zV_anM {x : Int32} {N : zm_I} (h : zF_X10_anew zW_M [.ref 0] (I, J) = some (some (.int x), N)) : ((I 6 0).toInt ≤ 0 ∧ x = -2 ∧ ∀ n b, n ≠ 0 → n < 12 → N.1 n b = I n b) ∨ (0 < (I 6 0).toInt ∧ x = I 7 6 ∧ ∀ n b, n ≠ 0 → n < 12 → N.1 n b = zm_w I 7 6 0 n b) := by
  have w0 : ∀ n b, n ≠ 0 → zm_w I 0 0 0 n b = I n b := fun n b hn => ze_wo hn
  have c6 : Int32.toNatClampNeg 6 = 6 := by decide
  have h := (zf_X10_anew_M I J).symm.trans h
  rw [zc_X10_anew_M_0 _ _ zV_ibM, zq_X10_anew_M_9, w0 6 0 (by decide)] at h
  by_cases c : (I 6 0).toInt ≤ 0
  · rw [if_pos c, if_pos rfl, zq_X10_anew_M_12] at h
    cases h
    exact Or.inl ⟨c, rfl, fun n b h1 _ => w0 n b h1⟩
  rw [if_neg c, if_neg (by decide), zq_X10_anew_M_15, if_neg (by decide), if_neg (by decide), c6, w0 7 6 (by decide)] at h
  cases h
  refine Or.inr ⟨by omega, rfl, fun n b h1 _ => ?_⟩
  show zm_w (zm_w I 0 0 0) 7 6 0 n b = _
  unfold zm_w
  simp only [h1, false_and, if_false]
theorem zV_raM (l : Int32) {x : Int32} {N : zm_I} (h : zF_X10_rate zW_M [.ref 0, .int l] (I, J) = some (some (.int x), N)) : (¬ (0 < (I 6 0).toInt ∧ 0 ≤ l.toInt ∧ l.toInt ≤ 99) ∧ x = -2 ∧ ∀ n b, n ≠ 0 → n < 12 → N.1 n b = I n b) ∨ ((0 < (I 6 0).toInt ∧ 0 ≤ l.toInt ∧ l.toInt ≤ 99) ∧ 0 < (I 7 6).toInt ∧ x = -5 ∧ ∀ n b, n ≠ 0 → n < 12 → N.1 n b = I n b) ∨ ((0 < (I 6 0).toInt ∧ 0 ≤ l.toInt ∧ l.toInt ≤ 99) ∧ (I 7 6).toInt ≤ 0 ∧ x = I 7 1 ∧ ∀ n b, n ≠ 0 → n < 12 → N.1 n b = zm_w I 7 1 l n b) := by
  have w0 : ∀ n b, n ≠ 0 → zm_w I 0 0 0 n b = I n b := fun n b hn => ze_wo hn
  have c6 : Int32.toNatClampNeg 6 = 6 := by decide
  have c1 : Int32.toNatClampNeg 1 = 1 := by decide
  have h := (zf_X10_rate_M I J l).symm.trans h
  rw [zc_X10_rate_M_0 _ _ _ zV_ibM, zq_X10_rate_M_9, w0 6 0 (by decide)] at h
  by_cases c : (I 6 0).toInt ≤ 0
  · rw [if_pos c, if_pos rfl, zq_X10_rate_M_24] at h
    cases h
    exact Or.inl ⟨fun z => by omega, rfl, fun n b h1 _ => w0 n b h1⟩
  rw [if_neg c, if_neg (by decide), zc_X10_rate_M_12 _ _ _ (zh_inV _ _ _ _ _), zq_X10_rate_M_21, ze_inr, ze_l0, Int32.toInt_toInt64, show (99 : Int64).toInt = 99 by decide] at h
  by_cases d : 0 ≤ l.toInt ∧ l.toInt ≤ 99
  rotate_left
  · rw [if_neg d, if_pos rfl, zq_X10_rate_M_24] at h
    cases h
    exact Or.inl ⟨fun z => d z.2, rfl, fun n b h1 _ => w0 n b h1⟩
  rw [if_pos d, if_neg (by decide), zq_X10_rate_M_27, if_neg (by decide), c6, w0 7 6 (by decide)] at h
  by_cases g : I 7 6 ≤ 0
  · rw [if_pos g, zq_X10_rate_M_40, if_neg (by decide), if_neg (by decide), c1, w0 7 1 (by decide)] at h
    rw [ze_le, ze_i0] at g
    cases h
    refine Or.inr (Or.inr ⟨⟨by omega, d⟩, g, rfl, fun n b h1 _ => ?_⟩)
    show zm_w (zm_w I 0 0 0) 7 1 l n b = _
    unfold zm_w
    simp only [h1, false_and, if_false]
  · rw [if_neg g, zq_X10_rate_M_37] at h
    rw [ze_le, ze_i0] at g
    cases h
    exact Or.inr (Or.inl ⟨⟨by omega, d⟩, by omega, rfl, fun n b h1 _ => w0 n b h1⟩)
end ZPV
