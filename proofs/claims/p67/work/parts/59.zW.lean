/-! WHAT IS KEPT BESIDE: move, undo, anew, rate -/
section ZRW
variable {ks : List Nat} {M N1 N2 : zm_I} {I I' : Nat → Nat → Int32}
theorem zW_pt {K K' : Nat → Nat → Int32} (h : zqC 1 0 K K') (h1 : ∀ n b, 1 ≤ n → n ≤ 10 → I n b = K n b) (h2 : ∀ n b, n ≠ 0 → n < 12 → I' n b = K' n b) : zqC 1 0 I I' :=
  zR_q h (zR_xr (fun q b hq => h1 (1 + q) b (by omega) (by omega))) ⟨h2 _ _ (by decide) (by decide), fun _ _ => h2 _ _ (by decide) (by decide), fun _ _ => h2 _ _ (by decide) (by decide), fun _ _ => h2 _ _ (by decide) (by decide), fun _ _ => h2 _ _ (by decide) (by decide)⟩
/-- another count of acts, not more than there were -/
theorem zW_7 (h : zqC 1 0 I I') {v : Int32} (h0 : 0 ≤ v.toInt) (h1 : v.toInt ≤ (I 1 7).toInt) : zqC 1 0 (zm_w I 1 7 v) (zm_w I' 7 6 v) := by
  obtain ⟨⟨q1, q2, q3, ⟨q4, q5, q6⟩, q7, q8⟩, ⟨q9, q10, q10a, q10b⟩, q11, q12⟩ := h
  have x : ∀ n b, n ≠ 1 ∨ b ≠ 7 → zm_w I 1 7 v n b = I n b := fun n b hn => by
    unfold zm_w
    rw [if_neg (by omega)]
  have y : ∀ n b, n ≠ 7 ∨ b ≠ 6 → zm_w I' 7 6 v n b = I' n b := fun n b hn => by
    unfold zm_w
    rw [if_neg (by omega)]
  refine ⟨⟨?_, ?_, ?_, ⟨?_, ?_, ?_⟩, fun j hj hl => ?_, fun c hc hl => ?_⟩, ⟨?_, ?_, ?_, ?_⟩, fun c hc hl => ?_, fun k hk hl => ?_⟩
  · rw [x _ _ (by omega), y _ _ (by omega)]; exact q1
  · rw [x _ _ (by omega), y _ _ (by omega)]; exact q2
  · rw [x _ _ (by omega), y _ _ (by omega)]; exact q3
  · rw [x _ _ (by omega), y _ _ (by omega)]; exact q4
  · rw [x _ _ (by omega), y _ _ (by omega)]; exact q5
  · rw [x _ _ (by omega), y _ _ (by omega)]; exact q6
  · rw [x _ _ (by omega)] at hl
    rw [x _ _ (by omega), y _ _ (by omega)]
    exact q7 j hj hl
  · rw [x _ _ (by omega)] at hl
    rw [x (1 + 2) _ (by omega), x (1 + 3) _ (by omega), x (1 + 4) _ (by omega), x (1 + 5) _ (by omega), x (1 + 6) _ (by omega), y _ _ (by omega), y _ _ (by omega), y _ _ (by omega), y _ _ (by omega), y _ _ (by omega)]
    exact q8 c hc hl
  · rw [x _ _ (by omega), y _ _ (by omega)]; exact q9
  · exact ze_wi.trans ze_wi.symm
  · rw [ze_wi]; exact h0
  · rw [ze_wi]; omega
  · rw [x _ _ (by omega)] at hl
    rw [x (1 + 4) _ (by omega), x 1 5 (by omega)]
    exact q11 c hc hl
  · rw [ze_wi] at hl
    rw [x (1 + 7) _ (by omega), x (1 + 8) _ (by omega), x (1 + 9) _ (by omega), y _ _ (by omega), y _ _ (by omega), y _ _ (by omega)]
    exact q12 k hk (by omega)
/-- another wear -/
theorem zW_2 (h : zqC 1 0 I I') (v : Int32) : zqC 1 0 (zm_w I 1 2 v) (zm_w I' 7 1 v) := by
  obtain ⟨⟨q1, q2, q3, ⟨q4, q5, q6⟩, q7, q8⟩, ⟨q9, q10, q10a, q10b⟩, q11, q12⟩ := h
  have x : ∀ n b, n ≠ 1 ∨ b ≠ 2 → zm_w I 1 2 v n b = I n b := fun n b hn => by
    unfold zm_w
    rw [if_neg (by omega)]
  have y : ∀ n b, n ≠ 7 ∨ b ≠ 1 → zm_w I' 7 1 v n b = I' n b := fun n b hn => by
    unfold zm_w
    rw [if_neg (by omega)]
  refine ⟨⟨?_, ?_, ?_, ⟨?_, ?_, ?_⟩, fun j hj hl => ?_, fun c hc hl => ?_⟩, ⟨?_, ?_, ?_, ?_⟩, fun c hc hl => ?_, fun k hk hl => ?_⟩
  · rw [x _ _ (by omega), y _ _ (by omega)]; exact q1
  · rw [x _ _ (by omega), y _ _ (by omega)]; exact q2
  · rw [x _ _ (by omega), y _ _ (by omega)]; exact q3
  · rw [x _ _ (by omega), y _ _ (by omega)]; exact q4
  · rw [x _ _ (by omega), y _ _ (by omega)]; exact q5
  · rw [x _ _ (by omega), y _ _ (by omega)]; exact q6
  · rw [x _ _ (by omega)] at hl
    rw [x _ _ (by omega), y _ _ (by omega)]
    exact q7 j hj hl
  · rw [x _ _ (by omega)] at hl
    rw [x (1 + 2) _ (by omega), x (1 + 3) _ (by omega), x (1 + 4) _ (by omega), x (1 + 5) _ (by omega), x (1 + 6) _ (by omega), y _ _ (by omega), y _ _ (by omega), y _ _ (by omega), y _ _ (by omega), y _ _ (by omega)]
    exact q8 c hc hl
  · exact ze_wi.trans ze_wi.symm
  · rw [x _ _ (by omega), y _ _ (by omega)]; exact q10
  · rw [x _ _ (by omega)]; exact q10a
  · rw [x _ _ (by omega)]; exact q10b
  · rw [x _ _ (by omega)] at hl
    rw [x (1 + 4) _ (by omega), x 1 5 (by omega)]
    exact q11 c hc hl
  · rw [x _ _ (by omega)] at hl
    rw [x (1 + 7) _ (by omega), x (1 + 8) _ (by omega), x (1 + 9) _ (by omega), y _ _ (by omega), y _ _ (by omega), y _ _ (by omega)]
    exact q12 k hk hl
/-- one act more -/
theorem zW_m (h : zqC 1 0 I I') {k : Nat} (hk : k < 40) (h7 : I 1 7 = Int32.ofNat k) (l1 l2 l3 : Int32) : zqC 1 0 (zm_w (zm_w (zm_w (zm_w I 8 k l1) 9 k l2) 10 k l3) 1 7 (Int32.ofNat (k + 1))) (zm_w (zm_w (zm_w (zm_w I' 10 (3 * k) l1) 10 (3 * k + 1) l2) 10 (3 * k + 2) l3) 7 6 (Int32.ofNat (k + 1))) := by
  obtain ⟨⟨q1, q2, q3, ⟨q4, q5, q6⟩, q7, q8⟩, ⟨q9, q10, q10a, q10b⟩, q11, q12⟩ := h
  have x : ∀ n b, n ≤ 7 → n ≠ 1 ∨ b ≠ 7 → zm_w (zm_w (zm_w (zm_w I 8 k l1) 9 k l2) 10 k l3) 1 7 (Int32.ofNat (k + 1)) n b = I n b := fun n b h1 hn => by
    unfold zm_w
    rw [if_neg (by omega), if_neg (by omega), if_neg (by omega), if_neg (by omega)]
  have y : ∀ n b, n ≠ 10 → n ≠ 7 ∨ b ≠ 6 → zm_w (zm_w (zm_w (zm_w I' 10 (3 * k) l1) 10 (3 * k + 1) l2) 10 (3 * k + 2) l3) 7 6 (Int32.ofNat (k + 1)) n b = I' n b := fun n b h1 hn => by
    unfold zm_w
    rw [if_neg (by omega), if_neg (by omega), if_neg (by omega), if_neg (by omega)]
  refine ⟨⟨?_, ?_, ?_, ⟨?_, ?_, ?_⟩, fun j hj hl => ?_, fun c hc hl => ?_⟩, ⟨?_, ?_, ?_, ?_⟩, fun c hc hl => ?_, fun q hq hl => ?_⟩
  · rw [x _ _ (by omega) (by omega), y _ _ (by omega) (by omega)]; exact q1
  · rw [x _ _ (by omega) (by omega), y _ _ (by omega) (by omega)]; exact q2
  · rw [x _ _ (by omega) (by omega), y _ _ (by omega) (by omega)]; exact q3
  · rw [x _ _ (by omega) (by omega), y _ _ (by omega) (by omega)]; exact q4
  · rw [x _ _ (by omega) (by omega), y _ _ (by omega) (by omega)]; exact q5
  · rw [x _ _ (by omega) (by omega), y _ _ (by omega) (by omega)]; exact q6
  · rw [x _ _ (by omega) (by omega)] at hl
    rw [x _ _ (by omega) (by omega), y _ _ (by omega) (by omega)]
    exact q7 j hj hl
  · rw [x _ _ (by omega) (by omega)] at hl
    rw [x (1 + 2) _ (by omega) (by omega), x (1 + 3) _ (by omega) (by omega), x (1 + 4) _ (by omega) (by omega), x (1 + 5) _ (by omega) (by omega), x (1 + 6) _ (by omega) (by omega), y _ _ (by omega) (by omega), y _ _ (by omega) (by omega), y _ _ (by omega) (by omega), y _ _ (by omega) (by omega), y _ _ (by omega) (by omega)]
    exact q8 c hc hl
  · rw [x _ _ (by omega) (by omega), y _ _ (by omega) (by omega)]; exact q9
  · exact ze_wi.trans ze_wi.symm
  · rw [ze_wi, zp_o (by omega)]; omega
  · rw [ze_wi, zp_o (by omega)]; omega
  · rw [x _ _ (by omega) (by omega)] at hl
    rw [x (1 + 4) _ (by omega) (by omega), x 1 5 (by omega) (by omega)]
    exact q11 c hc hl
  · rw [ze_wi, zp_o (by omega)] at hl
    have r : ∀ i, zm_w (zm_w (zm_w (zm_w I' 10 (3 * k) l1) 10 (3 * k + 1) l2) 10 (3 * k + 2) l3) 7 6 (Int32.ofNat (k + 1)) 10 i = if i = 3 * k + 2 then l3 else if i = 3 * k + 1 then l2 else if i = 3 * k then l1 else I' 10 i := fun i => by
      unfold zm_w
      simp only [show ¬ (10 : Nat) = 7 by decide, false_and, if_false, true_and]
    have s8 : zm_w (zm_w (zm_w (zm_w I 8 k l1) 9 k l2) 10 k l3) 1 7 (Int32.ofNat (k + 1)) (1 + 7) q = if q = k then l1 else I 8 q := by
      unfold zm_w
      simp only [show ¬ (1 + 7 : Nat) = 1 by decide, show ¬ (1 + 7 : Nat) = 10 by decide, show ¬ (1 + 7 : Nat) = 9 by decide, show ((1 + 7 : Nat) = 8) = True by decide, false_and, if_false, true_and]
    have s9 : zm_w (zm_w (zm_w (zm_w I 8 k l1) 9 k l2) 10 k l3) 1 7 (Int32.ofNat (k + 1)) (1 + 8) q = if q = k then l2 else I 9 q := by
      unfold zm_w
      simp only [show ¬ (1 + 8 : Nat) = 1 by decide, show ¬ (1 + 8 : Nat) = 10 by decide, show ¬ (1 + 8 : Nat) = 8 by decide, show ((1 + 8 : Nat) = 9) = True by decide, false_and, if_false, true_and]
    have s10 : zm_w (zm_w (zm_w (zm_w I 8 k l1) 9 k l2) 10 k l3) 1 7 (Int32.ofNat (k + 1)) (1 + 9) q = if q = k then l3 else I 10 q := by
      unfold zm_w
      simp only [show ¬ (1 + 9 : Nat) = 1 by decide, show ¬ (1 + 9 : Nat) = 9 by decide, show ¬ (1 + 9 : Nat) = 8 by decide, show ((1 + 9 : Nat) = 10) = True by decide, false_and, if_false, true_and]
    rw [s8, s9, s10, r, r, r]
    by_cases e : q = k
    · subst e
      rw [if_pos rfl, if_pos rfl, if_pos rfl, if_neg (show ¬ 120 * 0 + 3 * q = 3 * q + 2 by omega), if_neg (show ¬ 120 * 0 + 3 * q = 3 * q + 1 by omega), if_pos (show 120 * 0 + 3 * q = 3 * q by omega), if_neg (show ¬ 120 * 0 + 3 * q + 1 = 3 * q + 2 by omega), if_pos (show 120 * 0 + 3 * q + 1 = 3 * q + 1 by omega), if_pos (show 120 * 0 + 3 * q + 2 = 3 * q + 2 by omega)]
      exact ⟨rfl, rfl, rfl⟩
    · have hl' : (q : Int) < (I 1 7).toInt := by
        rw [h7, zp_o (by omega)]
        omega
      have p := q12 q hq hl'
      rw [if_neg e, if_neg e, if_neg e, if_neg (show ¬ 120 * 0 + 3 * q = 3 * k + 2 by omega), if_neg (show ¬ 120 * 0 + 3 * q = 3 * k + 1 by omega), if_neg (show ¬ 120 * 0 + 3 * q = 3 * k by omega), if_neg (show ¬ 120 * 0 + 3 * q + 1 = 3 * k + 2 by omega), if_neg (show ¬ 120 * 0 + 3 * q + 1 = 3 * k + 1 by omega), if_neg (show ¬ 120 * 0 + 3 * q + 1 = 3 * k by omega), if_neg (show ¬ 120 * 0 + 3 * q + 2 = 3 * k + 2 by omega), if_neg (show ¬ 120 * 0 + 3 * q + 2 = 3 * k + 1 by omega), if_neg (show ¬ 120 * 0 + 3 * q + 2 = 3 * k by omega)]
      exact p
/-- today's bench and the slots, as the calls see them -/
theorem zW_in (hR : zR ks M) : zqC 1 0 (zm_sub2 [(0, 164)] M).1 (zm_sub2 [(165, 31)] (zm_mrg [(0, 164)] M N1)).1 :=
  zR_q hR.2.1 (zR_xr (fun q b hq => zR_S (by omega) b)) (zR_yr' (fun n b hn => zR_T hn b))
def zW_h (WX WM : zt_W) : Bool := zR_hT WX && zR_hU WM && zR_rw WM 11 && ([8, 9].all (zR_rw WM)) && zR_no WM 6 [1, 2, 3] && (List.range 21).all (fun b => !zt_hit WM 7 (7 + b)) && (List.range 360).all (fun b => !zt_hit WM 10 (120 + b))
theorem zW_all (hR : zR ks M) {WX WM : zt_W} (f1 : zt_fr WX (zm_sub2 [(0, 164)] M) N1) (f2 : zt_fr WM (zm_sub2 [(165, 31)] (zm_mrg [(0, 164)] M N1)) N2) (hw : zW_h WX WM = true) (hq : zqC 1 0 N1.1 N2.1) : zR ks (zy_2 M N1 N2) := by
  unfold zW_h at hw
  simp only [Bool.and_eq_true] at hw
  obtain ⟨⟨⟨⟨⟨⟨wt, wu⟩, w11⟩, w8⟩, w6⟩, w7⟩, w10⟩ := hw
  have w6 := zR_nn w6
  have r : ∀ n b, n ∈ [8, 9] → N2.1 n b = zR_M M n b := fun n b hn => by
    rw [(f2 n b (zR_rn (List.all_eq_true.mp w8 n hn) b)).1]
    exact zR_T (by simp at hn; omega) b
  refine zR_of hR (zR_q hq (zR_xr (fun q b hq => zR_2x (by omega) b)) (zR_yr' (fun n b hn => zR_2m hn b))) (fun s h1 h4 => zR_yc (I := zR_M M) (I2 := N2.1) ⟨?_, fun b hb => ?_, fun b hb => r 8 _ (by decide), fun b hb => r 9 _ (by decide), fun b hb => ?_⟩ (fun _ _ _ => rfl) (fun n b hn => zR_2m hn b)) (zR_2t hR f1 f2 wt wu) (fun n b hn => zR_2o hn b) (fun k _ => ?_)
  · have e : zt_hit WM 6 s = false := w6 s (by
      have : s = 1 ∨ s = 2 ∨ s = 3 := by omega
      rcases this with rfl | rfl | rfl <;> decide)
    rw [(f2 6 s e).1]
    exact zR_T (by decide) s
  · have e := List.all_eq_true.mp w7 (7 * s + b - 7) (List.mem_range.mpr (by omega))
    rw [Bool.not_eq_true', show 7 + (7 * s + b - 7) = 7 * s + b by omega] at e
    rw [(f2 7 _ e).1]
    exact zR_T (by decide) _
  · have e := List.all_eq_true.mp w10 (120 * s + b - 120) (List.mem_range.mpr (by omega))
    rw [Bool.not_eq_true', show 120 + (120 * s + b - 120) = 120 * s + b by omega] at e
    rw [(f2 10 _ e).1]
    exact zR_T (by decide) _
  · have := (f2 11 k (zR_rn w11 k)).1
    rw [zR_T (by decide)] at this
    exact (zR_2m (n := 11) (by decide) k).trans this
theorem zW_mv (hI : zy_I ks M) (hR : zR ks M) {a0 a1 a2 x y : Int32} (ho : zy_o2 ks M zF_X9_move zF_X10_move [.int a0, .int a1, .int a2] [.int a0, .int a1, .int a2] (.int x) (.int y) N1 N2) (f1 : zt_fr WX_move (zm_sub2 [(0, 164)] M) N1) (f2 : zt_fr WM_move (zm_sub2 [(165, 31)] (zm_mrg [(0, 164)] M N1)) N2) (hw : zW_h WX_move WM_move = true) : zR ks (zy_2 M N1 N2) := by
  have hq := zW_in (N1 := N1) hR
  have hGM := zy_1G N1 hI.2.1
  have hPM := zy_1P N1 hI.2.2.1
  obtain ⟨⟨q1, q2, q3, -, -, -⟩, ⟨-, q10, q10a, q10b⟩, -, -⟩ := id hq
  have q2 : (zm_sub2 [(0, 164)] M).1 1 5 = (zm_sub2 [(165, 31)] (zm_mrg [(0, 164)] M N1)).1 7 4 := q2
  have q3 : (zm_sub2 [(0, 164)] M).1 1 6 = (zm_sub2 [(165, 31)] (zm_mrg [(0, 164)] M N1)).1 7 5 := q3
  have q10 : (zm_sub2 [(0, 164)] M).1 1 7 = (zm_sub2 [(165, 31)] (zm_mrg [(0, 164)] M N1)).1 7 6 := q10
  have a := zV_mvX (I := (zm_sub2 [(0, 164)] M).1) (J := (zm_sub2 [(0, 164)] M).2) hI.1 a0 a1 a2 ho.1
  have c := zV_mvM (I := (zm_sub2 [(165, 31)] (zm_mrg [(0, 164)] M N1)).1) (J := (zm_sub2 [(165, 31)] (zm_mrg [(0, 164)] M N1)).2) hGM hPM (by rw [← q10]; exact ⟨q10a, q10b⟩) a0 a1 a2 ho.2
  rw [← q2, ← q3, ← q10] at c
  refine zW_all hR f1 f2 hw ?_
  rcases a with ⟨n1, e1⟩ | ⟨o1, k, k1, k2, e1⟩ <;> rcases c with ⟨n2, e2⟩ | ⟨o2, j, j1, j2, e2⟩
  · exact zW_pt hq e1 e2
  · exact absurd o2 n1
  · exact absurd o1 n2
  · have kj : j = k := by
      have := congrArg Int32.toInt (j1.symm.trans k1)
      rw [zp_o (by omega), zp_o (by omega)] at this
      omega
    subst kj
    exact zW_pt (zW_m hq k2 k1 a0 a1 a2) e1 e2
theorem zW_un (hR : zR ks M) {x y : Int32} (ho : zy_o2 ks M zF_X9_undo zF_X10_undo [] [] (.int x) (.int y) N1 N2) (f1 : zt_fr WX_undo (zm_sub2 [(0, 164)] M) N1) (f2 : zt_fr WM_undo (zm_sub2 [(165, 31)] (zm_mrg [(0, 164)] M N1)) N2) (hw : zW_h WX_undo WM_undo = true) : x = y ∧ zR ks (zy_2 M N1 N2) := by
  have hq := zW_in (N1 := N1) hR
  obtain ⟨⟨q1, -, -, -, -, -⟩, ⟨-, q10, q10a, q10b⟩, -, -⟩ := id hq
  have q1 : (zm_sub2 [(0, 164)] M).1 1 0 = (zm_sub2 [(165, 31)] (zm_mrg [(0, 164)] M N1)).1 6 0 := q1
  have q10 : (zm_sub2 [(0, 164)] M).1 1 7 = (zm_sub2 [(165, 31)] (zm_mrg [(0, 164)] M N1)).1 7 6 := q10
  have a := zV_unX (I := (zm_sub2 [(0, 164)] M).1) (J := (zm_sub2 [(0, 164)] M).2) ho.1
  have c := zV_unM (I := (zm_sub2 [(165, 31)] (zm_mrg [(0, 164)] M N1)).1) (J := (zm_sub2 [(165, 31)] (zm_mrg [(0, 164)] M N1)).2) (by rw [← q10]; exact q10a) ho.2
  rw [← q1, ← q10] at c
  have hm : 0 < ((zm_sub2 [(0, 164)] M).1 1 7).toInt → ((zm_sub2 [(0, 164)] M).1 1 7 - 1).toInt = ((zm_sub2 [(0, 164)] M).1 1 7).toInt - 1 := fun z => by
    rw [zh_sub (by rw [ze_i1]; omega) (by rw [ze_i1]; omega), ze_i1]
  rcases a with ⟨a1, a2, a3⟩ | ⟨a0, a1, a2, a3⟩ | ⟨a0, a1, a2, a3⟩ <;> rcases c with ⟨c1, c2, c3⟩ | ⟨c0, c1, c2, c3⟩ | ⟨c0, c1, c2, c3⟩ <;> first
    | (exfalso; omega)
    | exact ⟨a2.trans c2.symm, zW_all hR f1 f2 hw (zW_pt hq a3 c3)⟩
    | exact ⟨a2.trans c2.symm, zW_all hR f1 f2 hw (zW_pt (zW_7 hq (by rw [hm a1]; omega) (by rw [hm a1]; omega)) a3 c3)⟩
theorem zW_an (hR : zR ks M) {x y : Int32} (ho : zy_o2 ks M zF_X9_anew zF_X10_anew [] [] (.int x) (.int y) N1 N2) (f1 : zt_fr WX_anew (zm_sub2 [(0, 164)] M) N1) (f2 : zt_fr WM_anew (zm_sub2 [(165, 31)] (zm_mrg [(0, 164)] M N1)) N2) (hw : zW_h WX_anew WM_anew = true) : x = y ∧ zR ks (zy_2 M N1 N2) := by
  have hq := zW_in (N1 := N1) hR
  obtain ⟨⟨q1, -, -, -, -, -⟩, ⟨-, q10, q10a, q10b⟩, -, -⟩ := id hq
  have q1 : (zm_sub2 [(0, 164)] M).1 1 0 = (zm_sub2 [(165, 31)] (zm_mrg [(0, 164)] M N1)).1 6 0 := q1
  have q10 : (zm_sub2 [(0, 164)] M).1 1 7 = (zm_sub2 [(165, 31)] (zm_mrg [(0, 164)] M N1)).1 7 6 := q10
  have a := zV_anX (I := (zm_sub2 [(0, 164)] M).1) (J := (zm_sub2 [(0, 164)] M).2) ho.1
  have c := zV_anM (I := (zm_sub2 [(165, 31)] (zm_mrg [(0, 164)] M N1)).1) (J := (zm_sub2 [(165, 31)] (zm_mrg [(0, 164)] M N1)).2) ho.2
  rw [← q1, ← q10] at c
  rcases a with ⟨a1, a2, a3⟩ | ⟨a1, a2, a3⟩ <;> rcases c with ⟨c1, c2, c3⟩ | ⟨c1, c2, c3⟩ <;> first
    | (exfalso; omega)
    | exact ⟨a2.trans c2.symm, zW_all hR f1 f2 hw (zW_pt hq a3 c3)⟩
    | exact ⟨a2.trans c2.symm, zW_all hR f1 f2 hw (zW_pt (zW_7 (v := 0) hq (by decide) (by rw [ze_i0]; exact q10a)) a3 c3)⟩
theorem zW_ra (hR : zR ks M) {a0 x y : Int32} (ho : zy_o2 ks M zF_X9_rate zF_X10_rate [.int a0] [.int a0] (.int x) (.int y) N1 N2) (f1 : zt_fr WX_rate (zm_sub2 [(0, 164)] M) N1) (f2 : zt_fr WM_rate (zm_sub2 [(165, 31)] (zm_mrg [(0, 164)] M N1)) N2) (hw : zW_h WX_rate WM_rate = true) : x = y ∧ zR ks (zy_2 M N1 N2) := by
  have hq := zW_in (N1 := N1) hR
  obtain ⟨⟨q1, -, -, -, -, -⟩, ⟨q9, q10, q10a, q10b⟩, -, -⟩ := id hq
  have q1 : (zm_sub2 [(0, 164)] M).1 1 0 = (zm_sub2 [(165, 31)] (zm_mrg [(0, 164)] M N1)).1 6 0 := q1
  have q9 : (zm_sub2 [(0, 164)] M).1 1 2 = (zm_sub2 [(165, 31)] (zm_mrg [(0, 164)] M N1)).1 7 1 := q9
  have q10 : (zm_sub2 [(0, 164)] M).1 1 7 = (zm_sub2 [(165, 31)] (zm_mrg [(0, 164)] M N1)).1 7 6 := q10
  have a := zV_raX (I := (zm_sub2 [(0, 164)] M).1) (J := (zm_sub2 [(0, 164)] M).2) a0 ho.1
  have c := zV_raM (I := (zm_sub2 [(165, 31)] (zm_mrg [(0, 164)] M N1)).1) (J := (zm_sub2 [(165, 31)] (zm_mrg [(0, 164)] M N1)).2) a0 ho.2
  rw [← q1, ← q9, ← q10] at c
  rcases a with ⟨a1, a2, a3⟩ | ⟨a1, a4, a2, a3⟩ | ⟨a1, a4, a2, a3⟩ <;> rcases c with ⟨c1, c2, c3⟩ | ⟨c1, c4, c2, c3⟩ | ⟨c1, c4, c2, c3⟩ <;> first
    | exact absurd c1 a1
    | exact absurd a1 c1
    | (exfalso; omega)
    | exact ⟨a2.trans c2.symm, zW_all hR f1 f2 hw (zW_pt hq a3 c3)⟩
    | exact ⟨a2.trans c2.symm, zW_all hR f1 f2 hw (zW_pt (zW_2 hq a0) a3 c3)⟩
end ZRW
