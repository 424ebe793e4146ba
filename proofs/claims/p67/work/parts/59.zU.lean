/-! WHAT IS KEPT BESIDE: feed, end, image, back -/
section ZRU
variable {ks ks2 : List Nat} {M N1 N2 M1 : zm_I}
theorem zR_tI {T : Nat → Int} {n : Nat} {I I' : Nat → Nat → Int32} (hn : n ≤ 800) (h : zpXt T n (fun k => I (51 + k))) (h' : zpMt T n I') (e2 : I 51 2 = I' 0 14) (e3 : I 51 3 = I' 0 15) : zR_t I I' := by
  have h1 : I 51 1 = Int32.ofNat n := h.1
  refine ⟨h1.trans h'.1.symm, fun i hi => ?_, e2, e3⟩
  rw [h1, zp_o (by omega)] at hi
  have q : (I 52 i).toInt = T i := h.2 i (by omega)
  rw [q]
  exact h'.2 i (by omega)
theorem zR_fd (hI : zy_I ks M) (hR : zR ks M) {a0 a1 a2 a3 a4 x y : Int32} (ho : zy_o2 ks M zF_X9_feed zF_X10_feed [.int a0, .int a1, .int a2, .int a3, .int a4] [.int a0, .int a1, .int a2, .int a3, .int a4] (.int x) (.int y) N1 N2) (f1 : zt_fr WX_feed (zm_sub2 [(0, 164)] M) N1) (f2 : zt_fr WM_feed (zm_sub2 [(165, 31)] (zm_mrg [(0, 164)] M N1)) N2) (hw : (zR_hB WX_feed && zR_no WX_feed 51 [2, 3] && (zR_hS WM_feed && zR_no WM_feed 0 [14, 15] && zR_rw WM_feed 11)) = true) : x = y ∧ zR ks (zy_2 M N1 N2) := by
  have hb := zR_bd hI
  simp only [Bool.and_eq_true] at hw
  obtain ⟨⟨w1, w2⟩, ⟨w3, w4⟩, w5⟩ := hw
  have w2 := zR_nn w2
  have w4 := zR_nn w4
  obtain ⟨⟨t1, t2, t3, t4⟩, -, -, -⟩ := id hR
  have s51 : ∀ b, (zm_sub2 [(0, 164)] M).1 51 b = M.1 51 b := fun b => zR_S (by decide) b
  have s52 : ∀ b, (zm_sub2 [(0, 164)] M).1 52 b = M.1 52 b := fun b => zR_S (by decide) b
  obtain ⟨hx, hm⟩ := zR_tX (I := (zm_sub2 [(0, 164)] M).1) (I' := (zm_sub2 [(165, 31)] (zm_mrg [(0, 164)] M N1)).1) ⟨by rw [s51, zR_T (by decide)]; exact t1, fun i hi => by rw [s51] at hi; rw [s52, zR_T (by decide)]; exact t2 i hi, by rw [s51, zR_T (by decide)]; exact t3, by rw [s51, zR_T (by decide)]; exact t4⟩ (by rw [s51]; exact hb.1) (by rw [s51]; exact hb.2)
  have hn : ((zm_sub2 [(0, 164)] M).1 51 1).toInt.toNat ≤ 800 := by rw [s51]; omega
  generalize ((zm_sub2 [(0, 164)] M).1 51 1).toInt.toNat = n at hx hm hn
  generalize (fun i => ((zm_sub2 [(0, 164)] M).1 52 i).toInt) = T at hx hm
  have e2 : N1.1 51 2 = N2.1 0 14 := by rw [(f1 51 2 (w2 2 (by decide))).1, (f2 0 14 (w4 14 (by decide))).1, s51, zR_T (by decide), t3]
  have e3 : N1.1 51 3 = N2.1 0 15 := by rw [(f1 51 3 (w2 3 (by decide))).1, (f2 0 15 (w4 15 (by decide))).1, s51, zR_T (by decide), t4]
  have fin : zR_t N1.1 N2.1 → zR ks (zy_2 M N1 N2) := fun q => zR_2b hR f1 f2 w1 w3 w5 ⟨by rw [zR_2x (by decide), zR_2m (by decide)]; exact q.1, fun i hi => by rw [zR_2x (by decide)] at hi; rw [zR_2x (by decide), zR_2m (by decide)]; exact q.2.1 i hi, by rw [zR_2x (by decide), zR_2m (by decide)]; exact q.2.2.1, by rw [zR_2x (by decide), zR_2m (by decide)]; exact q.2.2.2⟩
  rcases zp_feedX a0 a1 a2 a3 a4 hx hn ho.1 with ⟨c1, c2, c3⟩ | ⟨c1, c2, c3⟩ <;> rcases zp_feedM a0 a1 a2 a3 a4 hm hn ho.2 with ⟨d1, d2, d3⟩ | ⟨d1, d2, d3⟩
  · exact ⟨c2.trans d2.symm, fin (zR_tI (by omega) c3 d3 e2 e3)⟩
  · omega
  · omega
  · refine ⟨c2.trans d2.symm, fin (zR_tI hn (by rw [c3]; exact hx) ?_ e2 e3)⟩
    rw [d3]
    exact ⟨(ze_wj (I := (zm_sub2 [(165, 31)] (zm_mrg [(0, 164)] M N1)).1) (n := 0) (i := 0) (a := 0) (b := 6) (x := 0) (by decide)).trans hm.1, fun i hi => by
      show zp_sg (zm_w (zm_sub2 [(165, 31)] (zm_mrg [(0, 164)] M N1)).1 0 0 0 5 i).toInt (T i)
      rw [ze_wo (by decide)]
      exact hm.2 i hi⟩
theorem zR_en (hI : zy_I ks M) (hR : zR ks M) {a0 x y : Int32} (ho : zy_o2 ks M zF_X9_end zF_X10_end [.int a0] [.int a0] (.int x) (.int y) N1 N2) (f1 : zt_fr WX_end (zm_sub2 [(0, 164)] M) N1) (f2 : zt_fr WM_end (zm_sub2 [(165, 31)] (zm_mrg [(0, 164)] M N1)) N2) (hw : (zR_hB WX_end && zR_rw WX_end 52 && zR_no WX_end 51 [2, 3] && (zR_hS WM_end && zR_rw WM_end 5 && zR_no WM_end 0 [14, 15] && zR_rw WM_end 11)) = true) : x = y ∧ zR ks (zy_2 M N1 N2) := by
  have hb := zR_bd hI
  simp only [Bool.and_eq_true] at hw
  obtain ⟨⟨⟨w1, w0⟩, w2⟩, ⟨⟨w3, w6⟩, w4⟩, w5⟩ := hw
  have w2 := zR_nn w2
  have w4 := zR_nn w4
  obtain ⟨⟨t1, t2, t3, t4⟩, -, -, -⟩ := id hR
  have s51 : ∀ b, (zm_sub2 [(0, 164)] M).1 51 b = M.1 51 b := fun b => zR_S (by decide) b
  have a := ze_endX (M := zm_sub2 [(0, 164)] M) a0 ho.1
  have c := ze_endM (M := zm_sub2 [(165, 31)] (zm_mrg [(0, 164)] M N1)) a0 ho.2
  rw [s51] at a
  rw [zR_T (by decide), ← t1] at c
  have e : x = y ∧ N1.1 51 1 = N2.1 0 6 ∧ (N1.1 51 1).toInt ≤ (M.1 51 1).toInt := by
    rcases a with ⟨z1, z2, z3, z4⟩ | ⟨z1, z3, z4⟩ <;> rcases c with ⟨w1, w2, w3, w4⟩ | ⟨w1, w3, w4⟩
    · exact ⟨z3.trans w3.symm, z4.trans w4.symm, by rw [z4]; exact z2⟩
    · omega
    · omega
    · exact ⟨z3.trans w3.symm, z4.trans w4.symm, by rw [z4]; exact Int.le_refl _⟩
  refine ⟨e.1, zR_2b hR f1 f2 w1 w3 w5 ⟨?_, fun i hi => ?_, ?_, ?_⟩⟩
  · rw [zR_2x (by decide), zR_2m (by decide)]
    exact e.2.1
  · rw [zR_2x (by decide)] at hi
    rw [zR_2x (by decide), zR_2m (by decide), (f1 52 i (zR_rn w0 i)).1, (f2 5 i (zR_rn w6 i)).1, zR_S (by decide), zR_T (by decide)]
    exact t2 i (by omega)
  · rw [zR_2x (by decide), zR_2m (by decide), (f1 51 2 (w2 2 (by decide))).1, (f2 0 14 (w4 14 (by decide))).1, s51, zR_T (by decide), t3]
  · rw [zR_2x (by decide), zR_2m (by decide), (f1 51 3 (w2 3 (by decide))).1, (f2 0 15 (w4 15 (by decide))).1, s51, zR_T (by decide), t4]
-- image and back: the class's memory M1, and the reference's N2 in it
theorem zR_Z {n : Nat} (h : n < 165 ∨ 196 ≤ n) (b : Nat) : (zm_mrg [(165, 31)] M1 N2).1 n b = M1.1 n b := by rw [(zy_m0 (a := 165) (z := 31) (n := n) (by omega) M1 N2).1]
theorem zR_Zm {n : Nat} (h : n < 31) (b : Nat) : zR_M (zm_mrg [(165, 31)] M1 N2) n b = N2.1 n b := by
  show (zm_mrg [(165, 31)] M1 N2).1 (165 + n) b = _
  rw [(zy_m1 (a := 165) (z := 31) (n := 165 + n) (by omega) (by omega) M1 N2).1, Nat.add_sub_cancel_left]
/-- the reference's tape, fault and the slots, kept or as said; the class's tape kept -/
theorem zR_Zt (hR : zR ks M) (h51 : ∀ b, M1.1 51 b = M.1 51 b) (h52 : ∀ b, M1.1 52 b = M.1 52 b) (h0 : ∀ b, b ≠ 0 → N2.1 0 b = zR_M M 0 b) (h5 : ∀ b, N2.1 5 b = zR_M M 5 b) : zR_t (zm_mrg [(165, 31)] M1 N2).1 (zR_M (zm_mrg [(165, 31)] M1 N2)) := by
  obtain ⟨⟨t1, t2, t3, t4⟩, -, -, -⟩ := hR
  refine ⟨?_, fun i hi => ?_, ?_, ?_⟩
  · rw [zR_Z (by omega), zR_Zm (by omega), h51, h0 6 (by decide), t1]
  · rw [zR_Z (by omega), h51] at hi
    rw [zR_Z (by omega), zR_Zm (by omega), h52, h5]
    exact t2 i hi
  · rw [zR_Z (by omega), zR_Zm (by omega), h51, h0 14 (by decide), t3]
  · rw [zR_Z (by omega), zR_Zm (by omega), h51, h0 15 (by decide), t4]
theorem zR_yM {s s2 : Nat} (h : zR_y s s2 (zm_sub2 [(165, 31)] M1).1 N2.1) (e : ∀ n b, n < 31 → zR_M M1 n b = zR_M M n b) : zR_y s s2 (zR_M M) (zR_M (zm_mrg [(165, 31)] M1 N2)) := zR_yc h (fun n b hn => by rw [zR_T1 hn, e n b hn]) (fun n b hn => zR_Zm hn b)
/-- nothing but cell 0, 0 of the reference was written, and of the class neither tape nor benches -/
theorem zR_Zn (hR : zR ks M) (hX : ∀ n b, (1 ≤ n ∧ n ≤ 10) ∨ n = 51 ∨ n = 52 ∨ 165 ≤ n → M1.1 n b = M.1 n b) (hN : N2.1 = zm_w (zm_sub2 [(165, 31)] M1).1 0 0 0) : zR ks (zm_mrg [(165, 31)] M1 N2) := by
  have eM : ∀ n b, n < 31 → zR_M M1 n b = zR_M M n b := fun n b _ => hX (165 + n) b (by omega)
  have y : ∀ s, zR_y s s (zR_M M) (zR_M (zm_mrg [(165, 31)] M1 N2)) := fun s => zR_yM (zR_yr (fun i j h0 _ => by rw [hN, ze_wo h0])) eM
  refine ⟨zR_Zt hR (fun b => hX 51 b (by omega)) (fun b => hX 52 b (by omega)) (fun b hb => ?_) (fun b => ?_), zR_q hR.2.1 (zR_xr (fun q b hq => ?_)) (y 0), fun k i hk hix => zR_q (hR.2.2.1 k i hk hix) (zR_xr (fun q b _ => ?_)) (y (k + 1)), fun k hk => ?_⟩
  · rw [hN, ze_wj hb, zR_T1 (by decide), eM 0 b (by decide)]
  · rw [hN, ze_wo (by decide), zR_T1 (by decide), eM 5 b (by decide)]
  · rw [zR_Z (by omega), hX (1 + q) b (by omega)]
  · rw [zR_Z (by omega), hX _ b (by omega)]
  · have e : (zm_mrg [(165, 31)] M1 N2).1 176 k = N2.1 11 k := zR_Zm (n := 11) (by decide) k
    have e2 : (zm_sub2 [(165, 31)] M1).1 11 k = M.1 176 k := (zR_T1 (n := 11) (by decide) k).trans (eM 11 k (by decide))
    rw [e, hN, ze_wo (by decide), e2]
    exact hR.2.2.2 k hk
theorem zK_inj {ks : List Nat} (h : ks ∈ zK_all) {k q i : Nat} (hk : k < 3) (hq : q < 3) (h1 : zK_ix ks k = some i) (h2 : zK_ix ks q = some i) : k = q := by
  have t : zK_all.all (fun ks => (List.range 3).all (fun k => (List.range 3).all (fun q => match zK_ix ks k, zK_ix ks q with
    | some i, some j => Nat.beq k q || !Nat.beq i j
    | _, _ => true))) = true := by decide +kernel
  have t := List.all_eq_true.mp (List.all_eq_true.mp (List.all_eq_true.mp t ks h) k (List.mem_range.mpr hk)) q (List.mem_range.mpr hq)
  rw [h1, h2] at t
  simp only [Bool.or_eq_true, Bool.not_eq_true', Nat.beq_refl, Bool.true_eq_false, or_false] at t
  exact Nat.eq_of_beq_eq_true t
theorem zR_imI (hI : zy_I ks M) : 0 ≤ (M.1 1 7).toInt ∧ (M.1 1 7).toInt ≤ 41 := by
  have h : (0 : Int) ≤ ((zm_sub2 [(0, 164)] M).1 1 7).toInt ∧ ((zm_sub2 [(0, 164)] M).1 1 7).toInt ≤ 41 := hI.1 1 _ rfl 7 _ rfl
  rw [zR_S (by decide)] at h
  exact h
theorem zR_bkI (hI : zy_I ks M) {i : Nat} (hi : i < ks.length) : 0 ≤ (M.1 (196 + 10 * i) 7).toInt ∧ (M.1 (196 + 10 * i) 7).toInt ≤ 41 := by
  have h : (0 : Int) ≤ ((zm_sub2 [(196 + 10 * i, 10)] M).1 0 7).toInt ∧ ((zm_sub2 [(196 + 10 * i, 10)] M).1 0 7).toInt ≤ 41 := hI.2.2.2.1 i hi 0 _ rfl 7 _ rfl
  rw [(zy_s1 (a := 196 + 10 * i) (z := 10) (n := 0) (by decide) M).1] at h
  exact h
theorem zR_rg {a0 : Int32} (hr : a0 < 0 ∨ ¬ a0 < 3) : a0.toInt < 0 ∨ 3 ≤ a0.toInt := by
  rw [Int32.lt_iff_toInt_lt, Int32.lt_iff_toInt_lt, show (0 : Int32).toInt = 0 by decide, show (3 : Int32).toInt = 3 by decide] at hr
  omega
theorem zR_imK (hks : ks ∈ zK_all) (hI : zy_I ks M) (hR : zR ks M) {a0 x y : Int32} (ho : zy_img ks M a0 x ks2 M1) (h2 : zF_X10_image zW_M [.ref 0, .int a0] (zm_sub2 [(165, 31)] M1) = some (some (.int y), N2)) : x = y ∧ zR ks2 (zm_mrg [(165, 31)] M1 N2) := by
  rcases ho with ⟨hr, rfl, e1, e2⟩ | ⟨k, i, N, hk, rfl, rfl, hk2, hix, hor, rfl, hcp⟩
  · have e1 := e1.symm
    have e2 := e2.symm
    subst e1
    subst e2
    have hN : zF_X10_image zW_M [.ref 0, .int a0] (zm_sub2 [(165, 31)] M) = some (some (.int (-2)), (zm_w (zm_sub2 [(165, 31)] M).1 0 0 0, (zm_sub2 [(165, 31)] M).2)) := zR_imN (zR_rg hr)
    rw [hN] at h2
    cases h2
    exact ⟨rfl, zR_Zn hR (fun _ _ _ => rfl) rfl⟩
  · have hcpy := fun n => zy_cp (a := 196 + 10 * i) (b := 1) (M := M) (N := N) (by omega) hcp.2.2 n
    have hX : ∀ n b, n < 196 + 10 * i ∨ 196 + 10 * i + 10 ≤ n → (zm_mrg [(196 + 10 * i, 10), (1, 10)] M N).1 n b = M.1 n b := fun n b hn => by rw [((hcpy n).2 hn).1]
    have hcx := zR_cx (a := 196 + 10 * i) (b := 1) (by omega) hcp (zR_imI hI)
    generalize zm_mrg [(196 + 10 * i, 10), (1, 10)] M N = M1 at h2 hX hcx
    have eM : ∀ n b, n < 31 → zR_M M1 n b = zR_M M n b := fun n b hn => hX (165 + n) b (by omega)
    obtain ⟨K, g1, g2, g3, g4, g5, g6, g7⟩ := zR_imY (I := (zm_sub2 [(165, 31)] M1).1) (J := (zm_sub2 [(165, 31)] M1).2) hk
    have h2' : some (some (Value.int y), N2) = (some (some (.int 0), (K, (zm_sub2 [(165, 31)] M1).2)) : zm_R) := h2.symm.trans g1
    cases h2'
    refine ⟨rfl, zR_Zt hR (fun b => hX 51 b (by omega)) (fun b => hX 52 b (by omega)) (fun b hb => (g4 b hb).trans ((zR_T1 (by decide) b).trans (eM 0 b (by decide)))) (fun b => (g5 b).trans ((zR_T1 (by decide) b).trans (eM 5 b (by decide)))), zR_q hR.2.1 (zR_xr (fun q b hq => ?_)) (zR_yM (g3 0 (by decide) (by omega)) eM), fun q j hq hjx => ?_, fun q hq => ?_⟩
    · rw [zR_Z (by omega), hX (1 + q) b (by omega)]
    · by_cases e : q = k
      · subst e
        rw [hix] at hjx
        cases hjx
        exact zR_q hR.2.1 (zR_xc hcx (fun _ _ _ => rfl) (fun q b hq => zR_Z (by omega) b)) (zR_yM g2 eM)
      · have hold : zK_ix ks q = some j := by
          rcases hor with ⟨-, rfl⟩ | ⟨hn, rfl⟩
          · exact hjx
          · rw [(zK_new hks hk hn).2.2.2 q hq e] at hjx
            exact hjx
        have hij : j ≠ i := fun z => e (zK_inj hk2 hq hk (z ▸ hjx) hix)
        refine zR_q (hR.2.2.1 q j hq hold) (zR_xr (fun r b hr => ?_)) (zR_yM (g3 (q + 1) (by omega) (by omega)) eM)
        rw [zR_Z (by omega), hX _ b (by omega)]
    · have e : (zm_mrg [(165, 31)] M1 (K, (zm_sub2 [(165, 31)] M1).2)).1 176 q = K 11 q := zR_Zm (n := 11) (by decide) q
      rw [e]
      by_cases c : q = k
      · subst c
        rw [g6]
        unfold zR_v
        rw [hix]
        rfl
      · have hold : zR_v ks2 q = zR_v ks q := by
          rcases hor with ⟨-, rfl⟩ | ⟨hn, rfl⟩
          · rfl
          · unfold zR_v
            rw [(zK_new hks hk hn).2.2.2 q hq c]
        have e2 : (zm_sub2 [(165, 31)] M1).1 11 q = M.1 176 q := (zR_T1 (n := 11) (by decide) q).trans (eM 11 q (by decide))
        rw [g7 q c, e2, hold]
        exact hR.2.2.2 q hq
theorem zR_bk (hks : ks ∈ zK_all) (hI : zy_I ks M) (hR : zR ks M) {a0 x y : Int32} (ho : zy_bck ks M a0 x M1) (h2 : zF_X10_back zW_M [.ref 0, .int a0] (zm_sub2 [(165, 31)] M1) = some (some (.int y), N2)) : x = y ∧ zR ks (zm_mrg [(165, 31)] M1 N2) := by
  rcases ho with ⟨hr, rfl, e2⟩ | ⟨k, hk, rfl, hix, rfl, e2⟩ | ⟨k, i, N, hk, rfl, hix, rfl, rfl, hcp⟩
  · have e2 := e2.symm
    subst e2
    have hN : zF_X10_back zW_M [.ref 0, .int a0] (zm_sub2 [(165, 31)] M) = some (some (.int (-2)), (zm_w (zm_sub2 [(165, 31)] M).1 0 0 0, (zm_sub2 [(165, 31)] M).2)) := zR_bkN (zR_rg hr)
    rw [hN] at h2
    cases h2
    exact ⟨rfl, zR_Zn hR (fun _ _ _ => rfl) rfl⟩
  · have e2 := e2.symm
    subst e2
    have hv := hR.2.2.2 k hk
    unfold zR_v at hv
    rw [hix] at hv
    have h0 : (zm_sub2 [(165, 31)] M).1 11 k = 0 := (zR_T1 (n := 11) (by decide) k).trans (Int32.toInt_inj.mp (hv.trans ze_i0.symm))
    have hN : zF_X10_back zW_M [.ref 0, .int (Int32.ofNat k)] (zm_sub2 [(165, 31)] M) = some (some (.int (-6)), (zm_w (zm_sub2 [(165, 31)] M).1 0 0 0, (zm_sub2 [(165, 31)] M).2)) := zR_bk0 hk h0
    rw [hN] at h2
    cases h2
    exact ⟨rfl, zR_Zn hR (fun _ _ _ => rfl) rfl⟩
  · have hi := zK_old hks hk hix
    have hcpy := fun n => zy_cp (a := 1) (b := 196 + 10 * i) (M := M) (N := N) (by omega) hcp.2.2 n
    have hX : ∀ n b, (n < 1 ∨ 11 ≤ n) ∧ n ≠ 21 ∧ n ≠ 68 ∧ n ≠ 72 → (zi_fg (zm_mrg [(1, 10), (196 + 10 * i, 10)] M N)).1 n b = M.1 n b := fun n b hn => by rw [(zy_fgx _ (n := n) hn.2).1, ((hcpy n).2 (by omega)).1]
    have hcx : zR_x (196 + 10 * i) 1 M.1 (zi_fg (zm_mrg [(1, 10), (196 + 10 * i, 10)] M N)).1 := zR_xc (zR_cx (a := 1) (b := 196 + 10 * i) (by omega) hcp (zR_bkI hI hi)) (fun _ _ _ => rfl) (fun q b hq => by rw [(zy_fgx _ (n := 1 + q) (by omega)).1])
    generalize zi_fg (zm_mrg [(1, 10), (196 + 10 * i, 10)] M N) = M1 at h2 hX hcx
    have eM : ∀ n b, n < 31 → zR_M M1 n b = zR_M M n b := fun n b hn => hX (165 + n) b (by omega)
    have hv := hR.2.2.2 k hk
    unfold zR_v at hv
    rw [hix] at hv
    have hv : (M.1 176 k).toInt = 1 := hv
    have h1 : ¬ (zm_sub2 [(165, 31)] M1).1 11 k = 0 := by
      have e2 : (zm_sub2 [(165, 31)] M1).1 11 k = M.1 176 k := (zR_T1 (n := 11) (by decide) k).trans (eM 11 k (by decide))
      rw [e2]
      intro z
      rw [z] at hv
      exact absurd hv (by decide)
    obtain ⟨K, g1, g2, g3, g4, g5, g6⟩ := zR_bkY (I := (zm_sub2 [(165, 31)] M1).1) (J := (zm_sub2 [(165, 31)] M1).2) hk h1
    have h2' : some (some (Value.int y), N2) = (some (some (.int 0), (K, (zm_sub2 [(165, 31)] M1).2)) : zm_R) := h2.symm.trans g1
    cases h2'
    refine ⟨rfl, zR_Zt hR (fun b => hX 51 b (by omega)) (fun b => hX 52 b (by omega)) (fun b hb => (g4 b hb).trans ((zR_T1 (by decide) b).trans (eM 0 b (by decide)))) (fun b => (g5 b).trans ((zR_T1 (by decide) b).trans (eM 5 b (by decide)))), zR_q (hR.2.2.1 k i hk hix) (zR_xc hcx (fun _ _ _ => rfl) (fun q b hq => zR_Z (by omega) b)) (zR_yM g2 eM), fun q j hq hjx => ?_, fun q hq => ?_⟩
    · refine zR_q (hR.2.2.1 q j hq hjx) (zR_xr (fun r b hr => ?_)) (zR_yM (g3 (q + 1) (by omega) (by omega)) eM)
      rw [zR_Z (by omega), hX _ b (by omega)]
    · have e : (zm_mrg [(165, 31)] M1 (K, (zm_sub2 [(165, 31)] M1).2)).1 176 q = K 11 q := zR_Zm (n := 11) (by decide) q
      have e2 : (zm_sub2 [(165, 31)] M1).1 11 q = M.1 176 q := (zR_T1 (n := 11) (by decide) q).trans (eM 11 q (by decide))
      rw [e, g6 q, e2]
      exact hR.2.2.2 q hq
end ZRU
