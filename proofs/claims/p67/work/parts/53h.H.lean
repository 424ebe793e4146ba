section ZPH
variable {T : Nat → Int} {n S C L : Nat} {A : zpA} {I I' N N' : Nat → Nat → Int32} {J J' : Nat → Nat → Int64}
/-- room for one more -/
theorem zp_room0 (q m : Int32) : zF_X10_isRoom zW_M [.ref 0, .int 0, .int q, .int m] (I, J) = some (some (.int 0), (I, J)) := by
  rw [zf_X10_isRoom_M, zq_X10_isRoom_M_0, if_pos rfl, zq_X10_isRoom_M_18, if_pos rfl, zq_X10_isRoom_M_33, if_pos rfl, zq_X10_isRoom_M_48, zq_X10_isRoom_M_49, if_pos (Or.inl rfl)]
theorem zp_room1 {q m z : Nat} (hq : q ≤ 6) (hm : m ≤ 1000) (hz : z ≤ 1000) (hr : I 7 (28 + q) = Int32.ofNat z) (hn : n ≤ 800) (hW : zpW T n A) (h : zpM T n A I J) (hf : A.2.2.2.1 = 0) : ∃ N P, zp_fr I N ∧ ((z = m ∧ zF_X10_isRoom zW_M [.ref 0, .int 1, .int (Int32.ofNat q), .int (Int32.ofNat m)] (I, J) = some (some (.int 0), (N, P)) ∧ zpM T n (zp_ref 3 A) N P) ∨ (z ≠ m ∧ zF_X10_isRoom zW_M [.ref 0, .int 1, .int (Int32.ofNat q), .int (Int32.ofNat m)] (I, J) = some (some (.int 1), (N, P)) ∧ zpM T n (zp_adv T n A) N P)) := by
  have h12 := h.2.2.2.2.2.1
  have hread := zp_readM (I := I) (J := J) hq
  rw [hr] at hread
  rw [zf_X10_isRoom_M, zq_X10_isRoom_M_0, if_neg (by decide), zc_X10_isRoom_M_4 _ _ _ _ _ hread, zq_X10_isRoom_M_9]
  by_cases c : z = m
  · obtain ⟨N, r1, r2, r3⟩ := zp_refM 3 h
    have k12 := r2.2.2.2.2.2.1
    have nz : ¬ (zp_ref 3 A).2.2.2.1 = 0 := zp_f_ref (by decide)
    refine ⟨N, J, r3, Or.inl ⟨c, ?_, r2⟩⟩
    rw [c, if_pos rfl, zc_X10_isRoom_M_13 _ _ _ _ _ r1, zq_X10_isRoom_M_18, if_neg (by decide), zq_X10_isRoom_M_22, k12, if_neg nz, zq_X10_isRoom_M_33, if_neg (by decide), zq_X10_isRoom_M_37, k12, if_neg nz, zq_X10_isRoom_M_48, zq_X10_isRoom_M_49, if_pos (Or.inl rfl)]
  · obtain ⟨N, P, r1, r2, r3, -⟩ := zp_advM hn (zp_W_b hW).2.1 h
    have k12 := r2.2.2.2.2.2.1
    have kz : (zp_adv T n A).2.2.2.1 = 0 := hf
    refine ⟨N, P, r3, Or.inr ⟨c, ?_, r2⟩⟩
    rw [if_neg (zp_ne hz hm c), zq_X10_isRoom_M_18, if_neg (by decide), zq_X10_isRoom_M_22, h12, if_pos hf, zc_X10_isRoom_M_29 _ _ _ _ _ r1, zq_X10_isRoom_M_33, if_neg (by decide), zq_X10_isRoom_M_37, k12, if_pos kz, zq_X10_isRoom_M_44, zq_X10_isRoom_M_49, if_pos (Or.inr rfl)]
theorem zp_s_adv2 (hW : zpW T n A) : A.2.1 ≤ (zp_adv T n A).2.1 := Nat.le_trans (zp_W_b hW).1 (zp_s_adv hW)
/-- any line but the first -/
theorem zp_line (hn : n ≤ 800) (hW : zpW T n A) (h : zpXA T n A I) (h' : zpM T n A I' J') (hf : A.2.2.2.1 = 0) (hB : zpB S C L I I') (i : Int32) : ∃ (B : zpA) (N N' : Nat → Nat → Int32) (P' : Nat → Nat → Int64), zv_X8_read_TB_61 I J i = zv_X8_read_TB_100 N J i ∧ zF_X10_lineHere zW_M [.ref 0] (I', J') = some (none, (N', P')) ∧ zpXA T n B N ∧ zpM T n B N' P' ∧ zpW T n B ∧ A.2.1 ≤ B.2.1 ∧ N 2 0 = Int32.ofNat L ∧ N' 6 4 = Int32.ofNat L ∧ zp_fk I' N' ∧ (B.2.2.2.1 = 0 → ∃ S2 C2, zpB S2 C2 L N N') := by
  have b := zp_W_b hW
  have hBB := hB
  obtain ⟨⟨a1, a2⟩, ⟨b1, b2, b3⟩, ⟨c1, c2, c3⟩, d, ⟨e1, e2, e3, e4⟩, fS, gC⟩ := hB
  obtain ⟨x, q1, g1⟩ := zp_isX (J := J) 5 (by decide) h hn b.2.1 b.1 b.2.2.1
  obtain ⟨x', q1', g1'⟩ := zp_isM (J := J') zp_wd5 hW h'
  rw [zc_X8_read_TB_61 _ _ _ q1, zq_X8_read_TB_67, zf_X10_lineHere_M, zc_X10_lineHere_M_0 _ _ q1']
  have s2 := zp_s_adv2 hW
  have W2 := zp_W_adv (T := T) (n := n) b.2.1 hW.2.2.2
  have o6 : (6 : Int32) = Int32.ofNat 6 := rfl
  have o5 : (5 : Int32) = Int32.ofNat 5 := rfl
  have o4 : (4 : Int32) = Int32.ofNat 4 := rfl
  by_cases i5 : zp_is T A.1 A.2.1 A.2.2.1 5
  · rcases g1 with ⟨rfl, -⟩ | ⟨-, g⟩
    rotate_left
    · exact absurd i5 g
    rcases g1' with ⟨rfl, -⟩ | ⟨-, g⟩
    rotate_left
    · exact absurd ⟨hf, i5⟩ g
    obtain ⟨K', P', f', alt⟩ := zp_room1 (q := 4) (m := 6) (z := S) (by decide) (by decide) (by omega) b2 hn hW h' hf
    rw [if_neg (by decide)]
    rcases alt with ⟨hS, r1, r2⟩ | ⟨hS, r1, r2⟩
    · obtain ⟨N, u1, u2, u3⟩ := zp_refX (J := J) 3 h
      have k12 := r2.2.2.2.2.2.1
      have nz : ¬ (zp_ref 3 A).2.2.2.1 = 0 := zp_f_ref (by decide)
      have l6 : ¬ (I 2 5 < 6) := by
        rw [b1, hS]
        decide
      have eX : zF_X8_readSeat zW_TB [.ref 0, .ref 2] (I, J) = some (none, (N, J)) := by rw [zf_X8_readSeat_TB, zq_X8_readSeat_TB_0, if_neg l6, zc_X8_readSeat_TB_11 _ _ _ u1, zq_X8_readSeat_TB_16]
      refine ⟨zp_ref 3 A, N, K', P', by rw [zc_X8_read_TB_70 _ _ _ eX, zq_X8_read_TB_75], ?_, u2, r2, zp_W_ref 3 (by decide) hW, Nat.le_of_eq (zp_s_ref 3).symm, by rw [u3 _ _ (by decide)]; exact a1, by rw [f' _ _ (by decide)]; exact a2, zp_fkf f', fun z => absurd z nz⟩
      rw [zc_X10_lineHere_M_8 _ _ _ r1, zq_X10_lineHere_M_14, if_pos rfl, zq_X10_lineHere_M_24, k12, if_neg nz, zq_X10_lineHere_M_54, k12, if_neg nz, zq_X10_lineHere_M_66]
    · have hS6 : S < 6 := by omega
      obtain ⟨v, N, u1, u2, u3⟩ := zp_seatX (J := J) hn hW h hf i5 hS6 b1
      obtain ⟨v', N', Q', w1, w2, w3⟩ := zp_seatM hn W2 r2 hf hS6 ((f' 7 32 (by decide)).trans b2)
      have eM : zv_X10_lineHere_M_8 I' J' 1 = some (none, (zm_w (zm_w N' 8 (24 + S) v') 7 32 (Int32.ofNat (S + 1)), Q')) := by rw [zc_X10_lineHere_M_8 _ _ _ r1, zq_X10_lineHere_M_14, if_neg (by decide), zc_X10_lineHere_M_17 _ _ w1, zq_X10_lineHere_M_21, zq_X10_lineHere_M_66]
      have eX : zv_X8_read_TB_70 I J i = zv_X8_read_TB_100 (zm_w (zm_w N 3 S v) 2 5 (Int32.ofNat (S + 1))) J i := by rw [zc_X8_read_TB_70 _ _ _ u1, zq_X8_read_TB_75]
      have w2 := zp_frt f' w2
      have fin : ∀ B : zpA × Int, zpXA T n B.1 N → zpM T n B.1 N' Q' → zpW T n B.1 → A.2.1 ≤ B.1.2.1 → (B.1.2.2.2.1 = 0 → v = v') → ∃ (B : zpA) (N N' : Nat → Nat → Int32) (P' : Nat → Nat → Int64), zv_X8_read_TB_70 I J i = zv_X8_read_TB_100 N J i ∧ zv_X10_lineHere_M_8 I' J' 1 = some (none, (N', P')) ∧ zpXA T n B N ∧ zpM T n B N' P' ∧ zpW T n B ∧ A.2.1 ≤ B.2.1 ∧ N 2 0 = Int32.ofNat L ∧ N' 6 4 = Int32.ofNat L ∧ zp_fk I' N' ∧ (B.2.2.2.1 = 0 → ∃ S2 C2, zpB S2 C2 L N N') := by
        intro B x1 x2 x3 x4 x5
        refine ⟨B.1, _, _, Q', eX, eM, zpXA_w (zpXA_w x1 (by decide) _) (by decide) _, zpM_w (zpM_w x2 (by decide) _) (by decide) _, x3, x4, by rw [ze_wj (by decide), ze_wo (by decide), u2 _ _ (by decide)]; exact a1, by rw [ze_wo (by decide), ze_wo (by decide), w2 _ _ (by decide)]; exact a2, fun a b hab => ?_, fun z => ⟨S + 1, C, ?_⟩⟩
        · unfold zm_w
          rw [if_neg (by omega), if_neg (by omega)]
          exact w2 a b (by omega)
        have ev := x5 z
        refine ⟨⟨?_, ?_⟩, ⟨ze_wi, ze_wi, by omega⟩, ⟨?_, ?_, c3⟩, ?_, ⟨?_, ?_, ?_, ?_⟩, ?_, ?_⟩
        · rw [ze_wj (by decide), ze_wo (by decide), u2 _ _ (by decide)]; exact a1
        · rw [ze_wo (by decide), ze_wo (by decide), w2 _ _ (by decide)]; exact a2
        · rw [ze_wj (by decide), ze_wo (by decide), u2 _ _ (by decide)]; exact c1
        · rw [ze_wj (by decide), ze_wo (by decide), w2 _ _ (by decide)]; exact c2
        · rw [ze_wj (by decide), ze_wo (by decide), u2 _ _ (by decide), ze_wj (by decide), ze_wo (by decide), w2 _ _ (by decide)]; exact d
        · rw [ze_wj (by decide), ze_wo (by decide), u2 _ _ (by decide), ze_wj (by decide), ze_wo (by decide), w2 _ _ (by decide)]; exact e1
        · rw [ze_wj (by decide), ze_wo (by decide), u2 _ _ (by decide), ze_wj (by decide), ze_wo (by decide), w2 _ _ (by decide)]; exact e2
        · rw [ze_wj (by decide), ze_wo (by decide), u2 _ _ (by decide), ze_wj (by decide), ze_wo (by decide), w2 _ _ (by decide)]; exact e3
        · rw [ze_wj (by decide), ze_wo (by decide), u2 _ _ (by decide), ze_wj (by decide), ze_wo (by decide), w2 _ _ (by decide)]; exact e4
        · intro s hs
          by_cases e : s = S
          · subst e
            rw [ze_wo (by decide), ze_wi, ze_wo (by decide), ze_wi]
            exact ev
          · rw [ze_wo (by decide), ze_wj e, u2 _ _ (by decide), ze_wo (by decide), ze_wj (by omega), w2 _ _ (by decide)]
            exact fS s (by omega)
        · intro c hc
          have xo : ∀ a, 4 ≤ a → a ≤ 8 → zm_w (zm_w N 3 S v) 2 5 (Int32.ofNat (S + 1)) a c = I a c := fun a h4 h8 => by rw [ze_wo (by omega), ze_wo (by omega), u2 _ _ (by omega)]
          have yo : ∀ j, zm_w (zm_w N' 8 (24 + S) v') 7 32 (Int32.ofNat (S + 1)) 9 j = I' 9 j := fun j => by rw [ze_wo (by decide), ze_wo (by decide), w2 _ _ (by decide)]
          rw [xo 4 (by decide) (by decide), xo 5 (by decide) (by decide), xo 6 (by decide) (by decide), xo 7 (by decide) (by decide), xo 8 (by decide) (by decide), yo, yo, yo, yo, yo]
          obtain ⟨g5, g6, g7⟩ := gC c hc
          exact ⟨g5, g6, by omega⟩
      rcases u3 with ⟨k6, u4, u5⟩ | ⟨k6, u4, u5⟩
      · rcases w3 with ⟨-, w4, w5⟩ | ⟨m6, -, -⟩
        rotate_left
        · exact absurd k6 m6
        refine fin _ u4 w4 (zp_W_nu 0 9 (zp_W_adv (zp_W_b W2).2.1 W2.2.2.2)) (Nat.le_trans s2 (Nat.le_trans (zp_s_adv2 W2) (zp_s_nu 0 9 (zp_W_adv (zp_W_b W2).2.1 W2.2.2.2)))) (fun z => ?_)
        have e := Int32.toInt_inj.mp (u5.trans (w5 z).symm)
        have e := congrArg (fun y : Int32 => -y) e
        rw [Int32.neg_neg, Int32.neg_neg] at e
        exact e
      · rcases w3 with ⟨m6, -, -⟩ | ⟨-, w4, w5⟩
        · exact absurd m6 k6
        · exact fin _ u4 w4 (zp_W_ta 7 0 9 W2) (Nat.le_trans s2 (zp_s_ta 7 0 9 W2)) (fun z => Int32.toInt_inj.mp (u5.trans (w5 z).symm))
  · rcases g1 with ⟨-, g⟩ | ⟨rfl, -⟩
    · exact absurd g i5
    rcases g1' with ⟨-, -, g⟩ | ⟨rfl, -⟩
    · exact absurd g i5
    obtain ⟨x, q2, g2⟩ := zp_isX (J := J) 8 (by decide) h hn b.2.1 b.1 b.2.2.1
    obtain ⟨x', q2', g2'⟩ := zp_isM (J := J') zp_wd8 hW h'
    have k12 := h'.2.2.2.2.2.1
    rw [if_pos rfl, zc_X8_read_TB_78 _ _ _ q2, zq_X8_read_TB_84, zc_X10_lineHere_M_8 _ _ _ (zp_room0 4 6), zq_X10_lineHere_M_14, if_pos rfl, zq_X10_lineHere_M_24, k12, if_pos hf, zc_X10_lineHere_M_31 _ _ q2']
    by_cases i8 : zp_is T A.1 A.2.1 A.2.2.1 8
    · rcases g2 with ⟨rfl, -⟩ | ⟨-, g⟩
      rotate_left
      · exact absurd i8 g
      rcases g2' with ⟨rfl, -⟩ | ⟨-, g⟩
      rotate_left
      · exact absurd ⟨hf, i8⟩ g
      obtain ⟨K', P', f', alt⟩ := zp_room1 (q := 5) (m := 5) (z := C) (by decide) (by decide) (by omega) c2 hn hW h' hf
      rw [if_neg (by decide)]
      rcases alt with ⟨hC, r1, r2⟩ | ⟨hC, r1, r2⟩
      · obtain ⟨N, u1, u2, u3⟩ := zp_refX (J := J) 3 h
        have k12 := r2.2.2.2.2.2.1
        have nz : ¬ (zp_ref 3 A).2.2.2.1 = 0 := zp_f_ref (by decide)
        have l6 : ¬ (I 2 6 < 5) := by
          rw [c1, hC]
          decide
        have eX : zF_X8_readCaller zW_TB [.ref 0, .ref 2] (I, J) = some (none, (N, J)) := by rw [zf_X8_readCaller_TB, zq_X8_readCaller_TB_0, if_neg l6, zc_X8_readCaller_TB_10 _ _ _ u1, zq_X8_readCaller_TB_15]
        refine ⟨zp_ref 3 A, N, K', P', by rw [zc_X8_read_TB_87 _ _ _ eX, zq_X8_read_TB_92], ?_, u2, r2, zp_W_ref 3 (by decide) hW, Nat.le_of_eq (zp_s_ref 3).symm, by rw [u3 _ _ (by decide)]; exact a1, by rw [f' _ _ (by decide)]; exact a2, zp_fkf f', fun z => absurd z nz⟩
        rw [zc_X10_lineHere_M_39 _ _ _ r1, zq_X10_lineHere_M_44, if_pos rfl, zq_X10_lineHere_M_54, k12, if_neg nz, zq_X10_lineHere_M_66]
      · obtain ⟨B, N, N', Q', u1, u2, u3, u4, u5, u6, u7, u8, u10, u9⟩ := zp_call (J := J) hn hW h r2 hf i8 (by omega) (zpB_fr hBB (zp_frr I) f')
        refine ⟨B, N, N', Q', by rw [zc_X8_read_TB_87 _ _ _ u1, zq_X8_read_TB_92], ?_, u3, u4, u5, u6, u7, u8, zp_fkt (zp_fkf f') u10, fun z => ⟨S, C + 1, u9 z⟩⟩
        rw [zc_X10_lineHere_M_39 _ _ _ r1, zq_X10_lineHere_M_44, if_neg (by decide), zc_X10_lineHere_M_47 _ _ u2, zq_X10_lineHere_M_51, zq_X10_lineHere_M_66]
    · rcases g2 with ⟨-, g⟩ | ⟨rfl, -⟩
      · exact absurd g i8
      rcases g2' with ⟨-, -, g⟩ | ⟨rfl, -⟩
      · exact absurd g i8
      obtain ⟨N, u1, u2, u3⟩ := zp_refX (J := J) 1 h
      obtain ⟨N', r1, r2, r3⟩ := zp_refM 1 h'
      refine ⟨zp_ref 1 A, N, N', J', by rw [if_pos rfl, zc_X8_read_TB_95 _ _ _ u1], ?_, u2, r2, zp_W_ref 1 (by decide) hW, Nat.le_of_eq (zp_s_ref 1).symm, by rw [u3 _ _ (by decide)]; exact a1, by rw [r3 _ _ (by decide)]; exact a2, zp_fkf r3, fun z => absurd z (zp_f_ref (by decide))⟩
      rw [zc_X10_lineHere_M_39 _ _ _ (zp_room0 5 5), zq_X10_lineHere_M_44, if_pos rfl, zq_X10_lineHere_M_54, k12, if_pos hf, zc_X10_lineHere_M_61 _ _ r1, zq_X10_lineHere_M_66]
theorem zp_goodM (h : zpM T n A I J) : zF_X10_isGood zW_M [.ref 0] (I, J) = some (some (.int (if A.2.2.2.1 = 0 then 1 else 0)), (I, J)) := by
  have h12 := h.2.2.2.2.2.1
  rw [zf_X10_isGood_M, zq_X10_isGood_M_0, h12]
  by_cases c : A.2.2.2.1 = 0
  · rw [if_pos c, if_pos c, zq_X10_isGood_M_7, zq_X10_isGood_M_12, if_pos (Or.inr rfl)]
  · rw [if_neg c, if_neg c, zq_X10_isGood_M_11, zq_X10_isGood_M_12, if_pos (Or.inl rfl)]
theorem zp_addk {K' : Nat → Nat → Int32} (hk : zp_fk I' K') {R0 : zm_R} {M0 : zm_R} (h : ∃ (B : zpA) (N N' : Nat → Nat → Int32) (P' : Nat → Nat → Int64) (l : Int32), R0 = zv_X8_read_TB_120 N J l ∧ M0 = zv_X10_bench_M_133 N' P' ∧ zpXA T n B N ∧ zpM T n B N' P' ∧ zpW T n B ∧ zp_fk K' N' ∧ (B.2.2.2.1 = 0 → ∃ S C L, zpB S C L N N')) : ∃ (B : zpA) (N N' : Nat → Nat → Int32) (P' : Nat → Nat → Int64) (l : Int32), R0 = zv_X8_read_TB_120 N J l ∧ M0 = zv_X10_bench_M_133 N' P' ∧ zpXA T n B N ∧ zpM T n B N' P' ∧ zpW T n B ∧ zp_fk I' N' ∧ (B.2.2.2.1 = 0 → ∃ S C L, zpB S C L N N') := by
  obtain ⟨B, N, N', P', l, h1, h2, h3, h4, h5, h6, h7⟩ := h
  exact ⟨B, N, N', P', l, h1, h2, h3, h4, h5, zp_fkt hk h6, h7⟩
/-- all lines -/
theorem zp_loop (hn : n ≤ 800) : ∀ (d : Nat) (A : zpA) (I I' : Nat → Nat → Int32) (J J' : Nat → Nat → Int64) (i : Nat), n - A.2.1 < d → zpW T n A → zpXA T n A I → zpM T n A I' J' → i ≤ 800 → (A.2.2.2.1 = 0 → i ≤ A.2.1 ∧ ∃ S C L, zpB S C L I I' ∧ L = i ∧ (L = 0 → S = 0 ∧ C = 0)) → ∃ (B : zpA) (N N' : Nat → Nat → Int32) (P' : Nat → Nat → Int64) (l : Int32), zv_X8_read_TB_25 I J (Int32.ofNat i) = zv_X8_read_TB_120 N J l ∧ zv_X10_bench_M_13 I' J' = zv_X10_bench_M_133 N' P' ∧ zpXA T n B N ∧ zpM T n B N' P' ∧ zpW T n B ∧ zp_fk I' N' ∧ (B.2.2.2.1 = 0 → ∃ S C L, zpB S C L N N') := by
  intro d
  induction d with
  | zero => intro A I I' J J' i hd; omega
  | succ d ih =>
    intro A I I' J J' i hd hW h h' hi hB
    have b := zp_W_b hW
    have k2 := h.2.2.2.2.2.1
    have k4 := h.2.2.1
    have k8 := h'.2.2.1
    rw [zc_X10_bench_M_13 _ _ (zp_goodM h'), zq_X10_bench_M_17]
    by_cases hf : A.2.2.2.1 = 0
    · obtain ⟨hi2, S, C, L, hB, hL, hL0⟩ := hB hf
      rw [if_pos hf, if_neg (by decide), zq_X10_bench_M_20, k8]
      by_cases hk : A.1 = 0
      · refine ⟨A, I, I', J', Int32.ofNat i, ?_, by rw [if_pos (by rw [hk]; rfl)], h, h', hW, fun _ _ _ => rfl, fun _ => ⟨S, C, L, hB⟩⟩
        rw [zq_X8_read_TB_25]
        split
        · rfl
        · rw [zq_X8_read_TB_32, k4, if_pos (by rw [hk]; rfl)]
      · have hs := b.2.2.2 hk
        have c800 : ¬ ((800 : Int32) ≤ Int32.ofNat i) := fun z => by
          rw [show (800 : Int32) = Int32.ofNat 800 from rfl] at z
          have := (zp_le (by omega) (by omega)).mp z
          omega
        have nk : ¬ (Int32.ofNat A.1 : Int32) = 0 := zp_ne (j := 0) (by omega) (by omega) hk
        rw [zq_X8_read_TB_25, if_neg c800, zq_X8_read_TB_32, k4, if_neg nk, zq_X8_read_TB_39, k2, if_pos hf, zq_X8_read_TB_46, hB.1.1, if_neg nk, zq_X10_bench_M_27, if_neg (show ¬ ((4 : Int32) < 0 ∨ 5 ≤ Int32.toNatClampNeg 4) by decide), show Int32.toNatClampNeg 4 = 4 by decide, hB.1.2]
        -- behind the line: its sign, and one line more
        have tail : ∀ (B : zpA) (N N' : Nat → Nat → Int32) (P' : Nat → Nat → Int64), zpXA T n B N → zpM T n B N' P' → zpW T n B → A.2.1 ≤ B.2.1 → N 2 0 = Int32.ofNat L → N' 6 4 = Int32.ofNat L → zp_fk I' N' → (B.2.2.2.1 = 0 → ∃ S2 C2, zpB S2 C2 L N N') → ∃ (B : zpA) (Q Q' : Nat → Nat → Int32) (R' : Nat → Nat → Int64) (l : Int32), zv_X8_read_TB_100 N J (Int32.ofNat i) = zv_X8_read_TB_120 Q J l ∧ zv_X10_bench_M_109 N' P' = zv_X10_bench_M_133 Q' R' ∧ zpXA T n B Q ∧ zpM T n B Q' R' ∧ zpW T n B ∧ zp_fk I' Q' ∧ (B.2.2.2.1 = 0 → ∃ S C L, zpB S C L Q Q') := by
          intro B N N' P' x1 x2 x3 x4 n0 n6 xk x5
          obtain ⟨K, t1, t2, t3⟩ := zp_tsX (J := J) hn x3 x1
          have W3 := zp_W_ts x3
          have eM : ∃ (K' : Nat → Nat → Int32) (R' : Nat → Nat → Int64), zv_X10_bench_M_109 N' P' = zv_X10_bench_M_120 K' R' ∧ zpM T n (zp_ts T n B) K' R' ∧ zp_fr N' K' := by
            rw [zc_X10_bench_M_109 _ _ (zp_goodM x2), zq_X10_bench_M_113]
            by_cases z : B.2.2.2.1 = 0
            · obtain ⟨K', R', y1, y2, y3, -⟩ := zp_tsM hn x3 x2
              rw [if_pos z, if_neg (by decide), zc_X10_bench_M_116 _ _ y1]
              exact ⟨K', R', rfl, y2, y3⟩
            · rw [if_neg z, if_pos rfl, zp_n_ts z]
              exact ⟨N', P', rfl, x2, zp_frr N'⟩
          obtain ⟨K', R', m1, m2, m3⟩ := eM
          rw [zc_X8_read_TB_100 _ _ _ t1, zq_X8_read_TB_104, t3 _ _ (by decide), n0, m1, zq_X10_bench_M_120, if_neg (show ¬ ((4 : Int32) < 0 ∨ 5 ≤ Int32.toNatClampNeg 4) by decide), if_neg (show ¬ ((4 : Int32) < 0 ∨ 5 ≤ Int32.toNatClampNeg 4) by decide), show Int32.toNatClampNeg 4 = 4 by decide, m3 _ _ (by decide), n6, zp_o1 (by omega), zp_o1 (by omega)]
          have adv : (zp_ts T n B).2.2.2.1 = 0 → B.2.2.2.1 = 0 ∧ B.2.1 < (zp_ts T n B).2.1 := by
            intro z
            by_cases y : B.2.2.2.1 = 0
            · refine ⟨y, ?_⟩
              unfold zp_ts at z ⊢
              rw [if_pos y] at z ⊢
              by_cases w : B.1 = 3
              · rw [if_pos w]
                have bb := zp_W_b x3
                have := zp_s_adv x3
                have := bb.2.2.2 (by omega)
                omega
              · rw [if_neg w] at z
                exact absurd z (zp_f_ref (by decide))
            · rw [zp_n_ts y] at z
              exact absurd z y
          by_cases z : (zp_ts T n B).2.2.2.1 = 0
          · obtain ⟨y1, y2⟩ := adv z
            obtain ⟨S2, C2, y3⟩ := x5 y1
            have y4 := zpB_fr y3 t3 m3
            obtain ⟨⟨a1, a2⟩, ⟨b1, b2, b3⟩, ⟨c1, c2, c3⟩, d2, ⟨e1, e2, e3, e4⟩, fS, gC⟩ := y4
            have xk2 : zp_fk I' (zm_w K' 6 4 (Int32.ofNat (L + 1))) := fun a b hab => by
              unfold zm_w
              rw [if_neg (by omega), m3 a b (by omega)]
              exact xk a b hab
            refine zp_addk xk2 (ih (zp_ts T n B) _ _ J R' (i + 1) (by have := (zp_W_b W3).2.1; omega) W3 (zpXA_w t2 (by decide) _) (zpM_w m2 (by decide) _) (by omega) (fun _ => ⟨by omega, S2, C2, L + 1, ⟨⟨ze_wi, ze_wi⟩, ⟨?_, ?_, b3⟩, ⟨?_, ?_, c3⟩, ?_, ⟨?_, ?_, ?_, ?_⟩, ?_, ?_⟩, by omega, fun q => absurd q (Nat.succ_ne_zero L)⟩))
            · rw [ze_wj (by decide)]; exact b1
            · rw [ze_wo (by decide)]; exact b2
            · rw [ze_wj (by decide)]; exact c1
            · rw [ze_wo (by decide)]; exact c2
            · rw [ze_wj (by decide), ze_wo (by decide)]; exact d2
            · rw [ze_wj (by decide), ze_wo (by decide)]; exact e1
            · rw [ze_wj (by decide), ze_wo (by decide)]; exact e2
            · rw [ze_wj (by decide), ze_wo (by decide)]; exact e3
            · rw [ze_wj (by decide), ze_wo (by decide)]; exact e4
            · intro s hs
              rw [ze_wo (by decide), ze_wo (by decide)]; exact fS s hs
            · intro c hc
              rw [ze_wo (by decide), ze_wo (by decide), ze_wo (by decide), ze_wo (by decide), ze_wo (by decide), ze_wo (by decide), ze_wo (by decide), ze_wo (by decide), ze_wo (by decide), ze_wo (by decide)]; exact gC c hc
          · have p1 := zpXA_w (a := 2) (b := 0) t2 (by decide) (Int32.ofNat (L + 1))
            have p2 := zpM_w (a := 6) (b := 4) m2 (by decide) (Int32.ofNat (L + 1))
            have p3 := p1.2.2.2.2.2.1
            refine ⟨zp_ts T n B, _, _, R', Int32.ofNat (i + 1), ?_, ?_, p1, p2, W3, fun a b hab => by unfold zm_w; rw [if_neg (by omega), m3 a b (by omega)]; exact xk a b hab, fun q => absurd q z⟩
            · rw [zq_X8_read_TB_25]
              split
              · rfl
              · rw [zq_X8_read_TB_32]
                split
                · rfl
                · rw [zq_X8_read_TB_39, p3, if_neg z]
            · rw [zc_X10_bench_M_13 _ _ (zp_goodM p2), zq_X10_bench_M_17, if_neg z, if_pos rfl]
        by_cases l0 : L = 0
        · obtain ⟨hs0, hc0⟩ := hL0 l0
          subst l0 hs0 hc0
          obtain ⟨B, N, N', P', u1, u2, u3, u4, u5, u6, u7, u8, u10, u9⟩ := zp_first (J := J) hn hW h h' hB
          rw [if_pos (show (Int32.ofNat 0 : Int32) = 0 from rfl), zc_X8_read_TB_53 _ _ _ u1, zq_X8_read_TB_58, if_pos (show (Int32.ofNat 0 : Int32) = 0 from rfl), u2]
          exact tail B N N' P' u3 u4 u5 u6 u7 u8 u10 (fun z => ⟨0, 0, u9 z⟩)
        · obtain ⟨B, N, N', P', u1, u2, u3, u4, u5, u6, u7, u8, u10, u9⟩ := zp_line (J := J) hn hW h h' hf hB (Int32.ofNat i)
          have nl : ¬ (Int32.ofNat L : Int32) = 0 := zp_ne (j := 0) (by omega) (by omega) l0
          rw [if_neg nl, u1, if_neg nl, zc_X10_bench_M_105 _ _ u2]
          exact tail B N N' P' u3 u4 u5 u6 u7 u8 u10 u9
    · refine ⟨A, I, I', J', Int32.ofNat i, ?_, by rw [if_neg hf, if_pos rfl], h, h', hW, fun _ _ _ => rfl, fun q => absurd q hf⟩
      rw [zq_X8_read_TB_25]
      split
      · rfl
      · rw [zq_X8_read_TB_32]
        split
        · rfl
        · rw [zq_X8_read_TB_39, k2, if_neg hf]
end ZPH
