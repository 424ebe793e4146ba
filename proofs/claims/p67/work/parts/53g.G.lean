section ZPG
variable {T : Nat → Int} {n S C L : Nat} {A : zpA} {I I' N N' : Nat → Nat → Int32} {J J' : Nat → Nat → Int64}
/-- a seat's line, behind its first word: the class -/
theorem zp_seatX (hn : n ≤ 800) (hW : zpW T n A) (h : zpXA T n A I) (hf : A.2.2.2.1 = 0) (hi : zp_is T A.1 A.2.1 A.2.2.1 5) (hS : S < 6) (h5 : I 2 5 = Int32.ofNat S) : ∃ (v : Int32) (N : Nat → Nat → Int32), zF_X8_readSeat zW_TB [.ref 0, .ref 2] (I, J) = some (none, (zm_w (zm_w N 3 S v) 2 5 (Int32.ofNat (S + 1)), J)) ∧ zp_fr I N ∧ ((zp_is T (zp_adv T n A).1 (zp_adv T n A).2.1 (zp_adv T n A).2.2.1 6 ∧ zpXA T n (zp_nu T n 0 9 (zp_adv T n (zp_adv T n A))).1 N ∧ (-v).toInt = (zp_nu T n 0 9 (zp_adv T n (zp_adv T n A))).2) ∨ (¬ zp_is T (zp_adv T n A).1 (zp_adv T n A).2.1 (zp_adv T n A).2.2.1 6 ∧ zpXA T n (zp_ta T n 7 0 9 (zp_adv T n A)).1 N ∧ v.toInt = (zp_ta T n 7 0 9 (zp_adv T n A)).2)) := by
  have c0 : (0 : Int32).toInt = 0 := by decide
  have c9 : (9 : Int32).toInt = 9 := by decide
  have e1 : zp_tw T n 5 A = zp_adv T n A := by
    unfold zp_tw
    rw [if_pos hf, if_pos hi]
  obtain ⟨K1, q1, g1, f1⟩ := zp_twX (J := J) 5 (by decide) hn hW h
  have W1 := zp_W_tw (T := T) (n := n) 5 hW
  rw [e1] at g1 W1
  have hf1 : (zp_adv T n A).2.2.2.1 = 0 := hf
  have l6 : I 2 5 < 6 := by
    rw [h5, ze_lt, zp_o (by omega), show (6 : Int32).toInt = 6 by decide]
    omega
  have b1 := zp_W_b W1
  obtain ⟨x, q2, g2⟩ := zp_isX (J := J) 6 (by decide) g1 hn b1.2.1 b1.1 b1.2.2.1
  rw [zf_X8_readSeat_TB, zq_X8_readSeat_TB_0, if_pos l6, zc_X8_readSeat_TB_17 _ _ _ q1, zc_X8_readSeat_TB_23 _ _ _ q2, zq_X8_readSeat_TB_29, h5]
  have fin : ∀ (K : Nat → Nat → Int32) (v : Int32), zp_fr I K → zv_X8_readSeat_TB_66 (zm_w K 3 S v) J (Int32.ofNat S) = some (none, (zm_w (zm_w K 3 S v) 2 5 (Int32.ofNat (S + 1)), J)) := fun K v hK => by
    rw [zq_X8_readSeat_TB_66, ze_wo (by decide), hK 2 5 (by decide), h5, zp_o1 (by omega)]
  rcases g2 with ⟨rfl, i6⟩ | ⟨rfl, i6⟩
  · obtain ⟨r, K2, q3, v3, g3, f3⟩ := zp_taX (J := J) 6 (by decide) hn W1 g1 0 9
    have e2 : zp_ta T n 6 (0 : Int32).toInt (9 : Int32).toInt (zp_adv T n A) = zp_nu T n 0 9 (zp_adv T n (zp_adv T n A)) := by
      unfold zp_ta zp_tw
      rw [if_pos hf1, if_pos i6, c0, c9]
    rw [e2] at v3 g3
    rw [if_neg (by decide), zc_X8_readSeat_TB_32 _ _ _ q3, zq_X8_readSeat_TB_46, if_neg (zp_in (by omega) (by omega)), zp_cl (by omega), fin K2 (-r) (zp_frt f1 f3)]
    exact ⟨-r, K2, rfl, zp_frt f1 f3, Or.inl ⟨i6, g3, by rw [Int32.neg_neg]; exact v3⟩⟩
  · obtain ⟨r, K2, q3, v3, g3, f3⟩ := zp_taX (J := J) 7 (by decide) hn W1 g1 0 9
    rw [c0, c9] at v3 g3
    rw [if_pos rfl, zc_X8_readSeat_TB_51 _ _ _ q3, zq_X8_readSeat_TB_65, if_neg (zp_in (by omega) (by omega)), zp_cl (by omega), fin K2 r (zp_frt f1 f3)]
    exact ⟨r, K2, rfl, zp_frt f1 f3, Or.inr ⟨i6, g3, v3⟩⟩
/-- the same: the reference, behind the first word -/
theorem zp_seatM (hn : n ≤ 800) (hW : zpW T n A) (h : zpM T n A I J) (hf : A.2.2.2.1 = 0) (hS : S < 6) (h5 : I 7 32 = Int32.ofNat S) : ∃ (v : Int32) (N : Nat → Nat → Int32) (P : Nat → Nat → Int64), zF_X10_seatLine zW_M [.ref 0] (I, J) = some (none, (zm_w (zm_w N 8 (24 + S) v) 7 32 (Int32.ofNat (S + 1)), P)) ∧ zp_fr I N ∧ ((zp_is T A.1 A.2.1 A.2.2.1 6 ∧ zpM T n (zp_nu T n 0 9 (zp_adv T n A)).1 N P ∧ ((zp_nu T n 0 9 (zp_adv T n A)).1.2.2.2.1 = 0 → (-v).toInt = (zp_nu T n 0 9 (zp_adv T n A)).2)) ∨ (¬ zp_is T A.1 A.2.1 A.2.2.1 6 ∧ zpM T n (zp_ta T n 7 0 9 A).1 N P ∧ ((zp_ta T n 7 0 9 A).1.2.2.2.1 = 0 → v.toInt = (zp_ta T n 7 0 9 A).2))) := by
  have c0 : (0 : Int32).toInt = 0 := by decide
  have c9 : (9 : Int32).toInt = 9 := by decide
  have c24 : (24 : Int32) + Int32.ofNat S = Int32.ofNat (24 + S) := by
    rw [show (24 : Int32) = Int32.ofNat 24 from rfl]
    exact zh_ofadd (zp_o (by omega)) (by omega)
  obtain ⟨x, K1, P1, q1, g1, f1, -⟩ := zp_tkM (J := J) zp_wd6 hn hW h
  have fin : ∀ (K : Nat → Nat → Int32) (P : Nat → Nat → Int64) (l r v : Int32), zp_fr I K → (∀ y : Int32, zv_X10_seatLine_M_38 K P l r y 24 = zv_X10_seatLine_M_49 K P l r v (24 + y)) → zv_X10_seatLine_M_26 K P l r = some (none, (zm_w (zm_w K 8 (24 + S) v) 7 32 (Int32.ofNat (S + 1)), P)) := by
    intro K P l r v hK hv
    have k5 : K 7 (28 + 4) = Int32.ofNat S := (hK 7 32 (by decide)).trans h5
    have hr := zp_readM (I := K) (J := P) (q := 4) (by decide)
    rw [k5] at hr
    have k6 : zm_w K 8 (24 + S) v 7 (28 + 4) = Int32.ofNat S := by rw [ze_wo (by decide)]; exact k5
    have hr2 := zp_readM (I := zm_w K 8 (24 + S) v) (J := P) (q := 4) (by decide)
    rw [k6] at hr2
    rw [zc_X10_seatLine_M_26 _ _ _ _ hr, hv, zq_X10_seatLine_M_49, c24, if_neg (zp_in (by omega) (by omega)), zp_cl (by omega), zc_X10_seatLine_M_50 _ _ _ _ hr2, zc_X10_seatLine_M_57 _ _ _ _ _ _ (zp_tellL (q := 4) (x := 4) rfl (by decide) _), zp_o1 (by omega), zq_X10_seatLine_M_62]
  rw [zf_X10_seatLine_M, zc_X10_seatLine_M_0 _ _ q1, zq_X10_seatLine_M_7]
  rcases g1 with ⟨rfl, -, i6, g1⟩ | ⟨rfl, i6, g1⟩
  · obtain ⟨r, K2, P2, q2, v2, g2, f2, -⟩ := zp_nuM 0 9 (by decide) hn (zp_W_adv (zp_W_b hW).2.1 hW.2.2.2) g1
    rw [c0, c9] at v2 g2
    rw [if_neg (by decide), zc_X10_seatLine_M_19 _ _ _ q2, fin K2 P2 1 r (-r) (zp_frt f1 f2) (fun y => by rw [zq_X10_seatLine_M_38, if_neg (by decide), zq_X10_seatLine_M_43])]
    exact ⟨-r, K2, P2, rfl, zp_frt f1 f2, Or.inl ⟨i6, g2, fun z => by rw [Int32.neg_neg]; exact v2 z⟩⟩
  · obtain ⟨K2, P2, q2, g2, f2, -⟩ := zp_asM zp_wd7 hn hW g1
    obtain ⟨r, K3, P3, q3, v3, g3, f3, -⟩ := zp_nuM 0 9 (by decide) hn (zp_W_tw 7 hW) g2
    rw [c0, c9] at v3 g3
    rw [if_pos rfl, zc_X10_seatLine_M_12 _ _ _ q2, zc_X10_seatLine_M_19 _ _ _ q3, fin K3 P3 0 r r (zp_frt f1 (zp_frt f2 f3)) (fun y => by rw [zq_X10_seatLine_M_38, if_pos rfl, zq_X10_seatLine_M_48])]
    exact ⟨r, K3, P3, rfl, zp_frt f1 (zp_frt f2 f3), Or.inr ⟨fun z => i6 ⟨hf, z⟩, g3, v3⟩⟩
/-- a caller's line, on both sides -/
theorem zp_call (hn : n ≤ 800) (hW : zpW T n A) (h : zpXA T n A I) (h' : zpM T n (zp_adv T n A) I' J') (hf : A.2.2.2.1 = 0) (hi : zp_is T A.1 A.2.1 A.2.2.1 8) (hC : C < 5) (hB : zpB S C L I I') : ∃ (B : zpA) (N N' : Nat → Nat → Int32) (P' : Nat → Nat → Int64), zF_X8_readCaller zW_TB [.ref 0, .ref 2] (I, J) = some (none, (N, J)) ∧ zF_X10_callerLine zW_M [.ref 0] (I', J') = some (none, (N', P')) ∧ zpXA T n B N ∧ zpM T n B N' P' ∧ zpW T n B ∧ A.2.1 ≤ B.2.1 ∧ N 2 0 = Int32.ofNat L ∧ N' 6 4 = Int32.ofNat L ∧ zp_fk I' N' ∧ (B.2.2.2.1 = 0 → zpB S (C + 1) L N N') := by
  obtain ⟨⟨a1, a2⟩, ⟨b1, b2, b3⟩, ⟨c1, c2, c3⟩, d, ⟨e1, e2, e3, e4⟩, fS, gC⟩ := hB
  have c0 : (0 : Int32).toInt = 0 := by decide
  have et : zp_tw T n 8 A = zp_adv T n A := by
    unfold zp_tw
    rw [if_pos hf, if_pos hi]
  have hS1 : (Int32.ofNat S - 1).toInt = S - 1 := by rw [zh_sub (by rw [zp_o (by omega), ze_i1]; omega) (by rw [zp_o (by omega), ze_i1]; omega), zp_o (by omega), ze_i1]
  have l6 : I 2 6 < 5 := by
    rw [c1, ze_lt, zp_o (by omega), show (5 : Int32).toInt = 5 by decide]
    omega
  have ek : (5 : Int32) * ((20 : Int32) + Int32.ofNat C) = Int32.ofNat (100 + 5 * C) := by
    have c5 : (5 : Int32).toInt = 5 := by decide
    have e20 : (20 : Int32) + Int32.ofNat C = Int32.ofNat (20 + C) := by
      rw [show (20 : Int32) = Int32.ofNat 20 from rfl]
      exact zh_ofadd (zp_o (by omega)) (by omega)
    rw [e20]
    apply Int32.toInt_inj.mp
    rw [zh_mul (by rw [c5, zp_o (by omega)]; omega) (by rw [c5, zp_o (by omega)]; omega), c5, zp_o (by omega), zp_o (by omega)]
    omega
  have ea : ∀ q : Nat, q ≤ 4 → Int32.ofNat (100 + 5 * C) + Int32.ofNat q = Int32.ofNat (100 + 5 * C + q) := fun q hq => zh_ofadd (zp_o (by omega)) (by omega)
  obtain ⟨K1, q1, g1, f1⟩ := zp_twX (J := J) 8 (by decide) hn hW h
  have W1 := zp_W_tw (T := T) (n := n) 8 hW
  have s1 := zp_s_tw (T := T) (n := n) 8 hW
  rw [et] at g1 W1 s1
  generalize hA1 : zp_adv T n A = A1 at g1 h' W1 s1
  obtain ⟨r2, K2, q2, v2, g2, f2⟩ := zp_taX (J := J) 9 (by decide) hn W1 g1 0 99
  obtain ⟨r2', K2', P2, q2', v2', g2', f2', -⟩ := zp_taM zp_wd9 0 99 (by decide) hn W1 h'
  have s2 := zp_s_ta (T := T) (n := n) 9 (0 : Int32).toInt (99 : Int32).toInt W1
  have W2 := zp_W_ta (T := T) (n := n) 9 (0 : Int32).toInt (99 : Int32).toInt W1
  generalize hA2 : zp_ta T n 9 (0 : Int32).toInt (99 : Int32).toInt A1 = A2 at v2 g2 v2' g2' s2 W2
  have g2 := zpXA_w (a := 4) (b := C) g2 (by decide) r2
  have g2' := zpM_w (a := 9) (b := 100 + 5 * C) g2' (by decide) r2'
  obtain ⟨r3, K3, q3, v3, g3, f3⟩ := zp_taX (J := J) 10 (by decide) hn W2 g2 0 30
  obtain ⟨r3', K3', P3, q3', v3', g3', f3', -⟩ := zp_taM zp_wd10 0 30 (by decide) hn W2 g2'
  have s3 := zp_s_ta (T := T) (n := n) 10 (0 : Int32).toInt (30 : Int32).toInt W2
  have W3 := zp_W_ta (T := T) (n := n) 10 (0 : Int32).toInt (30 : Int32).toInt W2
  generalize hA3 : zp_ta T n 10 (0 : Int32).toInt (30 : Int32).toInt A2.1 = A3 at v3 g3 v3' g3' s3 W3
  have g3 := zpXA_w (a := 5) (b := C) g3 (by decide) r3
  have g3' := zpM_w (a := 9) (b := 100 + 5 * C + 1) g3' (by decide) r3'
  obtain ⟨r4, K4, q4, v4, g4, f4⟩ := zp_taX (J := J) 5 (by decide) hn W3 g3 0 (Int32.ofNat S - 1)
  obtain ⟨r4', K4', P4, q4', v4', g4', f4', -⟩ := zp_taM zp_wd5 0 (Int32.ofNat S - 1) (by rw [hS1]; omega) hn W3 g3'
  have s4 := zp_s_ta (T := T) (n := n) 5 (0 : Int32).toInt (Int32.ofNat S - 1).toInt W3
  have W4 := zp_W_ta (T := T) (n := n) 5 (0 : Int32).toInt (Int32.ofNat S - 1).toInt W3
  generalize hA4 : zp_ta T n 5 (0 : Int32).toInt (Int32.ofNat S - 1).toInt A3.1 = A4 at v4 g4 v4' g4' s4 W4
  have g4 := zpXA_w (a := 6) (b := C) g4 (by decide) r4
  have g4' := zpM_w (a := 9) (b := 100 + 5 * C + 2) g4' (by decide) r4'
  obtain ⟨r5, K5, q5, v5, g5, f5⟩ := zp_taX (J := J) 11 (by decide) hn W4 g4 0 99
  obtain ⟨r5', K5', P5, q5', v5', g5', f5', -⟩ := zp_taM zp_wd11 0 99 (by decide) hn W4 g4'
  have s5 := zp_s_ta (T := T) (n := n) 11 (0 : Int32).toInt (99 : Int32).toInt W4
  have W5 := zp_W_ta (T := T) (n := n) 11 (0 : Int32).toInt (99 : Int32).toInt W4
  generalize hA5 : zp_ta T n 11 (0 : Int32).toInt (99 : Int32).toInt A4.1 = A5 at v5 g5 v5' g5' s5 W5
  have g5 := zpXA_w (a := 7) (b := C) g5 (by decide) r5
  have g5' := zpM_w (a := 9) (b := 100 + 5 * C + 3) g5' (by decide) r5'
  obtain ⟨r6, K6, q6, v6, g6, f6⟩ := zp_taX (J := J) 12 (by decide) hn W5 g5 r5 99
  obtain ⟨r6', K6', P6, q6', v6', g6', f6', -⟩ := zp_taM zp_wd12 r5' 99 (by decide) hn W5 g5'
  have e56 : zp_ta T n 12 r5'.toInt (99 : Int32).toInt A5.1 = zp_ta T n 12 r5.toInt (99 : Int32).toInt A5.1 := by
    by_cases z : A5.1.2.2.2.1 = 0
    · rw [v5' z, v5]
    · rw [zp_n_ta z, zp_n_ta z]
  rw [e56] at v6' g6'
  have s6 := zp_s_ta (T := T) (n := n) 12 r5.toInt (99 : Int32).toInt W5
  have W6 := zp_W_ta (T := T) (n := n) 12 r5.toInt (99 : Int32).toInt W5
  generalize hA6 : zp_ta T n 12 r5.toInt (99 : Int32).toInt A5.1 = A6 at v6 g6 v6' g6' s6 W6
  have x5 : ∀ a b, a ≠ 0 → a ≠ 4 → a ≠ 5 → zm_w K3 5 C r3 a b = I a b := fun a b h0 h4 h5 => by rw [ze_wo h5, f3 a b h0, ze_wo h4, f2 a b h0, f1 a b h0]
  have x6 : K6 2 6 = Int32.ofNat C := by rw [f6 _ _ (by decide), ze_wo (by decide), f5 _ _ (by decide), ze_wo (by decide), f4 _ _ (by decide), x5 _ _ (by decide) (by decide) (by decide)]; exact c1
  have y1 : ∀ a b, a ≠ 0 → a ≠ 9 → zm_w K3' 9 (100 + 5 * C + 1) r3' a b = I' a b := fun a b h0 h9 => by rw [ze_wo h9, f3' a b h0, ze_wo h9, f2' a b h0]
  have y6 : ∀ a b, a ≠ 0 → a ≠ 9 → zm_w K6' 9 (100 + 5 * C + 4) r6' a b = I' a b := fun a b h0 h9 => by rw [ze_wo h9, f6' a b h0, ze_wo h9, f5' a b h0, ze_wo h9, f4' a b h0, y1 a b h0 h9]
  refine ⟨A6.1, zm_w (zm_w K6 8 C r6) 2 6 (Int32.ofNat (C + 1)), zm_w (zm_w K6' 9 (100 + 5 * C + 4) r6') 7 33 (Int32.ofNat (C + 1)), P6, ?_, ?_, zpXA_w (zpXA_w g6 (by decide) _) (by decide) _, zpM_w (zpM_w g6' (by decide) _) (by decide) _, W6, by omega, ?_, ?_, ?_, ?_⟩
  · have i5 : zm_w K3 5 C r3 2 5 = Int32.ofNat S := by rw [x5 _ _ (by decide) (by decide) (by decide)]; exact b1
    have q4 := q4
    rw [← i5] at q4
    rw [zf_X8_readCaller_TB, zq_X8_readCaller_TB_0, if_pos l6, c1, zc_X8_readCaller_TB_16 _ _ _ q1, zc_X8_readCaller_TB_22 _ _ _ q2, zq_X8_readCaller_TB_36, if_neg (zp_in (by omega) (by omega)), zp_cl (by omega), zc_X8_readCaller_TB_37 _ _ _ q3, zq_X8_readCaller_TB_51, if_neg (zp_in (by omega) (by omega)), zp_cl (by omega), zc_X8_readCaller_TB_52 _ _ _ q4, zq_X8_readCaller_TB_70, if_neg (zp_in (by omega) (by omega)), zp_cl (by omega), zc_X8_readCaller_TB_71 _ _ _ q5, zq_X8_readCaller_TB_85, if_neg (zp_in (by omega) (by omega)), if_neg (zp_in (by omega) (by omega)), zp_cl (by omega), ze_wi, zc_X8_readCaller_TB_100 _ _ _ _ _ q6, zq_X8_readCaller_TB_105, if_neg (zp_in (by omega) (by omega)), zp_cl (by omega), ze_wo (show (2 : Nat) ≠ 8 by decide), x6, zp_o1 (by omega)]
  · have hr0 := zp_readM (I := I') (J := J') (q := 5) (by decide)
    rw [show (28 + 5 : Nat) = 33 from rfl, c2] at hr0
    have hr1 := zp_readM (I := zm_w K3' 9 (100 + 5 * C + 1) r3') (J := P3) (q := 4) (by decide)
    rw [y1 7 (28 + 4) (by decide) (by decide), show (28 + 4 : Nat) = 32 from rfl, b2] at hr1
    have hr2 := zp_readM (I := zm_w K6' 9 (100 + 5 * C + 4) r6') (J := P6) (q := 5) (by decide)
    rw [y6 7 (28 + 5) (by decide) (by decide), show (28 + 5 : Nat) = 33 from rfl, c2] at hr2
    have o1 := ea 1 (by decide)
    have o2 := ea 2 (by decide)
    have o3 := ea 3 (by decide)
    have o4 := ea 4 (by decide)
    rw [zf_X10_callerLine_M, zc_X10_callerLine_M_0 _ _ hr0, zc_X10_callerLine_M_8 _ _ _ _ _ q2', ek, zq_X10_callerLine_M_26, if_neg (zp_in (by omega) (by omega)), zp_cl (by omega), zc_X10_callerLine_M_27 _ _ _ q3', show Int32.ofNat (100 + 5 * C) + 1 = Int32.ofNat (100 + 5 * C + 1) from o1, zq_X10_callerLine_M_44, if_neg (zp_in (by omega) (by omega)), zp_cl (by omega), zc_X10_callerLine_M_45 _ _ _ hr1, zc_X10_callerLine_M_62 _ _ _ _ _ _ _ q4', show Int32.ofNat (100 + 5 * C) + 2 = Int32.ofNat (100 + 5 * C + 2) from o2, zq_X10_callerLine_M_67, if_neg (zp_in (by omega) (by omega)), zp_cl (by omega), zc_X10_callerLine_M_68 _ _ _ q5', show Int32.ofNat (100 + 5 * C) + 3 = Int32.ofNat (100 + 5 * C + 3) from o3, zq_X10_callerLine_M_85, show Int32.ofNat (100 + 5 * C) + 3 = Int32.ofNat (100 + 5 * C + 3) from o3, if_neg (zp_in (by omega) (by omega)), if_neg (zp_in (by omega) (by omega)), zp_cl (by omega), ze_wi, zc_X10_callerLine_M_105 _ _ _ _ _ _ q6', show Int32.ofNat (100 + 5 * C) + 4 = Int32.ofNat (100 + 5 * C + 4) from o4, zq_X10_callerLine_M_110, if_neg (zp_in (by omega) (by omega)), zp_cl (by omega), zc_X10_callerLine_M_111 _ _ _ hr2, zc_X10_callerLine_M_118 _ _ _ _ _ (zp_tellL (q := 5) (x := 5) rfl (by decide) _), zp_o1 (by omega), zq_X10_callerLine_M_123]
  · rw [ze_wj (by decide), ze_wo (by decide), f6 _ _ (by decide), ze_wo (by decide), f5 _ _ (by decide), ze_wo (by decide), f4 _ _ (by decide), x5 _ _ (by decide) (by decide) (by decide)]
    exact a1
  · rw [ze_wo (by decide), y6 _ _ (by decide) (by decide)]
    exact a2
  · intro a b hab
    have h0 : a ≠ 0 := by omega
    have w : ∀ (Q : Nat → Nat → Int32) (i : Nat) (x : Int32), 100 ≤ i → zm_w Q 9 i x a b = Q a b := fun Q i x hi => by
      unfold zm_w
      rw [if_neg (by omega)]
    have w7 : ∀ (Q : Nat → Nat → Int32) (x : Int32), zm_w Q 7 33 x a b = Q a b := fun Q x => by
      unfold zm_w
      rw [if_neg (by omega)]
    rw [w7, w _ _ _ (by omega), f6' _ _ h0, w _ _ _ (by omega), f5' _ _ h0, w _ _ _ (by omega), f4' _ _ h0, w _ _ _ (by omega), f3' _ _ h0, w _ _ _ (by omega), f2' _ _ h0]
  · intro z6
    have z5 : A5.1.2.2.2.1 = 0 := zp_f_ta (T := T) (n := n) (w := 12) (lo := r5.toInt) (hi := (99 : Int32).toInt) (by rw [hA6]; exact z6)
    have z4 : A4.1.2.2.2.1 = 0 := zp_f_ta (T := T) (n := n) (w := 11) (lo := (0 : Int32).toInt) (hi := (99 : Int32).toInt) (by rw [hA5]; exact z5)
    have z3 : A3.1.2.2.2.1 = 0 := zp_f_ta (T := T) (n := n) (w := 5) (lo := (0 : Int32).toInt) (hi := (Int32.ofNat S - 1).toInt) (by rw [hA4]; exact z4)
    have z2 : A2.1.2.2.2.1 = 0 := zp_f_ta (T := T) (n := n) (w := 10) (lo := (0 : Int32).toInt) (hi := (30 : Int32).toInt) (by rw [hA3]; exact z3)
    have u6 : r6 = r6' := Int32.toInt_inj.mp (v6.trans (v6' z6).symm)
    have u5 : r5 = r5' := Int32.toInt_inj.mp (v5.trans (v5' z5).symm)
    have u4 : r4 = r4' := Int32.toInt_inj.mp (v4.trans (v4' z4).symm)
    have u3 : r3 = r3' := Int32.toInt_inj.mp (v3.trans (v3' z3).symm)
    have u2 : r2 = r2' := Int32.toInt_inj.mp (v2.trans (v2' z2).symm)
    have fX : ∀ a b, a ≠ 0 → a ≠ 4 → a ≠ 5 → a ≠ 6 → a ≠ 7 → a ≠ 8 → zm_w K6 8 C r6 a b = I a b := fun a b h0 h4 h5 h6 h7 h8 => by rw [ze_wo h8, f6 a b h0, ze_wo h7, f5 a b h0, ze_wo h6, f4 a b h0, x5 a b h0 h4 h5]
    refine ⟨⟨?_, ?_⟩, ⟨?_, ?_, b3⟩, ⟨ze_wi, ze_wi, by omega⟩, ?_, ⟨?_, ?_, ?_, ?_⟩, ?_, ?_⟩
    · rw [ze_wj (by decide), fX _ _ (by decide) (by decide) (by decide) (by decide) (by decide) (by decide)]; exact a1
    · rw [ze_wo (by decide), y6 _ _ (by decide) (by decide)]; exact a2
    · rw [ze_wj (by decide), fX _ _ (by decide) (by decide) (by decide) (by decide) (by decide) (by decide)]; exact b1
    · rw [ze_wj (by decide), y6 _ _ (by decide) (by decide)]; exact b2
    · rw [ze_wj (by decide), fX _ _ (by decide) (by decide) (by decide) (by decide) (by decide) (by decide), ze_wj (by decide), y6 _ _ (by decide) (by decide)]; exact d
    · rw [ze_wj (by decide), fX _ _ (by decide) (by decide) (by decide) (by decide) (by decide) (by decide), ze_wj (by decide), y6 _ _ (by decide) (by decide)]; exact e1
    · rw [ze_wj (by decide), fX _ _ (by decide) (by decide) (by decide) (by decide) (by decide) (by decide), ze_wj (by decide), y6 _ _ (by decide) (by decide)]; exact e2
    · rw [ze_wj (by decide), fX _ _ (by decide) (by decide) (by decide) (by decide) (by decide) (by decide), ze_wj (by decide), y6 _ _ (by decide) (by decide)]; exact e3
    · rw [ze_wj (by decide), fX _ _ (by decide) (by decide) (by decide) (by decide) (by decide) (by decide), ze_wj (by decide), y6 _ _ (by decide) (by decide)]; exact e4
    · intro s hs
      rw [ze_wo (by decide), fX _ _ (by decide) (by decide) (by decide) (by decide) (by decide) (by decide), ze_wo (by decide), y6 _ _ (by decide) (by decide)]; exact fS s hs
    · intro c hc
      by_cases e : c = C
      · subst e
        have s4z : zm_w (zm_w K6 8 c r6) 2 6 (Int32.ofNat (c + 1)) 6 c = r4 := by rw [ze_wo (by decide), ze_wo (by decide), f6 _ _ (by decide), ze_wo (by decide), f5 _ _ (by decide), ze_wi]
        have r4b : (0 : Int32).toInt ≤ A4.2 ∧ A4.2 ≤ (Int32.ofNat S - 1).toInt := by
          have := zp_r_ta (T := T) (n := n) (w := 5) (lo := (0 : Int32).toInt) (hi := (Int32.ofNat S - 1).toInt) (A := A3.1) (by rw [hA4]; exact z4)
          rw [hA4] at this
          exact this
        refine ⟨⟨?_, ?_, ?_, ?_, ?_⟩, by rw [s4z]; omega, by rw [s4z]; omega⟩
        · rw [ze_wo (by decide), ze_wo (by decide), f6 _ _ (by decide), ze_wo (by decide), f5 _ _ (by decide), ze_wo (by decide), f4 _ _ (by decide), ze_wo (by decide), f3 _ _ (by decide), ze_wi, ze_wo (by decide), ze_wj (by omega), f6' _ _ (by decide), ze_wj (by omega), f5' _ _ (by decide), ze_wj (by omega), f4' _ _ (by decide), ze_wj (by omega), f3' _ _ (by decide), ze_wi]; exact u2
        · rw [ze_wo (by decide), ze_wo (by decide), f6 _ _ (by decide), ze_wo (by decide), f5 _ _ (by decide), ze_wo (by decide), f4 _ _ (by decide), ze_wi, ze_wo (by decide), ze_wj (by omega), f6' _ _ (by decide), ze_wj (by omega), f5' _ _ (by decide), ze_wj (by omega), f4' _ _ (by decide), ze_wi]; exact u3
        · rw [ze_wo (by decide), ze_wo (by decide), f6 _ _ (by decide), ze_wo (by decide), f5 _ _ (by decide), ze_wi, ze_wo (by decide), ze_wj (by omega), f6' _ _ (by decide), ze_wj (by omega), f5' _ _ (by decide), ze_wi]; exact u4
        · rw [ze_wo (by decide), ze_wo (by decide), f6 _ _ (by decide), ze_wi, ze_wo (by decide), ze_wj (by omega), f6' _ _ (by decide), ze_wi]; exact u5
        · rw [ze_wo (by decide), ze_wi, ze_wo (by decide), ze_wi]; exact u6
      · have hg := gC c (by omega)
        have xo : ∀ a, 4 ≤ a → a ≤ 8 → zm_w (zm_w K6 8 C r6) 2 6 (Int32.ofNat (C + 1)) a c = I a c := by
          intro a h4 h8
          have w : ∀ (Q : Nat → Nat → Int32) (m : Nat) (x : Int32), zm_w Q m C x a c = Q a c := fun Q m x => ze_wj e
          rw [ze_wo (by omega), w, f6 _ _ (by omega), w, f5 _ _ (by omega), w, f4 _ _ (by omega), w, f3 _ _ (by omega), w, f2 _ _ (by omega), f1 _ _ (by omega)]
        have yo : ∀ i, i < 100 + 5 * C → zm_w (zm_w K6' 9 (100 + 5 * C + 4) r6') 7 33 (Int32.ofNat (C + 1)) 9 i = I' 9 i := fun i hi => by rw [ze_wo (by decide), ze_wj (by omega), f6' _ _ (by decide), ze_wj (by omega), f5' _ _ (by decide), ze_wj (by omega), f4' _ _ (by decide), ze_wj (by omega), f3' _ _ (by decide), ze_wj (by omega), f2' _ _ (by decide)]
        rw [xo 4 (by decide) (by decide), xo 5 (by decide) (by decide), xo 6 (by decide) (by decide), xo 7 (by decide) (by decide), xo 8 (by decide) (by decide), yo _ (by omega), yo _ (by omega), yo _ (by omega), yo _ (by omega), yo _ (by omega)]
        exact hg
end ZPG
