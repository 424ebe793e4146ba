/-! LINES OF A BENCH, on both sides at once -/
def zpB (S C L : Nat) (I I' : Nat → Nat → Int32) : Prop := (I 2 0 = Int32.ofNat L ∧ I' 6 4 = Int32.ofNat L) ∧ (I 2 5 = Int32.ofNat S ∧ I' 7 32 = Int32.ofNat S ∧ S ≤ 6) ∧ (I 2 6 = Int32.ofNat C ∧ I' 7 33 = Int32.ofNat C ∧ C ≤ 5) ∧ (I 2 7 = 0 ∧ I' 7 34 = 0) ∧ (I 2 1 = I' 7 28 ∧ I 2 2 = I' 7 29 ∧ I 2 3 = I' 7 30 ∧ I 2 4 = I' 7 31) ∧ (∀ s, s < S → I 3 s = I' 8 (24 + s)) ∧ (∀ c, c < C → (I 4 c = I' 9 (100 + 5 * c) ∧ I 5 c = I' 9 (100 + 5 * c + 1) ∧ I 6 c = I' 9 (100 + 5 * c + 2) ∧ I 7 c = I' 9 (100 + 5 * c + 3) ∧ I 8 c = I' 9 (100 + 5 * c + 4)) ∧ 0 ≤ (I 6 c).toInt ∧ (I 6 c).toInt < S)
/-- what lies outside the reference's slot 4 -/
def zp_fk (I N : Nat → Nat → Int32) : Prop := ∀ a b, ((a = 6 ∧ b < 4) ∨ (a = 7 ∧ b < 28) ∨ (a = 8 ∧ b < 24) ∨ (a = 9 ∧ b < 100) ∨ a = 10) → N a b = I a b
theorem zp_fkf {I N : Nat → Nat → Int32} (h : zp_fr I N) : zp_fk I N := fun a b hab => h a b (by omega)
theorem zp_fkt {I K N : Nat → Nat → Int32} (h : zp_fk I K) (h2 : zp_fk K N) : zp_fk I N := fun a b hab => (h2 a b hab).trans (h a b hab)
section ZPF
variable {T : Nat → Int} {n S C L : Nat} {A : zpA} {I I' N N' : Nat → Nat → Int32} {J J' : Nat → Nat → Int64}
theorem zpB_fr (h : zpB S C L I I') (h1 : zp_fr I N) (h2 : zp_fr I' N') : zpB S C L N N' := by
  obtain ⟨⟨a1, a2⟩, ⟨b1, b2, b3⟩, ⟨c1, c2, c3⟩, d, ⟨e1, e2, e3, e4⟩, f, g⟩ := h
  refine ⟨⟨?_, ?_⟩, ⟨?_, ?_, b3⟩, ⟨?_, ?_, c3⟩, ?_, ⟨?_, ?_, ?_, ?_⟩, ?_, ?_⟩
  · rw [h1 _ _ (by decide)]; exact a1
  · rw [h2 _ _ (by decide)]; exact a2
  · rw [h1 _ _ (by decide)]; exact b1
  · rw [h2 _ _ (by decide)]; exact b2
  · rw [h1 _ _ (by decide)]; exact c1
  · rw [h2 _ _ (by decide)]; exact c2
  · rw [h1 _ _ (by decide), h2 _ _ (by decide)]; exact d
  · rw [h1 _ _ (by decide), h2 _ _ (by decide)]; exact e1
  · rw [h1 _ _ (by decide), h2 _ _ (by decide)]; exact e2
  · rw [h1 _ _ (by decide), h2 _ _ (by decide)]; exact e3
  · rw [h1 _ _ (by decide), h2 _ _ (by decide)]; exact e4
  · intro s hs
    rw [h1 _ _ (by decide), h2 _ _ (by decide)]; exact f s hs
  · intro c hc
    rw [h1 _ _ (by decide), h1 _ _ (by decide), h1 _ _ (by decide), h1 _ _ (by decide), h1 _ _ (by decide), h2 _ _ (by decide), h2 _ _ (by decide), h2 _ _ (by decide), h2 _ _ (by decide), h2 _ _ (by decide)]; exact g c hc
theorem zpXA_w (h : zpXA T n A I) {a b : Nat} (ha : 2 ≤ a) (x : Int32) : zpXA T n A (zm_w I a b x) := by
  obtain ⟨h1, hT, h4, h5, h6, h2, h3⟩ := h
  exact ⟨by rw [ze_wo (by omega)]; exact h1, fun i hi => by rw [ze_wo (by omega)]; exact hT i hi, by rw [ze_wo (by omega)]; exact h4, by rw [ze_wo (by omega)]; exact h5, by rw [ze_wo (by omega)]; exact h6, by rw [ze_wo (by omega)]; exact h2, by rw [ze_wo (by omega)]; exact h3⟩
theorem zpM_w (h : zpM T n A I J) {a b : Nat} (ha : 6 ≤ a) (x : Int32) : zpM T n A (zm_w I a b x) J := by
  obtain ⟨h1, hT, h4, h5, h6, h2, h3, h7, h8⟩ := h
  exact ⟨by rw [ze_wo (by omega)]; exact h1, fun i hi => by rw [ze_wo (by omega)]; exact hT i hi, by rw [ze_wo (by omega)]; exact h4, by rw [ze_wo (by omega)]; exact h5, by rw [ze_wo (by omega)]; exact h6, by rw [ze_wo (by omega)]; exact h2, by rw [ze_wo (by omega)]; exact h3, fun z => by rw [ze_wo (by omega)]; exact h7 z, h8⟩
theorem zp_tellM {q : Nat} (hq : q ≤ 6) (v : Int32) : zF_X10_tells zW_M [.ref 0, .int (Int32.ofNat q), .int v] (I, J) = some (none, (zm_w I 7 (28 + q) v, J)) := by
  have e : (28 : Int32) + Int32.ofNat q = Int32.ofNat (28 + q) := by
    rw [show (28 : Int32) = Int32.ofNat 28 from rfl]
    exact zh_ofadd (zp_o (by omega)) (by omega)
  rw [zf_X10_tells_M, zq_X10_tells_M_0, e, if_neg (zp_in (by omega) (by omega)), zp_cl (by omega)]
theorem zp_tellL {q : Nat} {x : Int32} (hx : x = Int32.ofNat q) (hq : q ≤ 6) (v : Int32) : zF_X10_tells zW_M [.ref 0, .int x, .int v] (I, J) = some (none, (zm_w I 7 (28 + q) v, J)) := by
  rw [hx]
  exact zp_tellM hq v
theorem zp_readM {q : Nat} (hq : q ≤ 6) : zF_X10_hasRead zW_M [.ref 0, .int (Int32.ofNat q)] (I, J) = some (some (.int (I 7 (28 + q))), (I, J)) := by
  have e : (28 : Int32) + Int32.ofNat q = Int32.ofNat (28 + q) := by
    rw [show (28 : Int32) = Int32.ofNat 28 from rfl]
    exact zh_ofadd (zp_o (by omega)) (by omega)
  rw [zf_X10_hasRead_M, zq_X10_hasRead_M_0, e, if_neg (zp_in (by omega) (by omega)), zp_cl (by omega)]
/-- the first line -/
theorem zp_first (hn : n ≤ 800) (hW : zpW T n A) (h : zpXA T n A I) (h' : zpM T n A I' J') (hB : zpB 0 0 0 I I') : ∃ (B : zpA) (N N' : Nat → Nat → Int32) (P' : Nat → Nat → Int64), zF_X8_readFirst zW_TB [.ref 0, .ref 2] (I, J) = some (none, (N, J)) ∧ zv_X10_bench_M_36 I' J' = zv_X10_bench_M_109 N' P' ∧ zpXA T n B N ∧ zpM T n B N' P' ∧ zpW T n B ∧ A.2.1 ≤ B.2.1 ∧ N 2 0 = Int32.ofNat 0 ∧ N' 6 4 = Int32.ofNat 0 ∧ zp_fk I' N' ∧ (B.2.2.2.1 = 0 → zpB 0 0 0 N N') := by
  have c0 : (0 : Int32).toInt = 0 := by decide
  obtain ⟨K1, q1, g1, f1⟩ := zp_twX (J := J) 0 (by decide) hn hW h
  obtain ⟨K1', P1, q1', g1', f1', -⟩ := zp_asM zp_wd0 hn hW h'
  have s1 := zp_s_tw (T := T) (n := n) 0 hW
  have W1 := zp_W_tw (T := T) (n := n) 0 hW
  generalize hA1 : zp_tw T n 0 A = A1 at g1 g1' s1 W1
  obtain ⟨r2, K2, q2, v2, g2, f2⟩ := zp_taX (J := J) 1 (by decide) hn W1 g1 0 3
  obtain ⟨r2', K2', P2, q2', v2', g2', f2', -⟩ := zp_taM zp_wd1 0 3 (by decide) hn W1 g1'
  have s2 := zp_s_ta (T := T) (n := n) 1 (0 : Int32).toInt (3 : Int32).toInt W1
  have W2 := zp_W_ta (T := T) (n := n) 1 (0 : Int32).toInt (3 : Int32).toInt W1
  generalize hA2 : zp_ta T n 1 (0 : Int32).toInt (3 : Int32).toInt A1 = A2 at v2 g2 v2' g2' s2 W2
  have g2 := zpXA_w (a := 2) (b := 1) g2 (by decide) r2
  have g2' := zpM_w (a := 7) (b := 28) g2' (by decide) r2'
  obtain ⟨r3, K3, q3, v3, g3, f3⟩ := zp_taX (J := J) 2 (by decide) hn W2 g2 0 99
  obtain ⟨r3', K3', P3, q3', v3', g3', f3', -⟩ := zp_taM zp_wd2 0 99 (by decide) hn W2 g2'
  have s3 := zp_s_ta (T := T) (n := n) 2 (0 : Int32).toInt (99 : Int32).toInt W2
  have W3 := zp_W_ta (T := T) (n := n) 2 (0 : Int32).toInt (99 : Int32).toInt W2
  generalize hA3 : zp_ta T n 2 (0 : Int32).toInt (99 : Int32).toInt A2.1 = A3 at v3 g3 v3' g3' s3 W3
  have g3 := zpXA_w (a := 2) (b := 2) g3 (by decide) r3
  have g3' := zpM_w (a := 7) (b := 29) g3' (by decide) r3'
  obtain ⟨r4, K4, q4, v4, g4, f4⟩ := zp_taX (J := J) 3 (by decide) hn W3 g3 1 30
  obtain ⟨r4', K4', P4, q4', v4', g4', f4', -⟩ := zp_taM zp_wd3 1 30 (by decide) hn W3 g3'
  have s4 := zp_s_ta (T := T) (n := n) 3 (1 : Int32).toInt (30 : Int32).toInt W3
  have W4 := zp_W_ta (T := T) (n := n) 3 (1 : Int32).toInt (30 : Int32).toInt W3
  generalize hA4 : zp_ta T n 3 (1 : Int32).toInt (30 : Int32).toInt A3.1 = A4 at v4 g4 v4' g4' s4 W4
  have g4 := zpXA_w (a := 2) (b := 3) g4 (by decide) r4
  have g4' := zpM_w (a := 7) (b := 30) g4' (by decide) r4'
  obtain ⟨r5, K5, q5, v5, g5, f5⟩ := zp_taX (J := J) 4 (by decide) hn W4 g4 0 10
  obtain ⟨r5', K5', P5, q5', v5', g5', f5', -⟩ := zp_taM zp_wd4 0 10 (by decide) hn W4 g4'
  have s5 := zp_s_ta (T := T) (n := n) 4 (0 : Int32).toInt (10 : Int32).toInt W4
  have W5 := zp_W_ta (T := T) (n := n) 4 (0 : Int32).toInt (10 : Int32).toInt W4
  generalize hA5 : zp_ta T n 4 (0 : Int32).toInt (10 : Int32).toInt A4.1 = A5 at v5 g5 v5' g5' s5 W5
  refine ⟨A5.1, zm_w K5 2 4 r5, zm_w K5' 7 31 r5', P5, ?_, ?_, zpXA_w g5 (by decide) r5, zpM_w g5' (by decide) r5', W5, by omega, ?_, ?_, ?_, ?_⟩
  · rw [zf_X8_readFirst_TB, zc_X8_readFirst_TB_0 _ _ q1, zc_X8_readFirst_TB_6 _ _ q2, zc_X8_readFirst_TB_15 _ _ _ q3, zc_X8_readFirst_TB_28 _ _ _ q4, zc_X8_readFirst_TB_41 _ _ _ q5, zq_X8_readFirst_TB_54]
  · rw [zc_X10_bench_M_36 _ _ q1', zc_X10_bench_M_43 _ _ q2', zc_X10_bench_M_54 _ _ _ _ (zp_tellL (q := 0) (x := 0) rfl (by decide) _), zc_X10_bench_M_57 _ _ q3', zc_X10_bench_M_69 _ _ _ _ (zp_tellL (q := 1) (x := 1) rfl (by decide) _), zc_X10_bench_M_72 _ _ q4', zc_X10_bench_M_84 _ _ _ _ (zp_tellL (q := 2) (x := 2) rfl (by decide) _), zc_X10_bench_M_87 _ _ q5', zc_X10_bench_M_99 _ _ _ _ (zp_tellL (q := 3) (x := 3) rfl (by decide) _), zq_X10_bench_M_102]
  · rw [ze_wj (by decide), f5 _ _ (by decide), ze_wj (by decide), f4 _ _ (by decide), ze_wj (by decide), f3 _ _ (by decide), ze_wj (by decide), f2 _ _ (by decide), f1 _ _ (by decide)]
    exact hB.1.1
  · rw [ze_wo (by decide), f5' _ _ (by decide), ze_wo (by decide), f4' _ _ (by decide), ze_wo (by decide), f3' _ _ (by decide), ze_wo (by decide), f2' _ _ (by decide), f1' _ _ (by decide)]
    exact hB.1.2
  · intro a b hab
    have w : ∀ (Q : Nat → Nat → Int32) (i : Nat) (x : Int32), 28 ≤ i → zm_w Q 7 i x a b = Q a b := fun Q i x hi => by
      unfold zm_w
      rw [if_neg (by omega)]
    have h0 : a ≠ 0 := by omega
    rw [w _ _ _ (by decide), f5' _ _ h0, w _ _ _ (by decide), f4' _ _ h0, w _ _ _ (by decide), f3' _ _ h0, w _ _ _ (by decide), f2' _ _ h0, f1' _ _ h0]
  · intro z5
    have z4 : A4.1.2.2.2.1 = 0 := zp_f_ta (T := T) (n := n) (w := 4) (lo := (0 : Int32).toInt) (hi := (10 : Int32).toInt) (by rw [hA5]; exact z5)
    have z3 : A3.1.2.2.2.1 = 0 := zp_f_ta (T := T) (n := n) (w := 3) (lo := (1 : Int32).toInt) (hi := (30 : Int32).toInt) (by rw [hA4]; exact z4)
    have z2 : A2.1.2.2.2.1 = 0 := zp_f_ta (T := T) (n := n) (w := 2) (lo := (0 : Int32).toInt) (hi := (99 : Int32).toInt) (by rw [hA3]; exact z3)
    have u5 : r5 = r5' := Int32.toInt_inj.mp (v5.trans (v5' z5).symm)
    have u4 : r4 = r4' := Int32.toInt_inj.mp (v4.trans (v4' z4).symm)
    have u3 : r3 = r3' := Int32.toInt_inj.mp (v3.trans (v3' z3).symm)
    have u2 : r2 = r2' := Int32.toInt_inj.mp (v2.trans (v2' z2).symm)
    subst u5 u4 u3 u2
    obtain ⟨⟨a1, a2⟩, ⟨b1, b2, b3⟩, ⟨c1, c2, c3⟩, d, -, -, -⟩ := hB
    have fX : ∀ b, b = 0 ∨ 5 ≤ b → zm_w K5 2 4 r5 2 b = I 2 b := fun b hb => by rw [ze_wj (by omega), f5 _ _ (by decide), ze_wj (by omega), f4 _ _ (by decide), ze_wj (by omega), f3 _ _ (by decide), ze_wj (by omega), f2 _ _ (by decide), f1 _ _ (by decide)]
    have fM : ∀ a b, a ≠ 0 → (a ≠ 7 ∨ 32 ≤ b) → zm_w K5' 7 31 r5 a b = I' a b := by
      intro a b h0 hb
      have w : ∀ (Q : Nat → Nat → Int32) (i : Nat) (x : Int32), i ≤ 31 → zm_w Q 7 i x a b = Q a b := fun Q i x hi => by
        unfold zm_w
        rw [if_neg (by omega)]
      rw [w _ _ _ (by decide), f5' _ _ h0, w _ _ _ (by decide), f4' _ _ h0, w _ _ _ (by decide), f3' _ _ h0, w _ _ _ (by decide), f2' _ _ h0, f1' _ _ h0]
    refine ⟨⟨?_, ?_⟩, ⟨?_, ?_, b3⟩, ⟨?_, ?_, c3⟩, ?_, ⟨?_, ?_, ?_, ?_⟩, fun s hs => absurd hs (Nat.not_lt_zero s), fun s hs => absurd hs (Nat.not_lt_zero s)⟩
    · rw [fX 0 (by decide)]; exact a1
    · rw [fM 6 4 (by decide) (by decide)]; exact a2
    · rw [fX 5 (by decide)]; exact b1
    · rw [fM 7 32 (by decide) (by decide)]; exact b2
    · rw [fX 6 (by decide)]; exact c1
    · rw [fM 7 33 (by decide) (by decide)]; exact c2
    · rw [fX 7 (by decide), fM 7 34 (by decide) (by decide)]; exact d
    · rw [ze_wj (by decide), f5 _ _ (by decide), ze_wj (by decide), f4 _ _ (by decide), ze_wj (by decide), f3 _ _ (by decide), ze_wi, ze_wj (by decide), f5' _ _ (by decide), ze_wj (by decide), f4' _ _ (by decide), ze_wj (by decide), f3' _ _ (by decide), ze_wi]
    · rw [ze_wj (by decide), f5 _ _ (by decide), ze_wj (by decide), f4 _ _ (by decide), ze_wi, ze_wj (by decide), f5' _ _ (by decide), ze_wj (by decide), f4' _ _ (by decide), ze_wi]
    · rw [ze_wj (by decide), f5 _ _ (by decide), ze_wi, ze_wj (by decide), f5' _ _ (by decide), ze_wi]
    · rw [ze_wi, ze_wi]
end ZPF
