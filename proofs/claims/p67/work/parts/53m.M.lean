/-! bench, on both sides: what it answers, what it leaves -/
/-- the class's bench at cells a .. and the reference's slot s say the same, but for wear and acts -/
def zqB (a s : Nat) (I I' : Nat → Nat → Int32) : Prop := I a 0 = I' 6 s ∧ I a 5 = I' 7 (7 * s + 4) ∧ I a 6 = I' 7 (7 * s + 5) ∧ (I a 1 = I' 7 (7 * s) ∧ I a 3 = I' 7 (7 * s + 2) ∧ I a 4 = I' 7 (7 * s + 3)) ∧ (∀ j : Nat, j < 6 → (j : Int) < (I a 5).toInt → I (a + 1) j = I' 8 (6 * s + j)) ∧ (∀ c : Nat, c < 5 → (c : Int) < (I a 6).toInt → I (a + 2) c = I' 9 (25 * s + 5 * c) ∧ I (a + 3) c = I' 9 (25 * s + 5 * c + 1) ∧ I (a + 4) c = I' 9 (25 * s + 5 * c + 2) ∧ I (a + 5) c = I' 9 (25 * s + 5 * c + 3) ∧ I (a + 6) c = I' 9 (25 * s + 5 * c + 4))
/-- all of it: wear, what acts stand, callers' seats too -/
def zqC (a s : Nat) (I I' : Nat → Nat → Int32) : Prop := zqB a s I I' ∧ (I a 2 = I' 7 (7 * s + 1) ∧ I a 7 = I' 7 (7 * s + 6) ∧ 0 ≤ (I a 7).toInt ∧ (I a 7).toInt ≤ 40) ∧ (∀ c : Nat, c < 5 → (c : Int) < (I a 6).toInt → 0 ≤ (I (a + 4) c).toInt ∧ (I (a + 4) c).toInt < (I a 5).toInt) ∧ (∀ k : Nat, k < 40 → (k : Int) < (I a 7).toInt → I (a + 7) k = I' 10 (120 * s + 3 * k) ∧ I (a + 8) k = I' 10 (120 * s + 3 * k + 1) ∧ I (a + 9) k = I' 10 (120 * s + 3 * k + 2))
section ZPM
variable {T : Nat → Int} {n : Nat} {I I' : Nat → Nat → Int32} {J J' : Nat → Nat → Int64}
theorem zp_ovM : zF_X10_isOver zW_M [.ref 0] (I, J) = some (none, (zm_w (zm_w (zm_w I 0 6 0) 0 14 (I 0 12)) 0 15 (if I 0 12 = 0 then -1 else I 0 13), J)) := by
  have e1 : zm_w I 0 6 0 0 12 = I 0 12 := ze_wj (by decide)
  have e2 : zm_w (zm_w I 0 6 0) 0 14 (I 0 12) 0 12 = I 0 12 := by rw [ze_wj (by decide), e1]
  have e3 : zm_w (zm_w I 0 6 0) 0 14 (I 0 12) 0 13 = I 0 13 := by rw [ze_wj (by decide), ze_wj (by decide)]
  rw [zf_X10_isOver_M, zq_X10_isOver_M_0, e1, e2]
  by_cases c : I 0 12 = 0
  · rw [if_pos c, if_pos c, zq_X10_isOver_M_21, zq_X10_isOver_M_29]
  · rw [if_neg c, if_neg c, zq_X10_isOver_M_25, zq_X10_isOver_M_29, e3]
theorem zp_benchR (hn0 : 0 ≤ (I 51 1).toInt ∧ (I 51 1).toInt ≤ 800) (hs : I 51 1 = I' 0 6) (hb : ∀ i : Nat, (i : Int) < (I 51 1).toInt → zp_sg (I' 5 i).toInt (I 52 i).toInt) {x y : Int32} {N1 N2 : zm_I} (hX : zF_X9_bench zW_X [.ref 0] (I, J) = some (some (.int x), N1)) (hM : zF_X10_bench zW_M [.ref 0] (I', J') = some (some (.int y), N2)) : x = y ∧ N1.1 51 1 = 0 ∧ N2.1 0 6 = 0 ∧ N1.1 51 2 = N2.1 0 14 ∧ N1.1 51 3 = N2.1 0 15 ∧ (zqC 1 0 N1.1 N2.1 ∨ ((∀ a, 1 ≤ a → a ≤ 10 → N1.1 a = I a) ∧ N2.1 6 0 = I' 6 0 ∧ (∀ b, b < 7 → N2.1 7 b = I' 7 b) ∧ (∀ b, b < 6 → N2.1 8 b = I' 8 b) ∧ (∀ b, b < 25 → N2.1 9 b = I' 9 b) ∧ ∀ b, b < 120 → N2.1 10 b = I' 10 b)) ∧ (∀ s, 1 ≤ s → s ≤ 3 → N2.1 6 s = I' 6 s ∧ (∀ b, b < 7 → N2.1 7 (7 * s + b) = I' 7 (7 * s + b)) ∧ (∀ b, b < 6 → N2.1 8 (6 * s + b) = I' 8 (6 * s + b)) ∧ (∀ b, b < 25 → N2.1 9 (25 * s + b) = I' 9 (25 * s + b)) ∧ ∀ b, b < 120 → N2.1 10 (120 * s + b) = I' 10 (120 * s + b)) := by
  obtain ⟨n, hn⟩ : ∃ n : Nat, (I 51 1).toInt = n := ⟨(I 51 1).toInt.toNat, by omega⟩
  have hnn : I 51 1 = Int32.ofNat n := Int32.toInt_inj.mp (by rw [hn, zp_o (by omega)])
  obtain ⟨B, N, N', P', q1, q2, k2, k3, k12, k13, kf, kB⟩ := zp_read (T := fun i => (I 52 i).toInt) (n := n) (I := (zm_sub2 [(51, 2), (11, 10)] (I, J)).1) (J := (zm_sub2 [(51, 2), (11, 10)] (I, J)).2) (I' := I') (J' := J') hnn (fun i _ => rfl) (hs ▸ hnn) (fun i hi => hb i (by omega)) (by omega)
  have hz : zF_X9_bench zW_X [.ref 0] (I, J) = _ := (zf_X9_bench_X I J).trans (zc_X9_bench_X_0 I J q1)
  rw [hX, zq_X9_bench_X_11] at hz
  have hy := q2
  rw [hM, zc_X10_bench_M_133 _ _ zp_ovM, zq_X10_bench_M_137, ze_wj (show (12 : Nat) ≠ 15 by decide), ze_wj (show (12 : Nat) ≠ 14 by decide), ze_wj (show (12 : Nat) ≠ 6 by decide), k12, k13] at hy
  have o1 : zm_w (zm_w (zm_w N' 0 6 0) 0 14 B.2.2.2.1) 0 15 (if B.2.2.2.1 = 0 then -1 else B.2.2.2.2) 0 6 = 0 := by rw [ze_wj (by decide), ze_wj (by decide), ze_wi]
  have o2 : zm_w (zm_w (zm_w N' 0 6 0) 0 14 B.2.2.2.1) 0 15 (if B.2.2.2.1 = 0 then -1 else B.2.2.2.2) 0 14 = B.2.2.2.1 := by rw [ze_wj (by decide), ze_wi]
  have o3 : zm_w (zm_w (zm_w N' 0 6 0) 0 14 B.2.2.2.1) 0 15 (if B.2.2.2.1 = 0 then -1 else B.2.2.2.2) 0 15 = (if B.2.2.2.1 = 0 then -1 else B.2.2.2.2) := ze_wi
  have oo : ∀ a b, a ≠ 0 → zm_w (zm_w (zm_w N' 0 6 0) 0 14 B.2.2.2.1) 0 15 (if B.2.2.2.1 = 0 then -1 else B.2.2.2.2) a b = N' a b := fun a b ha => by rw [ze_wo ha, ze_wo ha, ze_wo ha]
  generalize zm_w (zm_w (zm_w N' 0 6 0) 0 14 B.2.2.2.1) 0 15 (if B.2.2.2.1 = 0 then -1 else B.2.2.2.2) = W at hy o1 o2 o3 oo
  have s13 : ∀ s, s ≤ 3 → N' 6 s = I' 6 s ∧ (∀ b, b < 7 → N' 7 (7 * s + b) = I' 7 (7 * s + b)) ∧ (∀ b, b < 6 → N' 8 (6 * s + b) = I' 8 (6 * s + b)) ∧ (∀ b, b < 25 → N' 9 (25 * s + b) = I' 9 (25 * s + b)) := fun s hs => ⟨kf _ _ (by omega), fun b hb => kf _ _ (by omega), fun b hb => kf _ _ (by omega), fun b hb => kf _ _ (by omega)⟩
  have s10 : ∀ b, N' 10 b = I' 10 b := fun b => kf _ _ (by omega)
  by_cases c : B.2.2.2.1 = 0
  · obtain ⟨bp, S, C, L, zb⟩ := kB c
    obtain ⟨⟨a1, a2⟩, ⟨b1, b2, b3⟩, ⟨c1, c2, c3⟩, ⟨d1, d2⟩, ⟨e1, e2, e3, e4⟩, fS, gC⟩ := zb
    obtain ⟨D, f1, f2, f3, f4, -, -⟩ := zp_cfX (J := (zm_sub2 [(1, 10), (11, 10)] (zm_w (zm_mrg [(51, 2), (11, 10)] (I, J) (N, (zm_sub2 [(51, 2), (11, 10)] (I, J)).2)).1 51 1 0, (zm_mrg [(51, 2), (11, 10)] (I, J) (N, (zm_sub2 [(51, 2), (11, 10)] (I, J)).2)).2)).2) (zm_sub2 [(1, 10), (11, 10)] (zm_w (zm_mrg [(51, 2), (11, 10)] (I, J) (N, (zm_sub2 [(51, 2), (11, 10)] (I, J)).2)).1 51 1 0, (zm_mrg [(51, 2), (11, 10)] (I, J) (N, (zm_sub2 [(51, 2), (11, 10)] (I, J)).2)).2)).1 (k := 0) (by decide) d1
    rw [if_pos c, if_neg (by decide), zc_X9_bench_X_27 _ _ _ f1, zc_X9_bench_X_38 _ _ _ ((zf_X9_forgetAnswers_X _ _).trans (zq_X9_forgetAnswers_X_0 _ _)), zq_X9_bench_X_42] at hz
    obtain ⟨E, g1, g2, g3, g4, g5, -, g7, g8, g9, g10, g11, g12⟩ := zp_cbM (J := P') (a := 4) (b := 0) (by decide) (by decide) (by decide) W
    have hcb : zF_X10_copyBench zW_M [.ref 0, .int 4, .int 0] (W, P') = some (none, (E, P')) := g1
    rw [if_pos c, zc_X10_bench_M_147 _ _ hcb, zq_X10_bench_M_153, if_neg (by decide), show Int32.toNatClampNeg 0 = 0 by decide] at hy
    cases hz
    cases hy
    have v0 : ∀ j, j < 8 → D 0 j = N 2 j := fun j hj => f2 j hj
    have v1 : ∀ s, s < 6 → D 1 s = N 3 s := fun s hs => f3 s hs
    have v2 : ∀ c, c < 5 → D 2 c = N 4 c ∧ D 3 c = N 5 c ∧ D 4 c = N 6 c ∧ D 5 c = N 7 c ∧ D 6 c = N 8 c := fun c hc => f4 c hc
    have w6 : E 6 0 = N' 6 4 := g2.trans (oo 6 4 (by decide))
    have w7 : ∀ q, q < 7 → E 7 q = N' 7 (28 + q) := fun q hq => by have := g3 q hq; rw [show 7 * 0 + q = q by omega] at this; exact this.trans (oo 7 _ (by decide))
    have w8 : ∀ q, q < 6 → E 8 q = N' 8 (24 + q) := fun q hq => by have := g4 q hq; rw [show 6 * 0 + q = q by omega] at this; exact this.trans (oo 8 _ (by decide))
    have w9 : ∀ q, q < 25 → E 9 q = N' 9 (100 + q) := fun q hq => by have := g5 q hq; rw [show 25 * 0 + q = q by omega] at this; exact this.trans (oo 9 _ (by decide))
    refine ⟨?_, rfl, (g7 0 6 (by omega)).trans o1, ?_, ?_, Or.inl ⟨⟨?_, ?_, ?_, ⟨?_, ?_, ?_⟩, fun j hj hl => ?_, fun q hq hl => ?_⟩, ⟨?_, ?_, ?_, ?_⟩, fun q hq hl => ?_, fun q hq hl => ?_⟩, fun s hs1 hs3 => ?_⟩
    · show D 0 0 = E 6 0
      rw [v0 0 (by decide), w6, a1, a2]
    · show N 0 2 = E 0 14
      rw [g7 0 14 (by omega), o2]
      exact k2
    · show N 0 3 = E 0 15
      rw [g7 0 15 (by omega), o3, if_pos c, k3]
      exact bp
    · show D 0 0 = E 6 0
      rw [v0 0 (by decide), w6, a1, a2]
    · show D 0 5 = E 7 4
      rw [v0 5 (by decide), w7 4 (by decide), b1]
      exact b2.symm
    · show D 0 6 = E 7 5
      rw [v0 6 (by decide), w7 5 (by decide), c1]
      exact c2.symm
    · show D 0 1 = E 7 0
      rw [v0 1 (by decide), w7 0 (by decide)]
      exact e1
    · show D 0 3 = E 7 2
      rw [v0 3 (by decide), w7 2 (by decide)]
      exact e3
    · show D 0 4 = E 7 3
      rw [v0 4 (by decide), w7 3 (by decide)]
      exact e4
    · have hl : (j : Int) < (D 0 5).toInt := hl
      rw [v0 5 (by decide), b1, zp_o (by omega)] at hl
      show D 1 j = E 8 (6 * 0 + j)
      rw [show 6 * 0 + j = j by omega, v1 j hj, w8 j hj]
      exact fS j (by omega)
    · have hl : (q : Int) < (D 0 6).toInt := hl
      rw [v0 6 (by decide), c1, zp_o (by omega)] at hl
      obtain ⟨r2, r3, r4, r5, r6⟩ := v2 q hq
      show D 2 q = E 9 (25 * 0 + 5 * q) ∧ D 3 q = E 9 (25 * 0 + 5 * q + 1) ∧ D 4 q = E 9 (25 * 0 + 5 * q + 2) ∧ D 5 q = E 9 (25 * 0 + 5 * q + 3) ∧ D 6 q = E 9 (25 * 0 + 5 * q + 4)
      rw [show 25 * 0 + 5 * q = 5 * q by omega, r2, r3, r4, r5, r6, w9 (5 * q) (by omega), w9 (5 * q + 1) (by omega), w9 (5 * q + 2) (by omega), w9 (5 * q + 3) (by omega), w9 (5 * q + 4) (by omega)]
      exact (gC q (by omega)).1
    · show D 0 2 = E 7 1
      rw [v0 2 (by decide), w7 1 (by decide)]
      exact e2
    · show D 0 7 = E 7 6
      rw [v0 7 (by decide), w7 6 (by decide), d1]
      exact d2.symm
    · show 0 ≤ (D 0 7).toInt
      rw [v0 7 (by decide), d1]
      decide
    · show (D 0 7).toInt ≤ 40
      rw [v0 7 (by decide), d1]
      decide
    · have hl : (q : Int) < (D 0 6).toInt := hl
      rw [v0 6 (by decide), c1, zp_o (by omega)] at hl
      obtain ⟨-, -, r4, -, -⟩ := v2 q hq
      obtain ⟨-, h0, h1⟩ := gC q (by omega)
      show 0 ≤ (D 4 q).toInt ∧ (D 4 q).toInt < (D 0 5).toInt
      rw [r4, v0 5 (by decide), b1, zp_o (by omega)]
      exact ⟨h0, h1⟩
    · have hl : (q : Int) < (D 0 7).toInt := hl
      rw [v0 7 (by decide), d1, show (0 : Int32).toInt = 0 by decide] at hl
      omega
    · obtain ⟨t1, t2, t3, t4⟩ := s13 s hs3
      refine ⟨?_, fun b hb => ?_, fun b hb => ?_, fun b hb => ?_, fun b hb => ?_⟩
      · show E 6 s = _
        rw [g8 s (by omega), oo 6 s (by decide), t1]
      · show E 7 _ = _
        rw [g9 _ (by omega), oo 7 _ (by decide), t2 b hb]
      · show E 8 _ = _
        rw [g10 _ (by omega), oo 8 _ (by decide), t3 b hb]
      · show E 9 _ = _
        rw [g11 _ (by omega), oo 9 _ (by decide), t4 b hb]
      · show E 10 _ = _
        rw [g12 _ (by omega), oo 10 _ (by decide), s10]
  · rw [if_neg c, if_pos rfl, zq_X9_bench_X_24] at hz
    rw [if_neg c, zq_X10_bench_M_144] at hy
    cases hz
    cases hy
    refine ⟨rfl, rfl, o1, ?_, ?_, Or.inr ⟨fun a h1 h10 => ?_, ?_, fun b hb => ?_, fun b hb => ?_, fun b hb => ?_, fun b _ => ?_⟩, fun s hs1 hs3 => ?_⟩
    · show N 0 2 = W 0 14
      rw [o2, k2]
    · show N 0 3 = W 0 15
      rw [o3, if_neg c, k3]
    · show zm_w (zm_mrg [(51, 2), (11, 10)] (I, J) (N, (zm_sub2 [(51, 2), (11, 10)] (I, J)).2)).1 51 1 0 a = I a
      funext b
      rw [ze_wo (by omega)]
      match a, h1, h10 with
      | 1, _, _ => rfl
      | 2, _, _ => rfl
      | 3, _, _ => rfl
      | 4, _, _ => rfl
      | 5, _, _ => rfl
      | 6, _, _ => rfl
      | 7, _, _ => rfl
      | 8, _, _ => rfl
      | 9, _, _ => rfl
      | 10, _, _ => rfl
      | a + 11, _, h => omega
    · show W 6 0 = I' 6 0
      rw [oo 6 0 (by decide), (s13 0 (by decide)).1]
    · show W 7 b = I' 7 b
      have := (s13 0 (by decide)).2.1 b hb
      rw [show 7 * 0 + b = b by omega] at this
      rw [oo 7 b (by decide), this]
    · show W 8 b = I' 8 b
      have := (s13 0 (by decide)).2.2.1 b hb
      rw [show 6 * 0 + b = b by omega] at this
      rw [oo 8 b (by decide), this]
    · show W 9 b = I' 9 b
      have := (s13 0 (by decide)).2.2.2 b hb
      rw [show 25 * 0 + b = b by omega] at this
      rw [oo 9 b (by decide), this]
    · show W 10 b = I' 10 b
      rw [oo 10 b (by decide), s10]
    · obtain ⟨t1, t2, t3, t4⟩ := s13 s hs3
      refine ⟨?_, fun b hb => ?_, fun b hb => ?_, fun b hb => ?_, fun b _ => ?_⟩
      · show W 6 s = _
        rw [oo 6 s (by decide), t1]
      · show W 7 _ = _
        rw [oo 7 _ (by decide), t2 b hb]
      · show W 8 _ = _
        rw [oo 8 _ (by decide), t3 b hb]
      · show W 9 _ = _
        rw [oo 9 _ (by decide), t4 b hb]
      · show W 10 _ = _
        rw [oo 10 _ (by decide), s10]
end ZPM
