/-! bench, on both sides: around the lines -/
def zpA0 (T : Nat → Int) (n : Nat) : zpA := zp_adv T n (0, 0, 0, 0, -1)
section ZPL
variable {T : Nat → Int} {n : Nat} {I I' : Nat → Nat → Int32} {J J' : Nat → Nat → Int64}
theorem zpW0 : zpW T n (zpA0 T n) := zp_W_adv (A := (0, 0, 0, 0, -1)) (Nat.zero_le n) (fun _ => rfl)
theorem zp_rdX (h1 : I 0 1 = Int32.ofNat n) (hT : ∀ i, i < n → (I 1 i).toInt = T i) (hn : n ≤ 800) : ∃ K, zF_X8_read zW_TB [.ref 0, .ref 2] (I, J) = zv_X8_read_TB_25 K J (Int32.ofNat 0) ∧ zpXA T n (zpA0 T n) K ∧ ∀ j, j < 8 → K 2 j = 0 := by
  have hc : zF_X0_clear zW_B [.ref 0] (zm_sub2 [(2, 10)] ((zm_w (zm_w (zm_w I 0 2 0) 0 3 (-1)) 0 6 0), J)) = _ := (zf_X0_clear_B (zm_sub2 [(2, 10)] ((zm_w (zm_w (zm_w I 0 2 0) 0 3 (-1)) 0 6 0), J)).1 (zm_sub2 [(2, 10)] ((zm_w (zm_w (zm_w I 0 2 0) 0 3 (-1)) 0 6 0), J)).2).trans (zq_X0_clear_B_0 _ _)
  have e0 := (zf_X8_read_TB I J).trans (zc_X8_read_TB_0 I J hc)
  have w0 : ∀ a b, a < 2 → (zm_mrg [(2, 10)] ((zm_w (zm_w (zm_w I 0 2 0) 0 3 (-1)) 0 6 0), J) ((zm_w (zm_w (zm_w (zm_w (zm_w (zm_w (zm_w (zm_w (zm_sub2 [(2, 10)] ((zm_w (zm_w (zm_w I 0 2 0) 0 3 (-1)) 0 6 0), J)).1 0 0 0) 0 1 0) 0 2 0) 0 3 0) 0 4 0) 0 5 0) 0 6 0) 0 7 0), (zm_sub2 [(2, 10)] ((zm_w (zm_w (zm_w I 0 2 0) 0 3 (-1)) 0 6 0), J)).2)).1 a b = zm_w (zm_w (zm_w I 0 2 0) 0 3 (-1)) 0 6 0 a b := fun a b ha => by rw [(zy_m0 (a := 2) (z := 10) (n := a) (by omega) _ _).1]
  have w1 : ∀ j, j < 8 → (zm_mrg [(2, 10)] ((zm_w (zm_w (zm_w I 0 2 0) 0 3 (-1)) 0 6 0), J) ((zm_w (zm_w (zm_w (zm_w (zm_w (zm_w (zm_w (zm_w (zm_sub2 [(2, 10)] ((zm_w (zm_w (zm_w I 0 2 0) 0 3 (-1)) 0 6 0), J)).1 0 0 0) 0 1 0) 0 2 0) 0 3 0) 0 4 0) 0 5 0) 0 6 0) 0 7 0), (zm_sub2 [(2, 10)] ((zm_w (zm_w (zm_w I 0 2 0) 0 3 (-1)) 0 6 0), J)).2)).1 2 j = 0 := by
    intro j hj
    rw [(zy_m1 (a := 2) (z := 10) (n := 2) (by decide) (by decide) _ _).1]
    match j, hj with
    | 0, _ => rfl
    | 1, _ => rfl
    | 2, _ => rfl
    | 3, _ => rfl
    | 4, _ => rfl
    | 5, _ => rfl
    | 6, _ => rfl
    | 7, _ => rfl
    | j + 8, h => omega
  have wJ : (zm_mrg [(2, 10)] ((zm_w (zm_w (zm_w I 0 2 0) 0 3 (-1)) 0 6 0), J) ((zm_w (zm_w (zm_w (zm_w (zm_w (zm_w (zm_w (zm_w (zm_sub2 [(2, 10)] ((zm_w (zm_w (zm_w I 0 2 0) 0 3 (-1)) 0 6 0), J)).1 0 0 0) 0 1 0) 0 2 0) 0 3 0) 0 4 0) 0 5 0) 0 6 0) 0 7 0), (zm_sub2 [(2, 10)] ((zm_w (zm_w (zm_w I 0 2 0) 0 3 (-1)) 0 6 0), J)).2)).2 = J := by
    funext a
    by_cases c : a < 2 ∨ 12 ≤ a
    · rw [(zy_m0 (a := 2) (z := 10) (n := a) (by omega) _ _).2]
    · rw [(zy_m1 (a := 2) (z := 10) (n := a) (by omega) (by omega) _ _).2]
      show (zm_sub2 [(2, 10)] ((zm_w (zm_w (zm_w I 0 2 0) 0 3 (-1)) 0 6 0), J)).2 (a - 2) = J a
      rw [(zy_s1 (a := 2) (z := 10) (n := a - 2) (by omega) _).2, show 2 + (a - 2) = a by omega]
  rw [e0, wJ]
  generalize (zm_mrg [(2, 10)] ((zm_w (zm_w (zm_w I 0 2 0) 0 3 (-1)) 0 6 0), J) ((zm_w (zm_w (zm_w (zm_w (zm_w (zm_w (zm_w (zm_w (zm_sub2 [(2, 10)] ((zm_w (zm_w (zm_w I 0 2 0) 0 3 (-1)) 0 6 0), J)).1 0 0 0) 0 1 0) 0 2 0) 0 3 0) 0 4 0) 0 5 0) 0 6 0) 0 7 0), (zm_sub2 [(2, 10)] ((zm_w (zm_w (zm_w I 0 2 0) 0 3 (-1)) 0 6 0), J)).2)).1 = K0 at w0 w1
  obtain ⟨K, q1, q2, q3⟩ := zp_advX0 (T := T) (n := n) (e := 0) (f := 0) (p := -1) (I := K0) (J := J) (by rw [w0 0 1 (by decide), ze_wj (by decide), ze_wj (by decide), ze_wj (by decide)]; exact h1) (fun i hi => by rw [w0 1 i (by decide), ze_wo (by decide), ze_wo (by decide), ze_wo (by decide)]; exact hT i hi) (by rw [w0 0 6 (by decide), ze_wi]; rfl) (by rw [w0 0 2 (by decide), ze_wj (by decide), ze_wj (by decide), ze_wi]) (by rw [w0 0 3 (by decide), ze_wj (by decide), ze_wi]) hn (Nat.zero_le n)
  exact ⟨K, (zc_X8_read_TB_19 _ _ q1).trans (zq_X8_read_TB_23 _ _), q2, fun j hj => by rw [q3 2 j (by decide)]; exact w1 j hj⟩
theorem zp_clr9 : ∀ (d l : Nat) (I : Nat → Nat → Int32), l + d = 7 → ∃ N, zv_X10_clears_M_9 I J (Int32.ofNat l) = some (none, (N, J)) ∧ (∀ q, l ≤ q → q < 7 → N 7 (28 + q) = 0) ∧ (∀ a b, (a ≠ 7 ∨ b < 28 + l ∨ 35 ≤ b) → N a b = I a b) := by
  have o7 : (7 : Int32) = Int32.ofNat 7 := rfl
  intro d
  induction d with
  | zero =>
    intro l I h
    refine ⟨I, ?_, fun b h1 h2 => by omega, fun a b _ => rfl⟩
    rw [zq_X10_clears_M_9, if_pos (by rw [o7]; exact (zp_le (by omega) (by omega)).mpr (by omega)), zq_X10_clears_M_27]
  | succ d ih =>
    intro l I h
    obtain ⟨N, q1, q2, q3⟩ := ih (l + 1) (zm_w I 7 (28 + l) 0) (by omega)
    refine ⟨N, ?_, fun q h1 h2 => ?_, fun a b hab => ?_⟩
    · rw [zq_X10_clears_M_9, if_neg (fun z => by rw [o7] at z; have := (zp_le (by omega) (by omega)).mp z; omega), zc_X10_clears_M_15 _ _ _ (zp_tellM (by omega) 0), zq_X10_clears_M_21, zp_o1 (by omega)]
      exact q1
    · by_cases e : q = l
      · subst e
        rw [q3 7 (28 + q) (by omega), ze_wi]
      · exact q2 q (by omega) h2
    · rw [q3 a b (by omega)]
      unfold zm_w
      rw [if_neg (by omega)]
theorem zp_rdM (h6 : I' 0 6 = Int32.ofNat n) (hT : ∀ i, i < n → zp_sg (I' 5 i).toInt (T i)) (hn : n ≤ 800) : ∃ K P, zF_X10_bench zW_M [.ref 0] (I', J') = zv_X10_bench_M_13 K P ∧ zpM T n (zpA0 T n) K P ∧ K 6 4 = 0 ∧ (∀ q, q < 7 → K 7 (28 + q) = 0) ∧ zp_fk I' K := by
  obtain ⟨N, c1, c2, c3⟩ := zp_clr9 (J := J') 7 0 (zm_w (zm_w I' 0 0 0) 6 4 0) rfl
  have hc : zF_X10_clears zW_M [.ref 0] ((zm_w I' 0 0 0), J') = some (none, (N, J')) := by
    rw [zf_X10_clears_M, zq_X10_clears_M_0, if_neg (show ¬ ((4 : Int32) < 0 ∨ 5 ≤ Int32.toNatClampNeg 4) by decide), show Int32.toNatClampNeg 4 = 4 by decide]
    exact c1
  have n0 : ∀ b, b ≠ 0 → N 0 b = I' 0 b := fun b hb => by rw [c3 0 b (by omega), ze_wo (by decide), ze_wj hb]
  obtain ⟨K, P, q1, q2, q3, -⟩ := zp_nextM (T := T) (n := n) (A := (0, 0, 0, 0, -1)) (I := zm_w (zm_w (zm_w N 0 12 0) 0 13 (-1)) 0 7 0) (J := J') hn (Nat.zero_le n) (by rw [ze_wj (by decide), ze_wj (by decide), ze_wj (by decide), n0 6 (by decide)]; exact h6) (fun i hi => by rw [ze_wo (by decide), ze_wo (by decide), ze_wo (by decide), c3 5 i (by omega), ze_wo (by decide), ze_wo (by decide)]; exact hT i hi) ze_wi (by rw [ze_wj (by decide), ze_wj (by decide), ze_wi]) (by rw [ze_wj (by decide), ze_wi])
  have hb : zF_X10_begins zW_M [.ref 0] (N, J') = some (none, (K, P)) := by rw [zf_X10_begins_M, zc_X10_begins_M_0 _ _ q1, zq_X10_begins_M_19]
  refine ⟨K, P, by rw [zf_X10_bench_M, zc_X10_bench_M_0 _ _ hc, zc_X10_bench_M_9 _ _ hb], q2, ?_, fun q hq => ?_, fun a b hab => ?_⟩
  · rw [q3 6 4 (by decide), ze_wo (by decide), ze_wo (by decide), ze_wo (by decide), c3 6 4 (by omega), ze_wi]
  · rw [q3 7 _ (by decide), ze_wo (by decide), ze_wo (by decide), ze_wo (by decide), c2 q (by omega) hq]
  · rw [q3 a b (by omega), ze_wo (by omega), ze_wo (by omega), ze_wo (by omega), c3 a b (by omega)]
    unfold zm_w
    rw [if_neg (by omega), if_neg (by omega)]
/-- the whole reading, on both sides -/
theorem zp_read (h1 : I 0 1 = Int32.ofNat n) (hT : ∀ i, i < n → (I 1 i).toInt = T i) (h6 : I' 0 6 = Int32.ofNat n) (hT' : ∀ i, i < n → zp_sg (I' 5 i).toInt (T i)) (hn : n ≤ 800) : ∃ (B : zpA) (N N' : Nat → Nat → Int32) (P' : Nat → Nat → Int64), zF_X8_read zW_TB [.ref 0, .ref 2] (I, J) = some (some (.int (if B.2.2.2.1 = 0 then 1 else 0)), (N, J)) ∧ zF_X10_bench zW_M [.ref 0] (I', J') = zv_X10_bench_M_133 N' P' ∧ N 0 2 = B.2.2.2.1 ∧ N 0 3 = B.2.2.2.2 ∧ N' 0 12 = B.2.2.2.1 ∧ N' 0 13 = B.2.2.2.2 ∧ zp_fk I' N' ∧ (B.2.2.2.1 = 0 → B.2.2.2.2 = -1 ∧ ∃ S C L, zpB S C L N N') := by
  obtain ⟨K, q1, q2, q3⟩ := zp_rdX (T := T) (J := J) h1 hT hn
  obtain ⟨K', P, r1, r2, r3, r4, r5⟩ := zp_rdM (T := T) (J' := J') h6 hT' hn
  have hB : zpB 0 0 0 K K' := by
    have z : (Int32.ofNat 0 : Int32) = 0 := rfl
    exact ⟨⟨(q3 0 (by decide)).trans z.symm, r3.trans z.symm⟩, ⟨(q3 5 (by decide)).trans z.symm, (r4 4 (by decide)).trans z.symm, by decide⟩, ⟨(q3 6 (by decide)).trans z.symm, (r4 5 (by decide)).trans z.symm, by decide⟩, ⟨q3 7 (by decide), r4 6 (by decide)⟩, ⟨(q3 1 (by decide)).trans (r4 0 (by decide)).symm, (q3 2 (by decide)).trans (r4 1 (by decide)).symm, (q3 3 (by decide)).trans (r4 2 (by decide)).symm, (q3 4 (by decide)).trans (r4 3 (by decide)).symm⟩, fun s hs => absurd hs (Nat.not_lt_zero s), fun s hs => absurd hs (Nat.not_lt_zero s)⟩
  obtain ⟨B, N, N', P', l, u1, u2, u3, u4, u5, u6, u7⟩ := zp_loop hn (n + 1) (zpA0 T n) K K' J P 0 (by omega) zpW0 q2 r2 (by omega) (fun _ => ⟨Nat.zero_le _, 0, 0, 0, hB, rfl, fun _ => ⟨rfl, rfl⟩⟩)
  have k2 := u3.2.2.2.2.2.1
  refine ⟨B, N, N', P', ?_, r1.trans u2, k2, u3.2.2.2.2.2.2, u4.2.2.2.2.2.1, u4.2.2.2.2.2.2.1, zp_fkt r5 u6, fun z => ⟨u5.2.2.2 z, u7 z⟩⟩
  rw [q1, u1, zq_X8_read_TB_120, k2]
  by_cases c : B.2.2.2.1 = 0
  · rw [if_pos c, if_pos c, zq_X8_read_TB_127, zq_X8_read_TB_132, if_pos (Or.inr rfl)]
  · rw [if_neg c, if_neg c, zq_X8_read_TB_131, zq_X8_read_TB_132, if_pos (Or.inl rfl)]
end ZPL
