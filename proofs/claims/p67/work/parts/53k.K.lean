/-! copyRow, copyBench, exactly -/
section ZPK
variable {J : Nat → Nat → Int64}
theorem zp_cr3 {n m len a b : Nat} (hq : zh_crEq n m len) (hm : 5 * m ≤ len) (hl : len ≤ 1000) (ha : a ≤ 4) (hb : b ≤ 4) (ea : (Int32.ofNat m * Int32.ofNat a : Int32) = Int32.ofNat (m * a)) (eb : (Int32.ofNat m * Int32.ofNat b : Int32) = Int32.ofNat (m * b)) (la : m * a + m ≤ len) (lb : m * b + m ≤ len) (hab : m * a + m ≤ m * b ∨ m * b + m ≤ m * a) : ∀ (d k : Nat) (I : Nat → Nat → Int32), k + d = m → ∃ N, zh_crV n m 3 (Int32.ofNat a) (Int32.ofNat b) (Int32.ofNat k) I J = some (none, (N, J)) ∧ (∀ q, k ≤ q → q < m → N n (m * b + q) = I n (m * a + q)) ∧ (∀ i j, (i ≠ n ∨ j < m * b + k ∨ m * b + m ≤ j) → N i j = I i j) := by
  intro d
  induction d with
  | zero =>
    intro k I h
    obtain ⟨-, hk⟩ := hq I J (Int32.ofNat a) (Int32.ofNat b)
    obtain ⟨h3, h9, h31⟩ := hk (Int32.ofNat k)
    refine ⟨I, ?_, fun q h1 h2 => by omega, fun i j _ => rfl⟩
    rw [h3, if_pos ((zp_le (by omega) (by omega)).mpr (by omega)), h31]
  | succ d ih =>
    intro k I h
    obtain ⟨-, hk⟩ := hq I J (Int32.ofNat a) (Int32.ofNat b)
    obtain ⟨h3, h9, h31⟩ := hk (Int32.ofNat k)
    obtain ⟨N, q1, q2, q3⟩ := ih (k + 1) (zm_w I n (m * b + k) (I n (m * a + k))) (by omega)
    have oa : Int32.ofNat m * Int32.ofNat a + Int32.ofNat k = Int32.ofNat (m * a + k) := by rw [ea]; exact zh_ofadd (zp_o (by omega)) (by omega)
    have ob : Int32.ofNat m * Int32.ofNat b + Int32.ofNat k = Int32.ofNat (m * b + k) := by rw [eb]; exact zh_ofadd (zp_o (by omega)) (by omega)
    refine ⟨N, ?_, fun q h1 h2 => ?_, fun i j hij => ?_⟩
    · rw [h3, if_neg (fun z => by have := (zp_le (by omega) (by omega)).mp z; omega), h9, oa, ob, if_neg (zp_in (by omega) (by omega)), if_neg (zp_in (by omega) (by omega)), zp_cl (by omega), zp_cl (by omega), zp_o1 (by omega)]
      exact q1
    · by_cases e : q = k
      · subst e
        rw [q3 n (m * b + q) (by omega), ze_wi]
      · rw [q2 q (by omega) h2, ze_wj (by omega)]
    · rw [q3 i j (by omega)]
      by_cases e : i = n
      · subst e
        exact ze_wj (by omega)
      · exact ze_wo e
theorem zp_crM {n m len a b : Nat} (hq : zh_crEq n m len) (hm : 5 * m ≤ len) (hl : len ≤ 1000) (ha : a ≤ 4) (hb : b ≤ 4) (ea : (Int32.ofNat m * Int32.ofNat a : Int32) = Int32.ofNat (m * a)) (eb : (Int32.ofNat m * Int32.ofNat b : Int32) = Int32.ofNat (m * b)) (la : m * a + m ≤ len) (lb : m * b + m ≤ len) (hab : m * a + m ≤ m * b ∨ m * b + m ≤ m * a) (I : Nat → Nat → Int32) : ∃ N, zF_X10_copyRow zW_M [.ref n, .int (Int32.ofNat m), .int (Int32.ofNat a), .int (Int32.ofNat b)] (I, J) = some (none, (N, J)) ∧ (∀ q, q < m → N n (m * b + q) = I n (m * a + q)) ∧ (∀ i j, i ≠ n → N i j = I i j) ∧ (∀ j, (j < m * b ∨ m * b + m ≤ j) → N n j = I n j) := by
  obtain ⟨N, q1, q2, q3⟩ := zp_cr3 (J := J) hq hm hl ha hb ea eb la lb hab m 0 I (Nat.zero_add m)
  exact ⟨N, ((hq I J (Int32.ofNat a) (Int32.ofNat b)).1).trans q1, fun q h => q2 q (Nat.zero_le q) h, fun i j h => q3 i j (Or.inl h), fun j h => q3 n j (Or.inr (by omega))⟩
theorem zp_mul : ∀ m, m < 121 → ∀ a, a < 5 → (Int32.ofNat m * Int32.ofNat a : Int32) = Int32.ofNat (m * a) := by decide +kernel
/-- a bench copied from slot a to slot b -/
theorem zp_cbM {a b : Nat} (ha : a ≤ 4) (hb : b ≤ 4) (hab : a < b ∨ b < a) (I : Nat → Nat → Int32) : ∃ N, zF_X10_copyBench zW_M [.ref 0, .int (Int32.ofNat a), .int (Int32.ofNat b)] (I, J) = some (none, (N, J)) ∧ N 6 b = I 6 a ∧ (∀ q, q < 7 → N 7 (7 * b + q) = I 7 (7 * a + q)) ∧ (∀ q, q < 6 → N 8 (6 * b + q) = I 8 (6 * a + q)) ∧ (∀ q, q < 25 → N 9 (25 * b + q) = I 9 (25 * a + q)) ∧ (∀ q, q < 120 → N 10 (120 * b + q) = I 10 (120 * a + q)) ∧ (∀ i j, (i < 6 ∨ 10 < i) → N i j = I i j) ∧ (∀ j, j ≠ b → N 6 j = I 6 j) ∧ (∀ j, (j < 7 * b ∨ 7 * b + 7 ≤ j) → N 7 j = I 7 j) ∧ (∀ j, (j < 6 * b ∨ 6 * b + 6 ≤ j) → N 8 j = I 8 j) ∧ (∀ j, (j < 25 * b ∨ 25 * b + 25 ≤ j) → N 9 j = I 9 j) ∧ (∀ j, (j < 120 * b ∨ 120 * b + 120 ≤ j) → N 10 j = I 10 j) := by
  obtain ⟨N1, a1, a2, a3, a4⟩ := zp_crM (J := J) zh_cr6 (by decide) (by decide) ha hb (zp_mul 1 (by decide) a (by omega)) (zp_mul 1 (by decide) b (by omega)) (by omega) (by omega) (by omega) I
  obtain ⟨N2, b1, b2, b3, b4⟩ := zp_crM (J := J) zh_cr7 (by decide) (by decide) ha hb (zp_mul 7 (by decide) a (by omega)) (zp_mul 7 (by decide) b (by omega)) (by omega) (by omega) (by omega) N1
  obtain ⟨N3, c1, c2, c3, c4⟩ := zp_crM (J := J) zh_cr8 (by decide) (by decide) ha hb (zp_mul 6 (by decide) a (by omega)) (zp_mul 6 (by decide) b (by omega)) (by omega) (by omega) (by omega) N2
  obtain ⟨N4, d1, d2, d3, d4⟩ := zp_crM (J := J) zh_cr9 (by decide) (by decide) ha hb (zp_mul 25 (by decide) a (by omega)) (zp_mul 25 (by decide) b (by omega)) (by omega) (by omega) (by omega) N3
  obtain ⟨N5, e1, e2, e3, e4⟩ := zp_crM (J := J) zh_cr10 (by decide) (by decide) ha hb (zp_mul 120 (by decide) a (by omega)) (zp_mul 120 (by decide) b (by omega)) (by omega) (by omega) (by omega) N4
  refine ⟨N5, ?_, ?_, fun q hq => ?_, fun q hq => ?_, fun q hq => ?_, fun q hq => ?_, fun i j hi => ?_, fun j hj => ?_, fun j hj => ?_, fun j hj => ?_, fun j hj => ?_, fun j hj => ?_⟩
  · rw [zf_X10_copyBench_M]
    exact (zc_X10_copyBench_M_0 I J _ _ a1).trans ((zc_X10_copyBench_M_10 N1 J _ _ b1).trans ((zc_X10_copyBench_M_21 N2 J _ _ c1).trans ((zc_X10_copyBench_M_32 N3 J _ _ d1).trans ((zc_X10_copyBench_M_43 N4 J _ _ e1).trans (zq_X10_copyBench_M_54 N5 J _ _)))))
  · have r := a2 0 (by decide)
    rw [show 1 * b + 0 = b by omega, show 1 * a + 0 = a by omega] at r
    rw [e3 6 b (by decide), d3 6 b (by decide), c3 6 b (by decide), b3 6 b (by decide)]
    exact r
  · rw [e3 7 _ (by decide), d3 7 _ (by decide), c3 7 _ (by decide), b2 q hq, a3 7 _ (by decide)]
  · rw [e3 8 _ (by decide), d3 8 _ (by decide), c2 q hq, b3 8 _ (by decide), a3 8 _ (by decide)]
  · rw [e3 9 _ (by decide), d2 q hq, c3 9 _ (by decide), b3 9 _ (by decide), a3 9 _ (by decide)]
  · rw [e2 q hq, d3 10 _ (by decide), c3 10 _ (by decide), b3 10 _ (by decide), a3 10 _ (by decide)]
  · rw [e3 i j (by omega), d3 i j (by omega), c3 i j (by omega), b3 i j (by omega), a3 i j (by omega)]
  · rw [e3 6 j (by decide), d3 6 j (by decide), c3 6 j (by decide), b3 6 j (by decide), a4 j (by omega)]
  · rw [e3 7 j (by decide), d3 7 j (by decide), c3 7 j (by decide), b4 j hj, a3 7 j (by decide)]
  · rw [e3 8 j (by decide), d3 8 j (by decide), c4 j hj, b3 8 j (by decide), a3 8 j (by decide)]
  · rw [e3 9 j (by decide), d4 j hj, c3 9 j (by decide), b3 9 j (by decide), a3 9 j (by decide)]
  · rw [e4 j hj, d3 10 j (by decide), c3 10 j (by decide), b3 10 j (by decide), a3 10 j (by decide)]
end ZPK
