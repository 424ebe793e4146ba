/-! THE CLASS'S CHANCES: every way to miss, call by call -/
section ZCD
variable {B : zdB}
/-- a call at which nobody is there: missed or not, the same day -/
theorem zcc_same (hE : 1 ≤ B.2.2.2.2.2.2) {ms ms' : Nat → Bool} {j : Nat} (h : ∀ i, i ≠ j → ms i = ms' i) (hW : zca_W B ms j = -1) : ∀ n, zd_st B ms n = zd_st B ms' n
  | 0 => rfl
  | n + 1 => by
    have ih := zcc_same hE h hW n
    show zd_nx B ms n (zd_st B ms n) = zd_nx B ms' n (zd_st B ms' n)
    rw [← ih]
    unfold zd_nx
    have e : zd_fin B ms n ((zd_at B n (zd_st B ms n)).1, (zd_st B ms n).2.1) = zd_fin B ms' n ((zd_at B n (zd_st B ms n)).1, (zd_st B ms n).2.1) := by
      by_cases c : n = (j + 1) * B.2.2.2.2.2.2
      · have w : zd_ft B (zd_at B n (zd_st B ms n)).1 = -1 := by
          rw [c]
          exact hW
        have f := fun (m : Nat → Bool) => zca_finN (B := B) (ms := m) (n := n) (x := ((zd_at B n (zd_st B ms n)).1, (zd_st B ms n).2.1)) w
        exact (f ms).trans (f ms').symm
      · refine zca_fin (fun h0 hn => h _ (fun e => c ?_))
        obtain ⟨q, e1, e2⟩ := zca_call hE h0 hn
        exact e1.trans (by rw [show q = j from e2.symm.trans e])
    rw [e]
def zcc_V (B : zdB) (k c x : Nat) : Nat := if zca_W B (zca_ms x) k = (c : Int) then 1 else 0
/-- what the ways that begin with x, from call i on, add to the going in at call k of caller c -/
def zcc_a (B : zdB) (o i x k c : Nat) : Nat := if i ≤ k then (10 - o) * zca_Q o (10 - o) (zcc_V B k c) i x (k - i) else 0
theorem zcc_bit {i x y j : Nat} (hx : x < 2 ^ i) : (x + 2 ^ i * y).testBit j = if j < i then x.testBit j else y.testBit (j - i) := by
  rw [Nat.add_comm]
  exact Nat.testBit_two_pow_mul_add y hx j
theorem zcc_one (hE : 1 ≤ B.2.2.2.2.2.2) {o i x k c : Nat} (ho : o ≤ 10) (hx : x < 2 ^ i) (hW : zca_W B (zca_ms x) i = -1) : zcc_a B o i x k c = 10 * zcc_a B o (i + 1) x k c := by
  unfold zcc_a
  by_cases c1 : i ≤ k
  · by_cases c2 : i = k
    · subst c2
      have v0 : zcc_V B i c x = 0 := by
        unfold zcc_V
        rw [hW]
        exact if_neg (by omega)
      rw [if_pos (Nat.le_refl i), if_neg (show ¬ i + 1 ≤ i by omega), Nat.sub_self, zca_Q_0, v0, Nat.mul_zero]
    · obtain ⟨r, hr⟩ : ∃ r, k - i = r + 1 := ⟨k - i - 1, by omega⟩
      have p2 : 2 ^ (i + 1) = 2 ^ i + 2 ^ i := by rw [Nat.pow_succ]; omega
      have e : zca_Q o (10 - o) (zcc_V B k c) (i + 1) (x + 2 ^ i) r = zca_Q o (10 - o) (zcc_V B k c) (i + 1) x r := by
        unfold zca_Q
        refine zca_T_c (fun y _ => ?_)
        have hx1 : x < 2 ^ (i + 1) := by omega
        have hx2 : x + 2 ^ i < 2 ^ (i + 1) := by omega
        have hw : zca_W B (zca_ms (x + 2 ^ (i + 1) * y)) i = -1 := (zca_W_dep (ms := zca_ms (x + 2 ^ (i + 1) * y)) (ms' := zca_ms x) hE (fun j hj => by
          show (x + 2 ^ (i + 1) * y).testBit j = x.testBit j
          rw [zcc_bit hx1, if_pos (by omega)])).trans hW
        have hs := zcc_same (ms := zca_ms (x + 2 ^ (i + 1) * y)) (ms' := zca_ms (x + 2 ^ i + 2 ^ (i + 1) * y)) hE (j := i) (fun q hq => by
          show (x + 2 ^ (i + 1) * y).testBit q = (x + 2 ^ i + 2 ^ (i + 1) * y).testBit q
          rw [zcc_bit hx1, zcc_bit hx2]
          by_cases z : q < i
          · rw [if_pos (by omega), if_pos (by omega), Nat.add_comm x (2 ^ i)]
            exact (zca_bitL z).symm
          · rw [if_neg (by omega), if_neg (by omega)]) hw
        unfold zcc_V zca_W zd_pl
        rw [hs]
      rw [if_pos c1, if_pos (show i + 1 ≤ k by omega), hr, show k - (i + 1) = r by omega, zca_Q_s, e, ← Nat.add_mul, show 10 - o + o = 10 by omega, Nat.mul_left_comm]
  · rw [if_neg c1, if_neg (show ¬ i + 1 ≤ k by omega), Nat.mul_zero]
theorem zcc_two {o i x k c w : Nat} (hW : zca_W B (zca_ms x) i = (w : Int)) : zcc_a B o i x k c = (if k = i ∧ c = w then 10 - o else 0) + (10 - o) * zcc_a B o (i + 1) x k c + o * zcc_a B o (i + 1) (x + 2 ^ i) k c := by
  unfold zcc_a
  by_cases c1 : i ≤ k
  · by_cases c2 : i = k
    · subst c2
      have v0 : zcc_V B i c x = if c = w then 1 else 0 := by
        unfold zcc_V
        rw [hW]
        by_cases z : c = w
        · rw [if_pos z, if_pos (by rw [z])]
        · rw [if_neg z, if_neg (by omega)]
      rw [if_pos (Nat.le_refl i), if_neg (show ¬ i + 1 ≤ i by omega), if_neg (show ¬ i + 1 ≤ i by omega), Nat.sub_self, zca_Q_0, v0, Nat.mul_zero, Nat.mul_zero, Nat.add_zero]
      by_cases z : c = w
      · rw [if_pos z, if_pos ⟨rfl, z⟩, Nat.mul_one]
      · rw [if_neg z, if_neg (fun q => z q.2), Nat.mul_zero]
    · obtain ⟨r, hr⟩ : ∃ r, k - i = r + 1 := ⟨k - i - 1, by omega⟩
      rw [if_pos c1, if_pos (show i + 1 ≤ k by omega), if_pos (show i + 1 ≤ k by omega), if_neg (fun q => c2 q.1.symm), Nat.zero_add, hr, show k - (i + 1) = r by omega, zca_Q_s, Nat.mul_add, Nat.mul_left_comm (10 - o) o]
  · rw [if_neg c1, if_neg (show ¬ i + 1 ≤ k by omega), if_neg (show ¬ i + 1 ≤ k by omega), if_neg (fun q => c1 (by omega)), Nat.mul_zero, Nat.mul_zero]
end ZCD
/-! copies of days -/
def zcc_cw (I : Nat → Nat → Int32) (c : Nat) : Nat → Nat → Int32 := (zm_w (zm_w (zm_w (zm_w (zm_w (zm_w I 1 c (I 9 c)) 2 c ((zm_w I 1 c (I 9 c)) 10 c)) 3 c ((zm_w (zm_w I 1 c (I 9 c)) 2 c ((zm_w I 1 c (I 9 c)) 10 c)) 11 c)) 4 c ((zm_w (zm_w (zm_w I 1 c (I 9 c)) 2 c ((zm_w I 1 c (I 9 c)) 10 c)) 3 c ((zm_w (zm_w I 1 c (I 9 c)) 2 c ((zm_w I 1 c (I 9 c)) 10 c)) 11 c)) 12 c)) 5 c ((zm_w (zm_w (zm_w (zm_w I 1 c (I 9 c)) 2 c ((zm_w I 1 c (I 9 c)) 10 c)) 3 c ((zm_w (zm_w I 1 c (I 9 c)) 2 c ((zm_w I 1 c (I 9 c)) 10 c)) 11 c)) 4 c ((zm_w (zm_w (zm_w I 1 c (I 9 c)) 2 c ((zm_w I 1 c (I 9 c)) 10 c)) 3 c ((zm_w (zm_w I 1 c (I 9 c)) 2 c ((zm_w I 1 c (I 9 c)) 10 c)) 11 c)) 12 c)) 13 c)) 6 c ((zm_w (zm_w (zm_w (zm_w (zm_w I 1 c (I 9 c)) 2 c ((zm_w I 1 c (I 9 c)) 10 c)) 3 c ((zm_w (zm_w I 1 c (I 9 c)) 2 c ((zm_w I 1 c (I 9 c)) 10 c)) 11 c)) 4 c ((zm_w (zm_w (zm_w I 1 c (I 9 c)) 2 c ((zm_w I 1 c (I 9 c)) 10 c)) 3 c ((zm_w (zm_w I 1 c (I 9 c)) 2 c ((zm_w I 1 c (I 9 c)) 10 c)) 11 c)) 12 c)) 5 c ((zm_w (zm_w (zm_w (zm_w I 1 c (I 9 c)) 2 c ((zm_w I 1 c (I 9 c)) 10 c)) 3 c ((zm_w (zm_w I 1 c (I 9 c)) 2 c ((zm_w I 1 c (I 9 c)) 10 c)) 11 c)) 4 c ((zm_w (zm_w (zm_w I 1 c (I 9 c)) 2 c ((zm_w I 1 c (I 9 c)) 10 c)) 3 c ((zm_w (zm_w I 1 c (I 9 c)) 2 c ((zm_w I 1 c (I 9 c)) 10 c)) 11 c)) 12 c)) 13 c)) 14 c))
theorem zcc_cw1 (I : Nat → Nat → Int32) (c q : Nat) : zcc_cw I c 1 q = if q = c then I 9 q else I 1 q := by
  unfold zcc_cw
  rw [ze_wo (by decide), ze_wo (by decide), ze_wo (by decide), ze_wo (by decide), ze_wo (by decide)]
  by_cases e : q = c
  · rw [if_pos e, e, ze_wi]
  · rw [if_neg e, ze_wj e]
theorem zcc_cw5 (I : Nat → Nat → Int32) (c q : Nat) : zcc_cw I c 5 q = if q = c then I 13 q else I 5 q := by
  unfold zcc_cw
  rw [ze_wo (by decide)]
  by_cases e : q = c
  · rw [if_pos e, e, ze_wi, ze_wo (by decide), ze_wo (by decide), ze_wo (by decide), ze_wo (by decide)]
  · rw [if_neg e, ze_wj e, ze_wo (by decide), ze_wo (by decide), ze_wo (by decide), ze_wo (by decide)]
theorem zcc_cwo (I : Nat → Nat → Int32) (c : Nat) {a b : Nat} (ha : a = 0 ∨ 7 ≤ a) : zcc_cw I c a b = I a b := by
  unfold zcc_cw
  rw [ze_wo (by omega), ze_wo (by omega), ze_wo (by omega), ze_wo (by omega), ze_wo (by omega), ze_wo (by omega)]
section ZCE
variable {I N : Nat → Nat → Int32} {J K : Nat → Nat → Int64}
theorem zcc_cp2 : ∀ (d c : Nat) (I : Nat → Nat → Int32), c + d = 5 → ∃ N, zv_X2_copyFrom_DD_2 I J (Int32.ofNat c) = zv_X2_copyFrom_DD_87 N J (Int32.ofNat 0) ∧ (∀ q, c ≤ q → q < 5 → N 1 q = I 9 q ∧ N 5 q = I 13 q) ∧ (∀ q, q < c → N 1 q = I 1 q ∧ N 5 q = I 5 q) ∧ ∀ a b, (a = 0 ∨ 7 ≤ a) → N a b = I a b := by
  have e5 : (5 : Int32) = Int32.ofNat 5 := rfl
  intro d
  induction d with
  | zero =>
    intro c I h
    refine ⟨I, ?_, fun q h1 h2 => by omega, fun q _ => ⟨rfl, rfl⟩, fun _ _ _ => rfl⟩
    rw [zq_X2_copyFrom_DD_2, if_pos (by rw [e5]; exact (zp_le (by omega) (by omega)).mpr (by omega)), zq_X2_copyFrom_DD_85]
    rfl
  | succ d ih =>
    intro c I h
    obtain ⟨N, q1, q2, q3, q4⟩ := ih (c + 1) (zcc_cw I c) (by omega)
    refine ⟨N, ?_, fun q h1 h2 => ?_, fun q hq => ?_, fun a b ha => (q4 a b ha).trans (zcc_cwo I c ha)⟩
    · rw [zq_X2_copyFrom_DD_2, if_neg (fun z => by rw [e5] at z; have := (zp_le (by omega) (by omega)).mp z; omega), zq_X2_copyFrom_DD_7]
      have hb : ¬ ((Int32.ofNat c : Int32) < 0 ∨ 5 ≤ Int32.toNatClampNeg (Int32.ofNat c)) := zp_in (by omega) (by omega)
      rw [if_neg hb, if_neg hb, if_neg hb, if_neg hb, if_neg hb, if_neg hb, if_neg hb, if_neg hb, if_neg hb, if_neg hb, if_neg hb, if_neg hb, zp_cl (by omega), zp_o1 (by omega)]
      exact q1
    · by_cases e : q = c
      · have := q3 q (by omega)
        rw [this.1, this.2, zcc_cw1, zcc_cw5, if_pos e, if_pos e]
        exact ⟨rfl, rfl⟩
      · have := q2 q (by omega) h2
        rw [this.1, this.2, zcc_cwo I c (by omega), zcc_cwo I c (by omega)]
        exact ⟨rfl, rfl⟩
    · have := q3 q (by omega)
      rw [this.1, this.2, zcc_cw1, zcc_cw5, if_neg (by omega), if_neg (by omega)]
      exact ⟨rfl, rfl⟩
theorem zcc_cp87 : ∀ (d s : Nat) (I : Nat → Nat → Int32), s + d = 6 → ∃ N, zv_X2_copyFrom_DD_87 I J (Int32.ofNat s) = zv_X2_copyFrom_DD_111 N J (Int32.ofNat 6) ∧ (∀ q, s ≤ q → q < 6 → N 7 q = I 15 q) ∧ (∀ q, q < s → N 7 q = I 7 q) ∧ ∀ a b, a ≠ 7 → N a b = I a b := by
  have e6 : (6 : Int32) = Int32.ofNat 6 := rfl
  intro d
  induction d with
  | zero =>
    intro s I h
    refine ⟨I, ?_, fun q h1 h2 => by omega, fun q _ => rfl, fun _ _ _ => rfl⟩
    rw [zq_X2_copyFrom_DD_87, if_pos (by rw [e6]; exact (zp_le (by omega) (by omega)).mpr (by omega)), show s = 6 by omega]
  | succ d ih =>
    intro s I h
    obtain ⟨N, q1, q2, q3, q4⟩ := ih (s + 1) (zm_w I 7 s (I 15 s)) (by omega)
    refine ⟨N, ?_, fun q h1 h2 => ?_, fun q hq => ?_, fun a b ha => (q4 a b ha).trans (ze_wo ha)⟩
    · have hb : ¬ ((Int32.ofNat s : Int32) < 0 ∨ 6 ≤ Int32.toNatClampNeg (Int32.ofNat s)) := zp_in (by omega) (by omega)
      rw [zq_X2_copyFrom_DD_87, if_neg (fun z => by rw [e6] at z; have := (zp_le (by omega) (by omega)).mp z; omega), zq_X2_copyFrom_DD_93, if_neg hb, if_neg hb, zp_cl (by omega), zp_o1 (by omega)]
      exact q1
    · by_cases e : q = s
      · rw [q3 q (by omega), e, ze_wi]
      · rw [q2 q (by omega) h2, ze_wo (by decide)]
    · rw [q3 q (by omega), ze_wj (by omega)]
theorem zcc_copy : ∃ N K, zF_X2_copyFrom zW_DD [.ref 0, .ref 8] (I, J) = some (none, (N, K)) ∧ (∀ q, q < 5 → N 1 q = I 9 q ∧ N 5 q = I 13 q) ∧ (∀ s, s < 6 → N 7 s = I 15 s) ∧ N 0 7 = I 8 7 ∧ K 0 8 = J 8 8 ∧ K 0 9 = J 8 9 ∧ ∀ a b, 8 ≤ a → N a b = I a b ∧ K a b = J a b := by
  obtain ⟨N1, q1, q2, q3, q4⟩ := zcc_cp2 (J := J) 5 0 I rfl
  obtain ⟨N2, r1, r2, r3, r4⟩ := zcc_cp87 (J := J) 6 0 N1 rfl
  refine ⟨zm_w N2 0 7 (N2 8 7), zm_wl (zm_wl J 0 8 (J 8 8)) 0 9 ((zm_wl J 0 8 (J 8 8)) 8 9), ?_, fun q hq => ?_, fun s hs => ?_, ?_, ?_, ?_, fun a b ha => ⟨?_, ?_⟩⟩
  · rw [zf_X2_copyFrom_DD, zq_X2_copyFrom_DD_0]
    refine Eq.trans q1 (r1.trans ?_)
    rw [zq_X2_copyFrom_DD_111]
  · rw [ze_wo (by decide), ze_wo (by decide), r4 1 q (by decide), r4 5 q (by decide)]
    exact q2 q (Nat.zero_le q) hq
  · rw [ze_wo (by decide), r2 s (Nat.zero_le s) hs, q4 15 s (by omega)]
  · rw [ze_wi, r4 8 7 (by decide), q4 8 7 (by omega)]
  · exact (if_neg (by decide)).trans (if_pos ⟨rfl, rfl⟩)
  · exact (if_pos ⟨rfl, rfl⟩).trans (if_neg (by decide))
  · rw [ze_wo (by omega), r4 a b (by omega), q4 a b (by omega)]
  · exact (if_neg (fun z => by have := z.1; omega)).trans (if_neg (fun z => by have := z.1; omega))
end ZCE
/-! where two days lie, where one lies -/
theorem zcc_s2 {a b n : Nat} (h : n < 16) (M : zm_I) : (zm_sub2 [(a, 8), (b, 8)] M).1 n = M.1 (if n < 8 then a + n else b + (n - 8)) ∧ (zm_sub2 [(a, 8), (b, 8)] M).2 n = M.2 (if n < 8 then a + n else b + (n - 8)) := by
  have e : zm_fw [(a, 8), (b, 8)] n = if n < 8 then a + n else b + (n - 8) := by
    by_cases c : n < 8
    · rw [if_pos c]
      unfold zm_fw
      rw [if_pos c]
    · rw [if_neg c]
      unfold zm_fw
      rw [if_neg c]
      unfold zm_fw
      rw [if_pos (by omega)]
  exact ⟨by show M.1 (zm_fw [(a, 8), (b, 8)] n) = _; rw [e], by show M.2 (zm_fw [(a, 8), (b, 8)] n) = _; rw [e]⟩
theorem zcc_s1 {a n : Nat} (h : n < 8) (M : zm_I) : (zm_sub2 [(a, 8)] M).1 n = M.1 (a + n) ∧ (zm_sub2 [(a, 8)] M).2 n = M.2 (a + n) := by
  have e : zm_fw [(a, 8)] n = a + n := by
    unfold zm_fw
    rw [if_pos h]
  exact ⟨by show M.1 (zm_fw [(a, 8)] n) = _; rw [e], by show M.2 (zm_fw [(a, 8)] n) = _; rw [e]⟩
theorem zcc_m1 {a : Nat} (M N : zm_I) (n i : Nat) : (a ≤ n → n < a + 8 → (zm_mrg [(a, 8)] M N).1 n i = N.1 (n - a) i ∧ (zm_mrg [(a, 8)] M N).2 n i = N.2 (n - a) i) ∧ ((n < a ∨ a + 8 ≤ n) → (zm_mrg [(a, 8)] M N).1 n i = M.1 n i ∧ (zm_mrg [(a, 8)] M N).2 n i = M.2 n i) := by
  have hin : zm_in [(a, 8)] n = true ↔ (a ≤ n ∧ n < a + 8) := by
    simp only [zm_in, Bool.or_eq_true, Bool.and_eq_true, Nat.ble_eq, Bool.or_false]
    omega
  rcases zh_mrg1 [(a, 8)] M N n i with ⟨c1, c2, c3⟩ | ⟨c1, c2, c3⟩
  · have c := hin.mp c1
    refine ⟨fun h1 h2 => ?_, fun h => by omega⟩
    have e : zm_iv [(a, 8)] n = n - a := by
      unfold zm_iv
      rw [if_pos ⟨h1, h2⟩]
    rw [c2, c3, e]
    exact ⟨rfl, rfl⟩
  · have c : ¬ (a ≤ n ∧ n < a + 8) := fun h => by
      rw [hin.mpr h] at c1
      cases c1
    exact ⟨fun h1 h2 => absurd ⟨h1, h2⟩ c, fun _ => ⟨c2, c3⟩⟩
theorem zcc_m2 {h : Nat} (M N : zm_I) (n i : Nat) : (h + 8 ≤ n → n < h + 16 → (zm_mrg [((h + 8), 8), (h, 8)] M N).1 n i = N.1 (n - (h + 8)) i ∧ (zm_mrg [((h + 8), 8), (h, 8)] M N).2 n i = N.2 (n - (h + 8)) i) ∧ (h ≤ n → n < h + 8 → (zm_mrg [((h + 8), 8), (h, 8)] M N).1 n i = N.1 (n - h + 8) i ∧ (zm_mrg [((h + 8), 8), (h, 8)] M N).2 n i = N.2 (n - h + 8) i) ∧ ((n < h ∨ h + 16 ≤ n) → (zm_mrg [((h + 8), 8), (h, 8)] M N).1 n i = M.1 n i ∧ (zm_mrg [((h + 8), 8), (h, 8)] M N).2 n i = M.2 n i) := by
  have hin : zm_in [((h + 8), 8), (h, 8)] n = true ↔ (h + 8 ≤ n ∧ n < h + 16) ∨ (h ≤ n ∧ n < h + 8) := by
    simp only [zm_in, Bool.or_eq_true, Bool.and_eq_true, Nat.ble_eq, Bool.or_false]
    omega
  rcases zh_mrg1 [((h + 8), 8), (h, 8)] M N n i with ⟨c1, c2, c3⟩ | ⟨c1, c2, c3⟩
  · have c := hin.mp c1
    refine ⟨fun h1 h2 => ?_, fun h1 h2 => ?_, fun h => by omega⟩
    · have e : zm_iv [((h + 8), 8), (h, 8)] n = n - (h + 8) := by
        unfold zm_iv
        rw [if_pos ⟨h1, by omega⟩]
      rw [c2, c3, e]
      exact ⟨rfl, rfl⟩
    · have e : zm_iv [((h + 8), 8), (h, 8)] n = n - h + 8 := by
        unfold zm_iv
        rw [if_neg (by omega)]
        unfold zm_iv
        rw [if_pos ⟨h1, by omega⟩]
        omega
      rw [c2, c3, e]
      exact ⟨rfl, rfl⟩
  · have c : ¬ ((h + 8 ≤ n ∧ n < h + 16) ∨ (h ≤ n ∧ n < h + 8)) := fun h => by
      rw [hin.mpr h] at c1
      cases c1
    exact ⟨fun h1 h2 => absurd (Or.inl ⟨h1, h2⟩) c, fun h1 h2 => absurd (Or.inr ⟨h1, h2⟩) c, fun _ => ⟨c2, c3⟩⟩
/-! bounds -/
theorem zcc_e17 : ∀ n, n < 8 → zo_g17[n]? = zo_g7[n]? ∧ zo_g17[8 + n]? = zo_g7[n]? ∧ zo_g18[n]? = zo_g7[n]? := by decide +kernel
theorem zcc_Gs {G : zt_G} (hg : ∀ n, n < 8 → G[n]? = zo_g7[n]?) {P M R : zm_I} (hP : zt_Gs G P) (hM : zt_Gs zo_g7 M) (e1 : ∀ n, n < 8 → R.1 n = P.1 n) (e2 : ∀ n, 8 ≤ n → n < 18 → R.1 n = M.1 n) : zt_Gs zo_g7 R := fun n g hg' i b hb => by
  have hn : n < 18 := (List.getElem?_eq_some_iff.mp hg').1
  by_cases c : n < 8
  · rw [e1 n c]
    exact hP n g ((hg n c).trans hg') i b hb
  · rw [e2 n (by omega) hn]
    exact hM n g hg' i b hb
theorem zcc_g17 {h : Nat} {M : zm_I} (h1 : zt_Gs zo_g7 (zm_sub2 [((h + 8), 8), (92, 10)] M)) (h2 : zt_Gs zo_g7 (zm_sub2 [(h, 8), (92, 10)] M)) : zt_Gs zo_g17 (zm_sub2 [((h + 8), 8), (h, 8)] M) := fun n g hg i b hb => by
  have hn : n < 16 := (List.getElem?_eq_some_iff.mp hg).1
  rw [(zcc_s2 hn M).1]
  by_cases c : n < 8
  · have w := h1 n g ((zcc_e17 n c).1.symm.trans hg) i b hb
    rw [(zcb_s (show n < 18 by omega) M).1, if_pos c] at w
    rw [if_pos c]
    exact w
  · have hg2 : zo_g7[n - 8]? = some g := by
      have := (zcc_e17 (n - 8) (by omega)).2.1
      rw [show 8 + (n - 8) = n by omega] at this
      exact this.symm.trans hg
    have w := h2 (n - 8) g hg2 i b hb
    rw [(zcb_s (show n - 8 < 18 by omega) M).1, if_pos (by omega)] at w
    rw [if_neg c]
    exact w
theorem zcc_g18 {h : Nat} {M : zm_I} (h2 : zt_Gs zo_g7 (zm_sub2 [(h, 8), (92, 10)] M)) : zt_Gs zo_g18 (zm_sub2 [(h, 8)] M) := fun n g hg i b hb => by
  have hn : n < 8 := (List.getElem?_eq_some_iff.mp hg).1
  have w := h2 n g ((zcc_e17 n hn).2.2.symm.trans hg) i b hb
  rw [(zcb_s (show n < 18 by omega) M).1, if_pos hn] at w
  rw [(zcc_s1 hn M).1]
  exact w
section ZCF
variable {B : zdB} {z : zdZ} {h : Nat} {I N : Nat → Nat → Int32} {J K : Nat → Nat → Int64}
/-- a day by what counts of it -/
theorem zcc_S (hz : zdS B z I J) (hG : zt_Gs zo_g7 (N, K)) (h8 : ∀ n, 8 ≤ n → n < 18 → N n = I n) (h1 : ∀ q, q < 5 → N 1 q = I 1 q ∧ N 5 q = I 5 q) (h7 : ∀ s, s < 6 → N 7 s = I 7 s) (h0 : N 0 7 = I 0 7) (k8 : K 0 8 = J 0 8) (k9 : K 0 9 = J 0 9) : zdS B z N K := by
  obtain ⟨a1, a2, a3, a4, a5, a6, a7⟩ := hz
  refine ⟨⟨⟨?_, ?_, ?_, ?_⟩, fun c hc => ?_, fun c hc => ?_, fun k hk => ?_⟩, zdX_c a2 (fun c hc => (h1 c hc).1) h7, fun q hq => ?_, fun q hq => ?_, ?_, fun m hm hb => ?_, hG⟩
  · rw [h8 8 (by decide) (by decide)]; exact a1.1.1
  · rw [h8 8 (by decide) (by decide)]; exact a1.1.2.1
  · rw [h8 8 (by decide) (by decide)]; exact a1.1.2.2.1
  · rw [h8 8 (by decide) (by decide)]; exact a1.1.2.2.2
  · rw [h8 11 (by decide) (by decide)]; exact a1.2.1 c hc
  · rw [h8 12 (by decide) (by decide)]; exact a1.2.2.1 c hc
  · rw [h8 15 (by decide) (by decide), h8 16 (by decide) (by decide), h8 17 (by decide) (by decide)]; exact a1.2.2.2 k hk
  · rw [(h1 q hq).2]; exact a3 q hq
  · rw [k9]; exact a4 q hq
  · rw [h0]; exact a5
  · rw [k8] at hb; exact a6 m hm hb
/-- a day copied to the next one's cells -/
theorem zcc_cpD (hh : h + 16 ≤ 92) (g8 : zt_Gs zo_g7 (zm_sub2 [((h + 8), 8), (92, 10)] (I, J))) (hD : zcb_D B h z I J) : ∃ N2, zF_X2_copyFrom zW_DD [.ref 0, .ref 8] (zm_sub2 [((h + 8), 8), (h, 8)] (I, J)) = some (none, N2) ∧ zcb_D B (h + 8) z (zm_mrg [((h + 8), 8), (h, 8)] (I, J) N2).1 (zm_mrg [((h + 8), 8), (h, 8)] (I, J) N2).2 ∧ zcb_f (h + 8) I (zm_mrg [((h + 8), 8), (h, 8)] (I, J) N2).1 J (zm_mrg [((h + 8), 8), (h, 8)] (I, J) N2).2 := by
  have hS : zdS B z (zm_sub2 [(h, 8), (92, 10)] (I, J)).1 (zm_sub2 [(h, 8), (92, 10)] (I, J)).2 := hD
  have hG : zt_Gs zo_g7 (zm_sub2 [(h, 8), (92, 10)] (I, J)) := hS.2.2.2.2.2.2
  have s := fun n (hn : n < 16) => zcc_s2 (a := h + 8) (b := h) hn (I, J)
  obtain ⟨N, K, q1, q2, q3, q4, q5, q6, q7⟩ := zcc_copy (I := (zm_sub2 [((h + 8), 8), (h, 8)] (I, J)).1) (J := (zm_sub2 [((h + 8), 8), (h, 8)] (I, J)).2)
  have q1 : zF_X2_copyFrom zW_DD [.ref 0, .ref 8] (zm_sub2 [((h + 8), 8), (h, 8)] (I, J)) = some (none, (N, K)) := q1
  have gs := (zd_det (w0 := zW_DD) (G := zo_g17) (zi_192 0 zo_hd) rfl rfl rfl rfl (zq_s1 zq_r0 (zq_s1 zq_r0 zq_s0)) (zcc_g17 g8 hG) q1).1
  have m := fun n i => zcc_m2 (h := h) (I, J) (N, K) n i
  have d8 : ∀ n i, 8 ≤ n → n < 16 → N n i = I (h + (n - 8)) i ∧ K n i = J (h + (n - 8)) i := fun n i h1 h2 => by
    have w := q7 n i h1
    rw [(s n h2).1, (s n h2).2, if_neg (by omega)] at w
    exact w
  have fr : zcb_f (h + 8) I (zm_mrg [((h + 8), 8), (h, 8)] (I, J) (N, K)).1 J (zm_mrg [((h + 8), 8), (h, 8)] (I, J) (N, K)).2 := fun a b hab => by
    by_cases c : h ≤ a ∧ a < h + 8
    · have w := (m a b).2.1 c.1 c.2
      have v := d8 (a - h + 8) b (by omega) (by omega)
      rw [show h + (a - h + 8 - 8) = a by omega] at v
      exact ⟨w.1.trans v.1, w.2.trans v.2⟩
    · exact (m a b).2.2 (by omega)
  have t := fun n (hn : n < 18) => zcb_s (a := h + 8) hn (zm_mrg [((h + 8), 8), (h, 8)] (I, J) (N, K))
  have t0 := fun n (hn : n < 18) => zcb_s (a := h) hn (I, J)
  have lo : ∀ n i, n < 8 → (zm_sub2 [((h + 8), 8), (92, 10)] (zm_mrg [((h + 8), 8), (h, 8)] (I, J) (N, K))).1 n i = N n i ∧ (zm_sub2 [((h + 8), 8), (92, 10)] (zm_mrg [((h + 8), 8), (h, 8)] (I, J) (N, K))).2 n i = K n i := fun n i hn => by
    have w := (m (h + 8 + n) i).1 (by omega) (by omega)
    rw [show h + 8 + n - (h + 8) = n by omega] at w
    rw [(t n (by omega)).1, (t n (by omega)).2, if_pos hn]
    exact w
  have hi : ∀ n, 8 ≤ n → n < 18 → (zm_sub2 [((h + 8), 8), (92, 10)] (zm_mrg [((h + 8), 8), (h, 8)] (I, J) (N, K))).1 n = (zm_sub2 [(h, 8), (92, 10)] (I, J)).1 n := fun n h1 h2 => by
    rw [(t n h2).1, (t0 n h2).1, if_neg (by omega), if_neg (by omega)]
    funext i
    exact (fr (84 + n) i (by omega)).1
  have old : ∀ n i, n < 8 → (zm_sub2 [((h + 8), 8), (h, 8)] (I, J)).1 (8 + n) i = (zm_sub2 [(h, 8), (92, 10)] (I, J)).1 n i ∧ (zm_sub2 [((h + 8), 8), (h, 8)] (I, J)).2 (8 + n) i = (zm_sub2 [(h, 8), (92, 10)] (I, J)).2 n i := fun n i hn => by
    rw [(s (8 + n) (by omega)).1, (s (8 + n) (by omega)).2, (t0 n (by omega)).1, (t0 n (by omega)).2, if_neg (by omega), if_pos hn, show 8 + n - 8 = n by omega]
    exact ⟨rfl, rfl⟩
  refine ⟨(N, K), q1, zcc_S hS (zcc_Gs (fun n hn => (zcc_e17 n hn).1) gs hG (fun n hn => funext fun i => (lo n i hn).1) hi) hi (fun q hq => ⟨?_, ?_⟩) (fun s hs => ?_) ?_ ?_ ?_, fr⟩
  · rw [(lo 1 q (by decide)).1, (q2 q hq).1]
    exact (old 1 q (by decide)).1
  · rw [(lo 5 q (by decide)).1, (q2 q hq).2]
    exact (old 5 q (by decide)).1
  · rw [(lo 7 s (by decide)).1, q3 s hs]
    exact (old 7 s (by decide)).1
  · rw [(lo 0 7 (by decide)).1, q4]
    exact (old 0 7 (by decide)).1
  · rw [(lo 0 8 (by decide)).2, q5]
    exact (old 0 8 (by decide)).2
  · rw [(lo 0 9 (by decide)).2, q6]
    exact (old 0 9 (by decide)).2
end ZCF
section ZCG
variable {B : zdB} {I N : Nat → Nat → Int32} {J K : Nat → Nat → Int64} {p : Nat → Int}
theorem zcc_leave (h : zdX B I p) {c : Nat} (hc : c < 5) : zF_X2_leaveSeat zW_D [.ref 0, .int (Int32.ofNat c)] (I, J) = some (none, ((if p c < 0 then I else zm_w I 7 (p c).toNat (-1)), J)) := by
  have e1 : (I 1 c).toInt = p c := h.1 c hc
  have r := h.2.2.1 c
  rw [zf_X2_leaveSeat_D, zq_X2_leaveSeat_D_0, if_neg (zp_in (by omega) hc), zp_cl (by omega)]
  by_cases n : p c < 0
  · rw [if_pos n, if_pos (by rw [ze_lt, e1, ze_i0]; exact n), zq_X2_leaveSeat_D_21]
  · have ec : Int32.toNatClampNeg (I 1 c) = (p c).toNat := zh_cl (n := (p c).toNat) (by rw [e1]; omega)
    rw [if_neg n, if_neg (by rw [ze_lt, e1, ze_i0]; exact n), zq_X2_leaveSeat_D_9, if_neg (zp_in (by omega) hc), zp_cl (by omega), if_neg (zh_in (n := 6) (by omega) (by omega)), ec, zq_X2_leaveSeat_D_21]
theorem zcc_admit (hv : zdXv B) (hx : zdX B I p) {c n g : Nat} (hc : c < B.1.1) {w : Nat → Int} (hw : ∀ q, q < 5 → (I 5 q).toInt = w q) (hg : (I 0 7).toInt = g) (hg5 : g ≤ 5) (hn : n ≤ 60) : ∃ N, zF_X2_admit zW_D [.ref 0, .int (Int32.ofNat c), .int (Int32.ofNat n)] (I, J) = some (none, (N, J)) ∧ zdX B N (zd_up p c (-3)) ∧ (∀ q, q < 5 → (N 5 q).toInt = zd_up w c n q) ∧ (N 0 7).toInt = (g + 1 : Nat) := by
  obtain ⟨⟨hC, hS, hst, hac, hsa⟩, hA, hE, hcm, ham⟩ := id hv
  obtain ⟨n1, n7⟩ := zdx_N0 hx c
  have hne : ¬ (Int32.ofNat c : Int32) = -1 := fun z => by
    have : (Int32.ofNat c).toInt = -1 := by rw [z, zh_m1]
    rw [zp_o (by omega)] at this
    omega
  rw [zf_X2_admit_D, zq_X2_admit_D_0, if_neg hne, zc_X2_admit_D_6 _ _ _ _ (zcc_leave hx (by omega)), zq_X2_admit_D_11, if_neg (zp_in (by omega) (by omega)), if_neg (zp_in (by omega) (by omega)), if_neg (zp_in (by omega) (by omega)), if_neg (zp_in (by omega) (by omega)), zp_cl (by omega)]
  generalize (if p c < 0 then I else zm_w I 7 (p c).toNat (-1)) = N0 at n1 n7
  have e3 : (-3 : Int32).toInt = -3 := by decide
  refine ⟨_, rfl, zdx_put hx hC hc (by decide) (Or.inl (by decide)) (fun q hq => ?_) (fun s hs => ?_), fun q hq => ?_, ?_⟩
  · rw [ze_wo (by decide), ze_wo (by decide), ze_wo (by decide)]
    by_cases e : q = c
    · rw [if_pos e, e, ze_wi, e3]
    · rw [if_neg e, ze_wj e, n1 1 q (by decide)]
      exact hx.1 q hq
  · rw [if_neg (by omega), ze_wo (by decide), ze_wo (by decide), ze_wo (by decide), ze_wo (by decide)]
    exact n7 s
  · rw [ze_wo (by decide), ze_wo (by decide)]
    by_cases e : q = c
    · rw [e, ze_wi, zd_up_i, zp_o (by omega)]
    · rw [ze_wj e, ze_wo (by decide), zd_up_o e, n1 5 q (by decide)]
      exact hw q hq
  · rw [ze_wi, ze_wo (by decide), ze_wo (by decide), ze_wo (by decide), n1 0 7 (by decide), ze_add (by rw [hg, ze_i1]; omega) (by rw [hg, ze_i1]; omega), hg, ze_i1]
    omega
/-- who is called goes in, on a copied day -/
theorem zcc_ad (hv : zdXv B) {h : Nat} (hh : h + 8 ≤ 92) {ms : Nat → Bool} {n : Nat} (hn : n ≤ 60) (hc : 0 < n ∧ n % B.2.2.2.2.2.2 = 0 ∧ ms (n / B.2.2.2.2.2.2 - 1) = false) {w : Nat} (hw : zd_ft B (zd_pl B ms n) = (w : Int)) (hD : zcb_D B h (zcb_A B ms n) I J) : w < 5 ∧ ∃ N2, zF_X2_admit zW_D [.ref 0, .int (Int32.ofNat w), .int (Int32.ofNat n)] (zm_sub2 [(h, 8)] (I, J)) = some (none, N2) ∧ zcb_D B h (zd_st B ms (n + 1)) (zm_mrg [(h, 8)] (I, J) N2).1 (zm_mrg [(h, 8)] (I, J) N2).2 ∧ zcb_f h I (zm_mrg [(h, 8)] (I, J) N2).1 J (zm_mrg [(h, 8)] (I, J) N2).2 := by
  have hS : zdS B (zcb_A B ms n) (zm_sub2 [(h, 8), (92, 10)] (I, J)).1 (zm_sub2 [(h, 8), (92, 10)] (I, J)).2 := hD
  obtain ⟨a1, a2, a3, a4, a5, a6, a7⟩ := id hS
  have hC := hv.1.1
  have hwC : w < B.1.1 ∧ -1 ≤ zd_pl B ms n w := by
    rcases zd_ft_b B (zd_pl B ms n) with e | ⟨e1, e2, e3⟩
    · omega
    · rw [hw] at e2 e3
      exact ⟨by omega, e3⟩
  have t0 := fun n (hn : n < 18) => zcb_s (a := h) hn (I, J)
  have s1 := fun n (hn : n < 8) => zcc_s1 (a := h) hn (I, J)
  have e : ∀ n, n < 8 → (zm_sub2 [(h, 8)] (I, J)).1 n = (zm_sub2 [(h, 8), (92, 10)] (I, J)).1 n ∧ (zm_sub2 [(h, 8)] (I, J)).2 n = (zm_sub2 [(h, 8), (92, 10)] (I, J)).2 n := fun n hn => by
    rw [(s1 n hn).1, (s1 n hn).2, (t0 n (by omega)).1, (t0 n (by omega)).2, if_pos hn]
    exact ⟨rfl, rfl⟩
  have gl := zd_ct_le (zcb_A B ms n).1 B.1.1
  obtain ⟨N, q1, q2, q3, q4⟩ := zcc_admit (J := (zm_sub2 [(h, 8)] (I, J)).2) hv (zdX_c (N := (zm_sub2 [(h, 8)] (I, J)).1) a2 (fun c _ => by rw [(e 1 (by decide)).1]) (fun c _ => by rw [(e 7 (by decide)).1])) (n := n) hwC.1 (w := (zcb_A B ms n).2.1) (fun q hq => by rw [(e 5 (by decide)).1]; exact a3 q hq) (by rw [(e 0 (by decide)).1]; exact a5) (by omega) hn
  have q1 : zF_X2_admit zW_D [.ref 0, .int (Int32.ofNat w), .int (Int32.ofNat n)] (zm_sub2 [(h, 8)] (I, J)) = some (none, (N, (zm_sub2 [(h, 8)] (I, J)).2)) := q1
  have gs := (zd_det (w0 := zW_D) (G := zo_g18) (zi_194 0 zo_hd) rfl rfl rfl rfl (zq_s1 zq_r0 (zq_s1 (zd_i (by omega) (by show (0 : Int) ≤ _; omega) (by show _ ≤ (4 : Int); omega)) (zq_s1 (zd_i (by omega) (by show (0 : Int) ≤ _; omega) (by show _ ≤ (300 : Int); omega)) zq_s0))) (zcc_g18 a7) q1).1
  refine ⟨by omega, (N, (zm_sub2 [(h, 8)] (I, J)).2), q1, ?_, fun a b hab => (zcc_m1 (I, J) _ a b).2 hab⟩
  have t := fun k (hk : k < 18) => zcb_s (a := h) hk (zm_mrg [(h, 8)] (I, J) (N, (zm_sub2 [(h, 8)] (I, J)).2))
  have lo : ∀ k i, k < 8 → (zm_sub2 [(h, 8), (92, 10)] (zm_mrg [(h, 8)] (I, J) (N, (zm_sub2 [(h, 8)] (I, J)).2))).1 k i = N k i ∧ (zm_sub2 [(h, 8), (92, 10)] (zm_mrg [(h, 8)] (I, J) (N, (zm_sub2 [(h, 8)] (I, J)).2))).2 k i = (zm_sub2 [(h, 8), (92, 10)] (I, J)).2 k i := fun k i hk => by
    have w := (zcc_m1 (a := h) (I, J) (N, (zm_sub2 [(h, 8)] (I, J)).2) (h + k) i).1 (by omega) (by omega)
    rw [show h + k - h = k by omega] at w
    rw [(t k (by omega)).1, (t k (by omega)).2, if_pos hk, ← (e k hk).2]
    exact w
  have hi : ∀ k, 8 ≤ k → k < 18 → (zm_sub2 [(h, 8), (92, 10)] (zm_mrg [(h, 8)] (I, J) (N, (zm_sub2 [(h, 8)] (I, J)).2))).1 k = (zm_sub2 [(h, 8), (92, 10)] (I, J)).1 k := fun k h1 h2 => by
    rw [(t k h2).1, (t0 k h2).1, if_neg (by omega)]
    funext i
    exact ((zcc_m1 (I, J) _ (84 + k) i).2 (by omega)).1
  have ez : zd_st B ms (n + 1) = (zd_up (zcb_A B ms n).1 w (-3), zd_up (zcb_A B ms n).2.1 w n, (zcb_A B ms n).2.2) := by
    show zd_nx B ms n (zd_st B ms n) = _
    unfold zd_nx
    have f : zd_fin B ms n ((zd_at B n (zd_st B ms n)).1, (zd_st B ms n).2.1) = (zd_up (zd_at B n (zd_st B ms n)).1 w (-3), zd_up (zd_st B ms n).2.1 w n) := by
      have hw : zd_ft B (zd_at B n (zd_st B ms n)).1 = (w : Int) := hw
      unfold zd_fin
      rw [if_pos hc]
      show (if zd_ft B (zd_at B n (zd_st B ms n)).1 = -1 then _ else (zd_up _ (zd_ft B (zd_at B n (zd_st B ms n)).1).toNat (-3), zd_up _ (zd_ft B (zd_at B n (zd_st B ms n)).1).toNat n)) = _
      rw [hw, if_neg (by omega), Int.toNat_natCast]
    rw [f]
    rfl
  rw [ez]
  refine ⟨⟨⟨?_, ?_, ?_, ?_⟩, fun c hc => ?_, fun c hc => ?_, fun k hk => ?_⟩, zdX_c q2 (fun c _ => (lo 1 c (by decide)).1) (fun c _ => (lo 7 c (by decide)).1), fun q hq => ?_, fun q hq => ?_, ?_, fun m hm hb => ?_, zcc_Gs (fun k hk => (zcc_e17 k hk).2.2) gs a7 (fun k hk => funext fun i => (lo k i hk).1) hi⟩
  · rw [hi 8 (by decide) (by decide)]; exact a1.1.1
  · rw [hi 8 (by decide) (by decide)]; exact a1.1.2.1
  · rw [hi 8 (by decide) (by decide)]; exact a1.1.2.2.1
  · rw [hi 8 (by decide) (by decide)]; exact a1.1.2.2.2
  · rw [hi 11 (by decide) (by decide)]; exact a1.2.1 c hc
  · rw [hi 12 (by decide) (by decide)]; exact a1.2.2.1 c hc
  · rw [hi 15 (by decide) (by decide), hi 16 (by decide) (by decide), hi 17 (by decide) (by decide)]; exact a1.2.2.2 k hk
  · rw [(lo 5 q (by decide)).1]; exact q3 q hq
  · rw [(lo 0 9 (by decide)).2]; exact a4 q hq
  · rw [(lo 0 7 (by decide)).1, q4]
    show ((zd_ct (zcb_A B ms n).1 B.1.1 + 1 : Nat) : Int) = (zd_ct (zd_up (zcb_A B ms n).1 w (-3)) B.1.1 : Nat)
    rw [zd_ct_up (by show zd_pl B ms n w ≠ -3; omega) hwC.1]
  · rw [(lo 0 8 (by decide)).2] at hb; exact a6 m hm hb
end ZCG
