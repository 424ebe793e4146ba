/-! THE REFERENCE'S TAPE, exactly -/
def zpM (T : Nat → Int) (n : Nat) (A : zpA) (I : Nat → Nat → Int32) (J : Nat → Nat → Int64) : Prop := I 0 6 = Int32.ofNat n ∧ (∀ i, i < n → zp_sg (I 5 i).toInt (T i)) ∧ I 0 8 = Int32.ofNat A.1 ∧ I 0 9 = Int32.ofNat A.2.1 ∧ I 0 7 = Int32.ofNat A.2.2.1 ∧ I 0 12 = A.2.2.2.1 ∧ I 0 13 = A.2.2.2.2 ∧ (A.1 = 2 → (I 0 10).toInt = zp_nm T A.2.1 (A.2.2.1 - A.2.1)) ∧ (A.1 = 1 → (J 0 11).toInt = if A.2.2.1 - A.2.1 ≤ 12 then zp_wv T A.2.1 (A.2.2.1 - A.2.1) else -1)
/-- what next keeps: all cells but the object's own -/
def zp_frL (J P : Nat → Nat → Int64) : Prop := ∀ a b, a ≠ 0 → P a b = J a b
section ZPD
variable {T : Nat → Int} {n : Nat} {A : zpA} {I : Nat → Nat → Int32} {J : Nat → Nat → Int64}
theorem zp_byM (h6 : I 0 6 = Int32.ofNat n) (hn : n ≤ 800) {i : Nat} (hi : i ≤ 1000) (lo hi' : Int32) : zF_X10_isByte zW_M [.ref 0, .int (Int32.ofNat i), .int lo, .int hi'] (I, J) = some (some (.int (if i < n ∧ lo.toInt ≤ (I 5 i).toInt ∧ (I 5 i).toInt ≤ hi'.toInt then 1 else 0)), (I, J)) := by
  have e0 : zv_X10_isByte_M_32 I J (Int32.ofNat i) lo hi' = some (some (.int 0), (I, J)) := by rw [zq_X10_isByte_M_32, zq_X10_isByte_M_33, if_pos (Or.inl rfl)]
  rw [zf_X10_isByte_M, zq_X10_isByte_M_0, h6]
  by_cases hl : i < n
  · rw [if_neg (fun z => by have := (zp_le (by omega) hi).mp z; omega), zq_X10_isByte_M_8, if_neg (zp_in hi (by omega)), zp_cl hi]
    by_cases c : I 5 i < lo
    · rw [if_pos c, e0]
      rw [ze_lt] at c
      rw [if_neg (by omega)]
    · rw [if_neg c, zq_X10_isByte_M_18, if_neg (zp_in hi (by omega)), zp_cl hi]
      rw [ze_lt] at c
      by_cases d : hi' < I 5 i
      · rw [if_pos d, e0]
        rw [ze_lt] at d
        rw [if_neg (by omega)]
      · rw [if_neg d, zq_X10_isByte_M_28, zq_X10_isByte_M_33, if_pos (Or.inr rfl)]
        rw [ze_lt] at d
        rw [if_pos (by omega)]
  · rw [if_pos ((zp_le (by omega) hi).mpr (by omega)), e0, if_neg (fun z => hl z.1)]
theorem zp_sg32 {b t x : Int} (h : zp_sg b t) (hx : 0 ≤ x ∧ x < 128) : (x ≤ b ∧ b ≤ x) ↔ t = x := by
  rcases h with ⟨rfl, h2⟩ | ⟨h1, h2⟩ <;> omega
theorem zp_sgR {b t x y : Int} (h : zp_sg b t) (hx : 0 ≤ x) (hy : y < 128) : (x ≤ b ∧ b ≤ y) ↔ (x ≤ t ∧ t ≤ y) := by
  rcases h with ⟨rfl, h2⟩ | ⟨h1, h2⟩ <;> omega
theorem zp_kd1i (t : Int) : zp_kd t = 1 ↔ (97 ≤ t ∧ t ≤ 122) := ⟨zp_kd1, fun h => if_pos h⟩
theorem zp_kd2i (t : Int) : zp_kd t = 2 ↔ (48 ≤ t ∧ t ≤ 57) := ⟨zp_kd2, fun h => (if_neg (by omega)).trans (if_pos h)⟩
/-- skipping blanks -/
theorem zp_n0 (h6 : I 0 6 = Int32.ofNat n) (hT : ∀ i, i < n → zp_sg (I 5 i).toInt (T i)) (hn : n ≤ 800) : ∀ (d i : Nat) (K : Nat → Nat → Int32), n - i ≤ d → i ≤ n → K 0 7 = Int32.ofNat i → (∀ a b, ¬ (a = 0 ∧ b = 7) → K a b = I a b) → ∃ K', zv_X10_next_M_0 K J = zv_X10_next_M_43 K' J ∧ K' 0 7 = Int32.ofNat (zp_sk T n d i) ∧ ∀ a b, ¬ (a = 0 ∧ b = 7) → K' a b = I a b := by
  have c32 : (32 : Int32).toInt = 32 := by decide
  have c10 : (10 : Int32).toInt = 10 := by decide
  intro d
  induction d with
  | zero =>
    intro i K hd hi h7 ho
    have k6 : K 0 6 = Int32.ofNat n := (ho 0 6 (by omega)).trans h6
    refine ⟨K, ?_, h7, ho⟩
    rw [zc_X10_next_M_0 K J (I2 := K) (J2 := J) (r := 0) (by rw [h7, zp_byM k6 hn (by omega), if_neg (by omega)]), zq_X10_next_M_12, if_pos rfl, zc_X10_next_M_15 K J (I2 := K) (J2 := J) (r := 0) (by rw [h7, zp_byM k6 hn (by omega), if_neg (by omega)]), zq_X10_next_M_27, if_pos rfl]
  | succ d ih =>
    intro i K hd hi h7 ho
    have k6 : K 0 6 = Int32.ofNat n := (ho 0 6 (by omega)).trans h6
    by_cases hb : i < n ∧ (T i = 32 ∨ T i = 10)
    · have sg := hT i hb.1
      rw [← ho 5 i (by omega)] at sg
      have step : zv_X10_next_M_0 K J = zv_X10_next_M_30 K J := by
        by_cases c : T i = 32
        · rw [zc_X10_next_M_0 K J (I2 := K) (J2 := J) (r := 1) (by rw [h7, zp_byM k6 hn (by omega), if_pos ⟨hb.1, by rw [c32]; exact (zp_sg32 sg (by omega)).mpr c⟩]), zq_X10_next_M_12, if_neg (by decide)]
        · rw [zc_X10_next_M_0 K J (I2 := K) (J2 := J) (r := 0) (by rw [h7, zp_byM k6 hn (by omega), if_neg (fun z => c ((zp_sg32 sg (x := 32) (by omega)).mp (by rw [c32] at z; exact z.2)))]), zq_X10_next_M_12, if_pos rfl, zc_X10_next_M_15 K J (I2 := K) (J2 := J) (r := 1) (by rw [h7, zp_byM k6 hn (by omega), if_pos ⟨hb.1, by rw [c10]; exact (zp_sg32 sg (by omega)).mpr (hb.2.resolve_left c)⟩]), zq_X10_next_M_27, if_neg (by decide)]
      rw [step, zq_X10_next_M_30, h7, zp_o1 (by omega), zp_sk_s, if_pos hb]
      exact ih (i + 1) _ (by omega) (by omega) ze_wi (fun a b hab => by
        by_cases e : a = 0
        · subst e
          rw [ze_wj (fun q => hab ⟨rfl, q⟩)]
          exact ho 0 b hab
        · rw [ze_wo e]
          exact ho a b hab)
    · refine ⟨K, ?_, by rw [zp_sk_s, if_neg hb]; exact h7, ho⟩
      have no : ∀ x : Int32, (x.toInt = 32 ∨ x.toInt = 10) → ¬ (i < n ∧ x.toInt ≤ (K 5 i).toInt ∧ (K 5 i).toInt ≤ x.toInt) := by
        intro x hx z
        have sg := hT i z.1
        rw [← ho 5 i (by omega)] at sg
        have t := (zp_sg32 sg (x := x.toInt) (by omega)).mp z.2
        exact hb ⟨z.1, by omega⟩
      rw [zc_X10_next_M_0 K J (I2 := K) (J2 := J) (r := 0) (by rw [h7, zp_byM k6 hn (by omega), if_neg (no 32 (Or.inl c32))]), zq_X10_next_M_12, if_pos rfl, zc_X10_next_M_15 K J (I2 := K) (J2 := J) (r := 0) (by rw [h7, zp_byM k6 hn (by omega), if_neg (no 10 (Or.inr c10))]), zq_X10_next_M_27, if_pos rfl]
theorem zp_27 : ∀ j, j < 12 → (27 : Int) ^ j ≤ 5559060566555523 := by decide +kernel
/-- a word's letters -/
theorem zp_n102 (hn : n ≤ 800) {s : Nat} : ∀ (d j : Nat) (l : Int32) (K : Nat → Nat → Int32) (P : Nat → Nat → Int64), n - (s + j) ≤ d → s + j ≤ n → K 0 6 = Int32.ofNat n → (∀ i, i < n → zp_sg (K 5 i).toInt (T i)) → K 0 7 = Int32.ofNat (s + j) → l = Int32.ofNat j → (P 0 11).toInt = (if j ≤ 12 then zp_wv T s j else -1) → (∀ i, i < j → 97 ≤ T (s + i) ∧ T (s + i) ≤ 122) → ∃ (K' : Nat → Nat → Int32) (P' : Nat → Nat → Int64), zv_X10_next_M_102 K P l = some (none, (K', P')) ∧ K' 0 7 = Int32.ofNat (zp_gr T n 1 d (s + j)) ∧ (P' 0 11).toInt = (if zp_gr T n 1 d (s + j) - s ≤ 12 then zp_wv T s (zp_gr T n 1 d (s + j) - s) else -1) ∧ (∀ a b, ¬ (a = 0 ∧ b = 7) → K' a b = K a b) ∧ zp_frL P P' := by
  intro d
  induction d with
  | zero =>
    intro j l K P hd hi k6 hT h7 hl hw hr
    refine ⟨K, P, ?_, h7, ?_, fun _ _ _ => rfl, fun _ _ _ => rfl⟩
    · rw [zc_X10_next_M_102 K P _ (I2 := K) (J2 := P) (r := 0) (by rw [h7, zp_byM k6 hn (by omega), if_neg (by omega)]), zq_X10_next_M_114, if_pos rfl, zq_X10_next_M_185, zq_X10_next_M_307]
    · rw [zp_gr_0, show s + j - s = j by omega]
      exact hw
  | succ d ih =>
    intro j l K P hd hi k6 hT h7 hl hw hr
    by_cases hb : s + j < n ∧ zp_kd (T (s + j)) = 1
    · have sg := hT (s + j) hb.1
      have lt := (zp_kd1i _).mp hb.2
      have by1 : (K 5 (s + j)).toInt = T (s + j) := by
        rcases sg with ⟨e, -⟩ | ⟨e, -⟩
        · exact e
        · omega
      rw [zc_X10_next_M_102 K P _ (I2 := K) (J2 := P) (r := 1) (by rw [h7, zp_byM k6 hn (by omega), if_pos ⟨hb.1, by rw [zp_c97, zp_c122]; exact (zp_sgR sg (by omega) (by omega)).mpr lt⟩]), zq_X10_next_M_114, if_neg (by decide), zq_X10_next_M_117, hl, zp_gr_s, if_pos hb]
      have c11 : (11 : Int32) = Int32.ofNat 11 := rfl
      have c27 : (27 : Int64).toInt = 27 := by decide
      have c96 : (96 : Int64).toInt = 96 := by decide
      have fin : ∀ x : Int64, x.toInt = (if j + 1 ≤ 12 then zp_wv T s (j + 1) else -1) → ∃ (K' : Nat → Nat → Int32) (P' : Nat → Nat → Int64), zv_X10_next_M_169 K (zm_wl P 0 11 x) (Int32.ofNat j) = some (none, (K', P')) ∧ K' 0 7 = Int32.ofNat (zp_gr T n 1 d (s + j + 1)) ∧ (P' 0 11).toInt = (if zp_gr T n 1 d (s + j + 1) - s ≤ 12 then zp_wv T s (zp_gr T n 1 d (s + j + 1) - s) else -1) ∧ (∀ a b, ¬ (a = 0 ∧ b = 7) → K' a b = K a b) ∧ zp_frL P P' := by
        intro x hx
        rw [zq_X10_next_M_169, h7, zp_o1 (by omega), zp_o1 (by omega)]
        obtain ⟨K', P', q1, q2, q3, q4, q5⟩ := ih (j + 1) (Int32.ofNat (j + 1)) (zm_w K 0 7 (Int32.ofNat (s + j + 1))) (zm_wl P 0 11 x) (by omega) (by omega) (by rw [ze_wj (by decide), k6]) (fun i hi => by rw [ze_wo (by decide)]; exact hT i hi) ze_wi rfl (by unfold zm_wl; rw [if_pos ⟨rfl, rfl⟩]; exact hx) (fun i hi => by
          by_cases e : i = j
          · rw [e]; exact lt
          · exact hr i (by omega))
        refine ⟨K', P', q1, q2, q3, fun a b hab => ?_, fun a b ha => ?_⟩
        · rw [q4 a b hab]
          by_cases e : a = 0
          · subst e
            exact ze_wj (fun q => hab ⟨rfl, q⟩)
          · exact ze_wo e
        · rw [q5 a b ha]
          unfold zm_wl
          rw [if_neg (fun q => ha q.1)]
      by_cases c : j ≤ 11
      · have hb2 := zp_wv_b j hr
        have h27 := zp_27 j (by omega)
        rw [if_pos (show j ≤ 12 by omega)] at hw
        have e1 : (27 * P 0 11).toInt = 27 * zp_wv T s j := by
          rw [Int64.toInt_mul, c27, hw]
          exact zt_bmL (by omega) (by omega)
        have e2 : (27 * P 0 11 + Int32.toInt64 (K 5 (s + j))).toInt = 27 * zp_wv T s j + T (s + j) := by
          rw [Int64.toInt_add, e1, Int32.toInt_toInt64, by1]
          exact zt_bmL (by omega) (by omega)
        have e3 : (27 * P 0 11 + Int32.toInt64 (K 5 (s + j)) - 96).toInt = 27 * zp_wv T s j + T (s + j) - 96 := by
          rw [Int64.toInt_sub, e2, c96]
          exact zt_bmL (by omega) (by omega)
        rw [if_pos (by rw [c11]; exact (zp_le (by omega) (by omega)).mpr c), zq_X10_next_M_130, h7, if_neg (zp_in (by omega) (by omega)), zp_cl (by omega), zq_X10_next_M_153, if_pos (by rw [c11]; exact (zp_le (by omega) (by omega)).mpr c)]
        refine fin _ ?_
        rw [e3, if_pos (by omega), zp_wv_s]
        omega
      · have nl : ¬ (Int32.ofNat j ≤ (11 : Int32)) := fun z => by
          rw [c11] at z
          have := (zp_le (by omega) (by omega)).mp z
          omega
        rw [if_neg nl, zq_X10_next_M_124, zq_X10_next_M_153, if_neg nl, zq_X10_next_M_162]
        have w2 : zm_wl (zm_wl P 0 11 (-1)) 0 11 (-1) = zm_wl P 0 11 (-1) := by
          funext a b
          unfold zm_wl
          split <;> rfl
        rw [w2]
        refine fin _ ?_
        rw [if_neg (by omega)]
        decide
    · refine ⟨K, P, ?_, by rw [zp_gr_s, if_neg hb]; exact h7, ?_, fun _ _ _ => rfl, fun _ _ _ => rfl⟩
      · have no : ¬ (s + j < n ∧ (97 : Int32).toInt ≤ (K 5 (s + j)).toInt ∧ (K 5 (s + j)).toInt ≤ (122 : Int32).toInt) := by
          intro z
          rw [zp_c97, zp_c122] at z
          exact hb ⟨z.1, (zp_kd1i _).mpr ((zp_sgR (hT _ z.1) (by omega) (by omega)).mp z.2)⟩
        rw [zc_X10_next_M_102 K P _ (I2 := K) (J2 := P) (r := 0) (by rw [h7, zp_byM k6 hn (by omega), if_neg no]), zq_X10_next_M_114, if_pos rfl, zq_X10_next_M_185, zq_X10_next_M_307]
      · rw [zp_gr_s, if_neg hb, show s + j - s = j by omega]
        exact hw
/-- a number's digits -/
theorem zp_n208 (hn : n ≤ 800) {s : Nat} {P : Nat → Nat → Int64} : ∀ (d j : Nat) (K : Nat → Nat → Int32), n - (s + j) ≤ d → s + j ≤ n → K 0 6 = Int32.ofNat n → (∀ i, i < n → zp_sg (K 5 i).toInt (T i)) → K 0 7 = Int32.ofNat (s + j) → (K 0 10).toInt = zp_nm T s j → (∀ i, i < j → 48 ≤ T (s + i) ∧ T (s + i) ≤ 57) → ∃ (K' : Nat → Nat → Int32), zv_X10_next_M_208 K P = some (none, (K', P)) ∧ K' 0 7 = Int32.ofNat (zp_gr T n 2 d (s + j)) ∧ (K' 0 10).toInt = zp_nm T s (zp_gr T n 2 d (s + j) - s) ∧ (∀ a b, ¬ (a = 0 ∧ (b = 7 ∨ b = 10)) → K' a b = K a b) := by
  intro d
  induction d with
  | zero =>
    intro j K hd hi k6 hT h7 hw hr
    refine ⟨K, ?_, h7, ?_, fun _ _ _ => rfl⟩
    · rw [zc_X10_next_M_208 K P (I2 := K) (J2 := P) (r := 0) (by rw [h7, zp_byM k6 hn (by omega), if_neg (by omega)]), zq_X10_next_M_220, if_pos rfl, zq_X10_next_M_307]
    · rw [zp_gr_0, show s + j - s = j by omega]
      exact hw
  | succ d ih =>
    intro j K hd hi k6 hT h7 hw hr
    by_cases hb : s + j < n ∧ zp_kd (T (s + j)) = 2
    · have sg := hT (s + j) hb.1
      have lt := (zp_kd2i _).mp hb.2
      have by1 : (K 5 (s + j)).toInt = T (s + j) := by
        rcases sg with ⟨e, -⟩ | ⟨e, -⟩
        · exact e
        · omega
      have hx := zp_nx_m (T := T) (s := s) j hr
      have c5 : (100000 : Int32).toInt = 100000 := by decide
      have c10 : (10 : Int32).toInt = 10 := by decide
      rw [zc_X10_next_M_208 K P (I2 := K) (J2 := P) (r := 1) (by rw [h7, zp_byM k6 hn (by omega), if_pos ⟨hb.1, by rw [zp_c48, zp_c57]; exact (zp_sgR sg (by omega) (by omega)).mpr lt⟩]), zq_X10_next_M_220, if_neg (by decide), zq_X10_next_M_223, zp_gr_s, if_pos hb]
      have fin : ∀ x : Int32, x.toInt = zp_nm T s (j + 1) → ∃ (K' : Nat → Nat → Int32), zv_X10_next_M_258 K P x = some (none, (K', P)) ∧ K' 0 7 = Int32.ofNat (zp_gr T n 2 d (s + j + 1)) ∧ (K' 0 10).toInt = zp_nm T s (zp_gr T n 2 d (s + j + 1) - s) ∧ (∀ a b, ¬ (a = 0 ∧ (b = 7 ∨ b = 10)) → K' a b = K a b) := by
        intro x hx
        rw [zq_X10_next_M_258, ze_wj (by decide), h7, zp_o1 (by omega)]
        obtain ⟨K', q1, q2, q3, q4⟩ := ih (j + 1) (zm_w (zm_w K 0 10 x) 0 7 (Int32.ofNat (s + j + 1))) (by omega) (by omega) (by rw [ze_wj (by decide), ze_wj (by decide), k6]) (fun i hi => by rw [ze_wo (by decide), ze_wo (by decide)]; exact hT i hi) ze_wi (by rw [ze_wj (by decide), ze_wi]; exact hx) (fun i hi => by
          by_cases e : i = j
          · rw [e]; exact lt
          · exact hr i (by omega))
        refine ⟨K', q1, q2, q3, fun a b hab => ?_⟩
        rw [q4 a b hab]
        by_cases e : a = 0
        · subst e
          rw [ze_wj (fun q => hab ⟨rfl, Or.inl q⟩), ze_wj (fun q => hab ⟨rfl, Or.inr q⟩)]
        · rw [ze_wo e, ze_wo e]
      by_cases c : K 0 10 ≤ 100000
      · rw [if_pos c, zq_X10_next_M_238, h7, if_neg (zp_in (by omega) (by omega)), zp_cl (by omega)]
        rw [ze_le, hw, c5] at c
        have e1 : (10 * K 0 10).toInt = 10 * zp_nm T s j := by rw [zh_mul (by rw [c10, hw]; omega) (by rw [c10, hw]; omega), c10, hw]
        have e2 : (10 * K 0 10 + K 5 (s + j)).toInt = 10 * zp_nm T s j + T (s + j) := by rw [zh_add (by rw [e1, by1]; omega) (by rw [e1, by1]; omega), e1, by1]
        have e3 : (10 * K 0 10 + K 5 (s + j) - 48).toInt = 10 * zp_nm T s j + T (s + j) - 48 := by rw [zh_sub (by rw [e2, zp_c48]; omega) (by rw [e2, zp_c48]; omega), e2, zp_c48]
        refine fin _ ?_
        rw [e3, zp_nm_s, if_pos c]
      · rw [if_neg c, zq_X10_next_M_233]
        rw [ze_le, hw, c5] at c
        refine fin _ ?_
        rw [zp_nm_s, if_neg c]
        decide
    · refine ⟨K, ?_, by rw [zp_gr_s, if_neg hb]; exact h7, ?_, fun _ _ _ => rfl⟩
      · have no : ¬ (s + j < n ∧ (48 : Int32).toInt ≤ (K 5 (s + j)).toInt ∧ (K 5 (s + j)).toInt ≤ (57 : Int32).toInt) := by
          intro z
          rw [zp_c48, zp_c57] at z
          exact hb ⟨z.1, (zp_kd2i _).mpr ((zp_sgR (hT _ z.1) (by omega) (by omega)).mp z.2)⟩
        rw [zc_X10_next_M_208 K P (I2 := K) (J2 := P) (r := 0) (by rw [h7, zp_byM k6 hn (by omega), if_neg no]), zq_X10_next_M_220, if_pos rfl, zq_X10_next_M_307]
      · rw [zp_gr_s, if_neg hb, show s + j - s = j by omega]
        exact hw
end ZPD
