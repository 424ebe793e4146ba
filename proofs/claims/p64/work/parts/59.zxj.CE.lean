/-! SUMS OVER ALL WAYS TO MISS, greatest common divisors -/
theorem zce_of {n : Nat} (h : n < 2 ^ 63) : (Int64.ofNat n).toInt = n := Int64.toInt_ofNat_of_lt h
theorem zce_T1 {o h : Nat} (ho : h + o = 10) : ∀ k, zca_T o h k (fun _ => 1) = 10 ^ k
  | 0 => rfl
  | k + 1 => by
    have e : zca_T o h k (fun _ => h * 1 + o * 1) = 10 * zca_T o h k (fun _ => 1) := by
      rw [← zca_T_mul]
      exact zca_T_c (fun x _ => by omega)
    rw [zca_T_last]
    exact e.trans (by rw [zce_T1 ho k, Nat.pow_succ, Nat.mul_comm])
theorem zce_Sle {F G : Nat → Nat} : ∀ n, (∀ x, x < n → F x ≤ G x) → zca_S F n ≤ zca_S G n
  | 0, _ => Nat.le_refl 0
  | n + 1, h => Nat.add_le_add (zce_Sle n (fun x hx => h x (by omega))) (h n (by omega))
theorem zce_Tle {o h : Nat} (ho : h + o = 10) {F : Nat → Nat} (hF : ∀ x, F x ≤ 1) (k : Nat) : zca_T o h k F ≤ 10 ^ k := by
  rw [← zce_T1 ho k]
  exact zce_Sle _ (fun x _ => Nat.mul_le_mul_left _ (hF x))
theorem zce_late {o h : Nat} (ho : h + o = 10) {F : Nat → Nat} {m : Nat} (hF : ∀ j x, m ≤ j → x < 2 ^ j → F (2 ^ j + x) = F x) : ∀ d, zca_T o h (m + d) F = 10 ^ d * zca_T o h m F
  | 0 => (Nat.one_mul _).symm
  | d + 1 => by
    have e : zca_T o h (m + d) (fun x => h * F x + o * F (2 ^ (m + d) + x)) = 10 * zca_T o h (m + d) F := by
      rw [← zca_T_mul]
      refine zca_T_c (fun x hx => ?_)
      show h * F x + o * F (2 ^ (m + d) + x) = 10 * F x
      rw [hF (m + d) x (by omega) hx, ← Nat.add_mul, ho]
    show zca_T o h (m + d + 1) F = _
    rw [zca_T_last, e, zce_late ho hF d, Nat.pow_succ, ← Nat.mul_assoc, Nat.mul_comm 10 (10 ^ d)]
/-- as a number of ten to so many calls -/
def zce_g (f : Nat → Nat) : Nat → Nat
  | 0 => 0
  | q + 1 => zce_g f q * 10 + f q
theorem zce_gone {B : zdB} (hB : zdV B) (hE : 1 ≤ B.2.2.2.2.2.2) {o h : Nat} (ho : h + o = 10) (c : Nat) : ∀ m, zca_T o h m (fun x => zca_g B (zca_ms x) m c) = zce_g (fun k => h * zca_T o h k (fun x => if zca_W B (zca_ms x) k = (c : Int) then 1 else 0)) m
  | 0 => by
    show 0 + 1 * zca_g B (zca_ms 0) 0 c = 0
    rw [zca_g0 c hE]
  | m + 1 => by
    rw [zca_main hB hE ho m c, zce_gone hB hE ho c m, Nat.mul_comm 10]
    rfl
theorem zce_g1 {B : zdB} {ms : Nat → Bool} (i c : Nat) : zca_g B ms i c ≤ 1 := by
  unfold zca_g
  split <;> omega
/-! divisors -/
theorem zce_rem {a b : Nat} (ha : a < 2 ^ 63) (hb : b < 2 ^ 63) (h0 : b ≠ 0) : Int64.ofNat a - Int64.ofNat a / Int64.ofNat b * Int64.ofNat b = Int64.ofNat (a % b) := Int64.toInt_inj.mp (by
  have hl : a % b < b := Nat.mod_lt _ (by omega)
  rw [zh_rem _ _ (by rw [zce_of hb]; omega), zce_of ha, zce_of hb, zce_of (show a % b < 2 ^ 63 by omega)]
  rfl)
theorem zce_quot {a g : Nat} (ha : a < 2 ^ 63) (hg : g < 2 ^ 63) : Int64.ofNat a / Int64.ofNat g = Int64.ofNat (a / g) := Int64.toInt_inj.mp (by
  have hn : Int64.ofNat g ≠ -1 := fun e => by
    have : (Int64.ofNat g).toInt = (-1 : Int64).toInt := by rw [e]
    rw [zce_of hg, show (-1 : Int64).toInt = -1 by decide] at this
    omega
  have hl : a / g ≤ a := Nat.div_le_self a g
  rw [Int64.toInt_div_of_ne_right _ _ hn, zce_of ha, zce_of hg, zce_of (show a / g < 2 ^ 63 by omega)]
  rfl)
theorem zce_half {b r : Nat} (h0 : r ≠ 0) (h1 : r < b) {m : Nat} (hb : b < 2 ^ (m + 1)) : b % r < 2 ^ m := by
  have e := Nat.div_add_mod b r
  have l := Nat.mod_lt b (Nat.pos_of_ne_zero h0)
  have d : 1 ≤ b / r := Nat.div_pos (by omega) (by omega)
  have g : r * 1 ≤ r * (b / r) := Nat.mul_le_mul_left r d
  rw [Nat.pow_succ] at hb
  generalize b % r = x at *
  generalize r * (b / r) = y at *
  omega
theorem zce_n0 {b : Nat} (hb : b < 2 ^ 63) : (Int64.ofNat b).toInt = 0 ↔ b = 0 := by
  rw [zce_of hb]
  omega
theorem zce_com (I : Nat → Nat → Int32) (J : Nat → Nat → Int64) : ∀ (m d a b : Nat), 2 * m + 1 ≤ d → b < 2 ^ m → a < 2 ^ 63 → b < 2 ^ 63 → zF_X10_common d zW_M [.long (Int64.ofNat a), .long (Int64.ofNat b)] (I, J) = some (some (.long (Int64.ofNat (Nat.gcd b a))), (I, J)) := by
  intro m
  induction m with
  | zero =>
    intro d a b hd hb ha hb2
    have hz : b = 0 := by omega
    obtain ⟨d, rfl⟩ : ∃ e, d = e + 1 := ⟨d - 1, by omega⟩
    rw [zh_com0 I J d _ _ ((zce_n0 hb2).mpr hz), hz, Nat.gcd_zero_left]
  | succ m ih =>
    intro d a b hd hb ha hb2
    obtain ⟨d, rfl⟩ : ∃ e, d = e + 1 + 1 + 1 := ⟨d - 3, by omega⟩
    by_cases hz : b = 0
    · rw [zh_com0 I J _ _ _ ((zce_n0 hb2).mpr hz), hz, Nat.gcd_zero_left]
    · have hr := zce_rem ha hb2 hz
      have hl : a % b < b := Nat.mod_lt _ (by omega)
      have nz := fun z => hz ((zce_n0 hb2).mp z)
      rw [Nat.gcd_rec b a]
      by_cases hz2 : a % b = 0
      · rw [hz2, Nat.gcd_zero_left]
        exact zh_com1 I J _ _ _ _ nz (by
          rw [hr]
          exact zh_com0 I J _ _ _ ((zce_n0 (by omega)).mpr hz2))
      · have hr2 := zce_rem hb2 (show a % b < 2 ^ 63 by omega) hz2
        have h3 := zce_half hz2 hl hb
        have hl2 : b % (a % b) < a % b := Nat.mod_lt _ (by omega)
        rw [Nat.gcd_rec (a % b) b]
        refine zh_com1 I J _ _ _ _ nz ?_
        rw [hr]
        refine zh_com1 I J _ _ _ _ (fun z => hz2 ((zce_n0 (by omega)).mp z)) ?_
        rw [hr2]
        exact ih (d + 1) (a % b) (b % (a % b)) (by omega) h3 (by omega) (by omega)
theorem zce_cmp {b : Nat} (hb : b < 2 ^ 63) : lg_cmp (Int64.ofNat b) 0 = 0 ↔ b = 0 := (zh_cmp0 _).trans (zce_n0 hb)
theorem zce_nz {b : Nat} (hb : b < 2 ^ 63) (h : b ≠ 0) : ¬ Int64.ofNat b = 0 := fun e => h ((zce_n0 hb).mp (by rw [e]; rfl))
theorem zce_div (I : Nat → Nat → Int32) (J : Nat → Nat → Int64) (l0 l2 : Int64) : ∀ (m i a b : Nat) (l9 : Option Value), i + 2 * m + 1 ≤ 200 → b < 2 ^ m → a < 2 ^ 63 → b < 2 ^ 63 → zv_X1_commonDivisor_C_9 I J l0 l2 (Int64.ofNat a) (Int64.ofNat b) (Int32.ofNat i) l9 = some (some (.long (Int64.ofNat (Nat.gcd b a))), (I, J)) := by
  have e200 : (200 : Int32) = Int32.ofNat 200 := rfl
  have out : ∀ (i a b : Nat) (l9 : Option Value), i + 1 ≤ 200 → b = 0 → b < 2 ^ 63 → zv_X1_commonDivisor_C_9 I J l0 l2 (Int64.ofNat a) (Int64.ofNat b) (Int32.ofNat i) l9 = some (some (.long (Int64.ofNat (Nat.gcd b a))), (I, J)) := fun i a b l9 hi hb hb2 => by
    rw [zq_X1_commonDivisor_C_9, if_neg (fun z => by rw [e200] at z; have := (zp_le (by omega) (by omega)).mp z; omega), zq_X1_commonDivisor_C_17, if_pos ((zce_cmp hb2).mpr hb), zq_X1_commonDivisor_C_45, hb, Nat.gcd_zero_left]
  have one : ∀ (i a b : Nat) (l9 : Option Value), i + 1 ≤ 200 → b ≠ 0 → a < 2 ^ 63 → b < 2 ^ 63 → ∃ l9', zv_X1_commonDivisor_C_9 I J l0 l2 (Int64.ofNat a) (Int64.ofNat b) (Int32.ofNat i) l9 = zv_X1_commonDivisor_C_9 I J l0 l2 (Int64.ofNat b) (Int64.ofNat (a % b)) (Int32.ofNat (i + 1)) l9' := fun i a b l9 hi hb ha hb2 => by
    rw [zq_X1_commonDivisor_C_9, if_neg (fun z => by rw [e200] at z; have := (zp_le (by omega) (by omega)).mp z; omega), zq_X1_commonDivisor_C_17, if_neg (fun z => hb ((zce_cmp hb2).mp z)), zq_X1_commonDivisor_C_24, if_neg (zce_nz hb2 hb), zce_rem ha hb2 hb, zp_o1 (by omega)]
    exact ⟨_, rfl⟩
  intro m
  induction m with
  | zero =>
    intro i a b l9 hi hb ha hb2
    exact out i a b l9 (by omega) (by omega) hb2
  | succ m ih =>
    intro i a b l9 hi hb ha hb2
    by_cases hz : b = 0
    · exact out i a b l9 (by omega) hz hb2
    · have hl : a % b < b := Nat.mod_lt _ (by omega)
      obtain ⟨l9', e1⟩ := one i a b l9 (by omega) hz ha hb2
      rw [e1, Nat.gcd_rec b a]
      by_cases hz2 : a % b = 0
      · exact out (i + 1) b (a % b) l9' (by omega) hz2 (by omega)
      · have hl2 : b % (a % b) < a % b := Nat.mod_lt _ (by omega)
        obtain ⟨l9'', e2⟩ := one (i + 1) b (a % b) l9' (by omega) hz2 hb2 (by omega)
        rw [e2, Nat.gcd_rec (a % b) b]
        exact ih (i + 1 + 1) (a % b) (b % (a % b)) l9'' (by omega) (zce_half hz2 hl hb) (by omega) (by omega)
theorem zce_pow : ∀ k, k < 11 → 10 ^ k < 2 ^ 34 ∧ 0 < 10 ^ k := by decide +kernel
theorem zce_gcdb {a b : Nat} (h : 0 < b) : Nat.gcd b a ≤ b ∧ 0 < Nat.gcd b a := ⟨Nat.gcd_le_left a h, Nat.gcd_pos_of_pos_left a h⟩
/-- the class's parts -/
theorem zce_part6 (I : Nat → Nat → Int32) (J : Nat → Nat → Int64) (l1 : Int64) (w : Int32) {n k : Nat} (hn : n ≤ 10) (hk : k ≤ 10) (h4 : I 0 4 = Int32.ofNat n) : ∀ (d q : Nat), q + d = min n k → zv_X1_part_C_6 I J l1 (Int32.ofNat k) w (Int64.ofNat (10 ^ q)) (Int32.ofNat q) = zv_X1_part_C_35 I J l1 (Int32.ofNat k) w (Int64.ofNat (10 ^ (min n k))) (Int32.ofNat (min n k)) := by
  intro d
  induction d with
  | zero =>
    intro q hq
    have eq : q = min n k := by omega
    rw [zq_X1_part_C_6, h4, ← eq]
    by_cases c : n ≤ q
    · rw [if_pos ((zp_le (by omega) (by omega)).mpr c)]
    · rw [if_neg (fun z => c ((zp_le (by omega) (by omega)).mp z)), zq_X1_part_C_15, if_pos ((zp_le (by omega) (by omega)).mpr (by omega))]
  | succ d ih =>
    intro q hq
    rw [zq_X1_part_C_6, h4, if_neg (fun z => by have := (zp_le (by omega) (by omega)).mp z; omega), zq_X1_part_C_15, if_neg (fun z => by have := (zp_le (by omega) (by omega)).mp z; omega), zq_X1_part_C_21, zp_o1 (by omega)]
    have e : Int64.ofNat (10 ^ q) * 10 = Int64.ofNat (10 ^ (q + 1)) := by rw [Nat.pow_succ, Int64.ofNat_mul]; rfl
    rw [e]
    exact ih (q + 1) (by omega)
theorem zce_part (I : Nat → Nat → Int32) (J : Nat → Nat → Int64) {a n k : Nat} (w : Int32) (hn : n ≤ 10) (hk : k ≤ 10) (ha : a < 2 ^ 63) (h4 : I 0 4 = Int32.ofNat n) : zF_X1_part zW_C [.ref 0, .long (Int64.ofNat a), .int (Int32.ofNat k), .int w] (I, J) = some (some (.long (Int64.ofNat ((if w = 0 then a else 10 ^ (min n k)) / Nat.gcd (10 ^ (min n k)) a))), (I, J)) := by
  have hm : min n k ≤ 10 := by omega
  obtain ⟨p1, p2⟩ := zce_pow (min n k) (by omega)
  obtain ⟨g1, g2⟩ := zce_gcdb (a := a) p2
  have h63 : (2 : Nat) ^ 34 < 2 ^ 63 := by decide
  have hF : zF_X1_commonDivisor zW_C [.long (Int64.ofNat a), .long (Int64.ofNat (10 ^ (min n k)))] (I, J) = some (some (.long (Int64.ofNat (Nat.gcd (10 ^ (min n k)) a))), (I, J)) := by
    rw [zf_X1_commonDivisor_C, zq_X1_commonDivisor_C_0]
    exact zce_div I J _ _ 34 0 a (10 ^ (min n k)) none (by omega) p1 ha (by omega)
  have e6 := zce_part6 I J (Int64.ofNat a) w hn hk h4 (min n k) 0 (by omega)
  rw [zf_X1_part_C, zq_X1_part_C_0]
  refine Eq.trans e6 ?_
  rw [zc_X1_part_C_35 _ _ _ _ _ _ _ hF, zq_X1_part_C_41, if_neg (fun z => by have := (zce_cmp (by omega)).mp z; omega), zq_X1_part_C_54]
  by_cases c : w = 0
  · rw [if_pos c, if_pos c, zq_X1_part_C_59, zq_X1_part_C_65, if_neg (zce_nz (by omega) (by omega)), zq_X1_part_C_68, zce_quot ha (by omega)]
  · rw [if_neg c, if_neg c, zq_X1_part_C_63, zq_X1_part_C_65, if_neg (zce_nz (by omega) (by omega)), zq_X1_part_C_68, zce_quot (by omega) (by omega)]
/-- the reference's parts -/
theorem zce_partM (I : Nat → Nat → Int32) (J : Nat → Nat → Int64) {a b : Nat} (w : Int32) (ha : a < 2 ^ 63) (hb : b < 2 ^ 34) (h0 : 0 < b) : zF_X10_part zW_M [.long (Int64.ofNat a), .long (Int64.ofNat b), .int w] (I, J) = some (some (.long (Int64.ofNat ((if w = 0 then a else b) / Nat.gcd b a))), (I, J)) := by
  obtain ⟨g1, g2⟩ := zce_gcdb (a := a) h0
  have h63 : (2 : Nat) ^ 34 < 2 ^ 63 := by decide
  have hF := zce_com I J 34 120 a b (by omega) hb ha (by omega)
  rw [zf_X10_part_M, zq_X10_part_M_0]
  by_cases c : w = 0
  · rw [if_pos c, if_pos c, zq_X10_part_M_5, zc_X10_part_M_10 _ _ _ _ _ _ hF, zq_X10_part_M_15, if_neg (zce_nz (by omega) (by omega)), zce_quot ha (by omega)]
  · rw [if_neg c, if_neg c, zq_X10_part_M_9, zc_X10_part_M_10 _ _ _ _ _ _ hF, zq_X10_part_M_15, if_neg (zce_nz (by omega) (by omega)), zce_quot (by omega) (by omega)]
/-- both are the same -/
theorem zce_same (w : Int32) (a d m : Nat) : (if w = 0 then 10 ^ d * a else 10 ^ d * 10 ^ m) / Nat.gcd (10 ^ d * 10 ^ m) (10 ^ d * a) = (if w = 0 then a else 10 ^ m) / Nat.gcd (10 ^ m) a := by
  have h : 0 < 10 ^ d := Nat.pow_pos (by decide)
  rw [Nat.gcd_mul_left]
  by_cases c : w = 0
  · rw [if_pos c, if_pos c, Nat.mul_div_mul_left _ _ h]
  · rw [if_neg c, if_neg c, Nat.mul_div_mul_left _ _ h]
/-- what the class gains -/
theorem zce_gain (I : Nat → Nat → Int32) (J : Nat → Nat → Int64) {n k c : Nat} (f : Nat → Nat) (hn : n ≤ 10) (hk : k ≤ 10) (hc : c < 5) (h4 : I 0 4 = Int32.ofNat n) (h1 : ∀ q, q < n → J 1 (5 * q + c) = Int64.ofNat (f q)) : zF_X1_gained zW_C [.ref 0, .ref 1, .int (Int32.ofNat c), .int (Int32.ofNat k)] (I, J) = some (some (.long (Int64.ofNat (zce_g f (min n k)))), (I, J)) := by
  have go : ∀ (d q : Nat), q + d = min n k → zv_X1_gained_C_6 I J (Int32.ofNat c) (Int32.ofNat k) (Int64.ofNat (zce_g f q)) (Int32.ofNat q) = some (some (.long (Int64.ofNat (zce_g f (min n k)))), (I, J)) := by
    intro d
    induction d with
    | zero =>
      intro q hq
      have eq : q = min n k := by omega
      rw [zq_X1_gained_C_6, h4, ← eq]
      by_cases z : n ≤ q
      · rw [if_pos ((zp_le (by omega) (by omega)).mpr z), zq_X1_gained_C_44]
      · rw [if_neg (fun y => z ((zp_le (by omega) (by omega)).mp y)), zq_X1_gained_C_15, if_pos ((zp_le (by omega) (by omega)).mpr (by omega)), zq_X1_gained_C_44]
    | succ d ih =>
      intro q hq
      rw [zq_X1_gained_C_6, h4, if_neg (fun z => by have := (zp_le (by omega) (by omega)).mp z; omega), zq_X1_gained_C_15, if_neg (fun z => by have := (zp_le (by omega) (by omega)).mp z; omega), zq_X1_gained_C_21, zcd_idx q (by omega) c hc, if_neg (zp_in (by omega) (by omega)), zp_cl (by omega), zp_o1 (by omega), h1 q (by omega)]
      have e : Int64.ofNat (zce_g f q) * 10 + Int64.ofNat (f q) = Int64.ofNat (zce_g f (q + 1)) := by
        show _ = Int64.ofNat (zce_g f q * 10 + f q)
        rw [Int64.ofNat_add, Int64.ofNat_mul]
        rfl
      rw [e]
      exact ih (q + 1) (by omega)
  rw [zf_X1_gained_C, zq_X1_gained_C_0]
  exact go (min n k) 0 (by omega)
