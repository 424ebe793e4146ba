/-! SMALL ROWS for the relations: numbers, cells -/
theorem ze_nat {x : Int32} (h : 0 ≤ x.toInt) : (x.toNatClampNeg : Int) = x.toInt := by
  show ((x.toInt.toNat : Nat) : Int) = x.toInt
  omega
theorem ze_add {x y : Int32} (h1 : -2147483648 ≤ x.toInt + y.toInt) (h2 : x.toInt + y.toInt ≤ 2147483647) : (x + y).toInt = x.toInt + y.toInt := by
  rw [Int32.toInt_add]
  exact zt_bmI h1 h2
theorem ze_wo {I : Nat → Nat → Int32} {n i a b : Nat} {x : Int32} (h : a ≠ n) : zm_w I n i x a b = I a b := by
  unfold zm_w
  rw [if_neg (fun q => h q.1)]
theorem ze_wi {I : Nat → Nat → Int32} {n i : Nat} {x : Int32} : zm_w I n i x n i = x := if_pos ⟨rfl, rfl⟩
theorem ze_wj {I : Nat → Nat → Int32} {n i a b : Nat} {x : Int32} (h : b ≠ i) : zm_w I n i x a b = I a b := by
  unfold zm_w
  rw [if_neg (fun q => h q.2)]
theorem ze_inr (a b c : Int64) : zh_inr a b c = if b.toInt ≤ a.toInt ∧ a.toInt ≤ c.toInt then 1 else 0 := by
  unfold zh_inr
  by_cases h1 : a < b
  · rw [if_pos h1]
    rw [Int64.lt_iff_toInt_lt] at h1
    rw [if_neg (by omega)]
  · rw [if_neg h1]
    rw [Int64.lt_iff_toInt_lt] at h1
    by_cases h2 : c < a
    · rw [if_pos h2]
      rw [Int64.lt_iff_toInt_lt] at h2
      rw [if_neg (by omega)]
    · rw [if_neg h2]
      rw [Int64.lt_iff_toInt_lt] at h2
      rw [if_pos (by omega)]
theorem ze_l0 : (0 : Int64).toInt = 0 := by decide
theorem ze_l3 : (3 : Int64).toInt = 3 := by decide
theorem ze_i0 : (0 : Int32).toInt = 0 := by decide
theorem ze_i1 : (1 : Int32).toInt = 1 := by decide
theorem ze_i4 : (4 : Int32).toInt = 4 := by decide
theorem ze_i60 : (60 : Int32).toInt = 60 := by decide
theorem ze_lt {a b : Int32} : (a < b) ↔ a.toInt < b.toInt := Int32.lt_iff_toInt_lt
theorem ze_le {a b : Int32} : (a ≤ b) ↔ a.toInt ≤ b.toInt := Int32.le_iff_toInt_le
