/-! caller, on both sides -/
section ZPV
variable {I I' : Nat → Nat → Int32} {J J' : Nat → Nat → Int64}
theorem zp_hasCaller (M : zm_I) (l : Int32) : zF_X0_hasCaller zW_B [.ref 0, .int l] M = some (some (.int (if 0 ≤ l.toInt ∧ l.toInt < (M.1 0 6).toInt then 1 else 0)), M) := by
  have e : zF_X0_hasCaller zW_B [.ref 0, .int l] M = zv_X0_hasCaller_B_0 M.1 M.2 l := zf_X0_hasCaller_B M.1 M.2 l
  have e16 : zv_X0_hasCaller_B_16 M.1 M.2 l = some (some (.int 0), M) := by rw [zq_X0_hasCaller_B_16, zq_X0_hasCaller_B_17, if_pos (Or.inl rfl)]
  rw [e, zq_X0_hasCaller_B_0]
  by_cases h0 : l < 0
  · rw [if_pos h0, e16]
    rw [ze_lt, ze_i0] at h0
    rw [if_neg (by omega)]
  · rw [if_neg h0, zq_X0_hasCaller_B_4]
    rw [ze_lt, ze_i0] at h0
    by_cases h1 : M.1 0 6 ≤ l
    · rw [if_pos h1, e16]
      rw [ze_le] at h1
      rw [if_neg (by omega)]
    · rw [if_neg h1, zq_X0_hasCaller_B_12, zq_X0_hasCaller_B_17, if_pos (Or.inr rfl)]
      rw [ze_le] at h1
      rw [if_pos (by omega)]
def zp_cv (I : Nat → Nat → Int32) (c : Nat) (w : Int) : Int32 := if w = 0 then I 3 c else if w = 1 then I 4 c else if w = 2 then I 5 c else if w = 3 then I 6 c else if w = 4 then I 7 c else -2
theorem zp_sw5 (k : zm_S → zm_R) (pc : Nat) (d : Int) (os : Array Int) (ls : List (Option Value)) (M : zm_I) (w : Int32) : zm_sw k pc d 0 4 os ls [.int w] M = if w.toInt < 0 ∨ 4 < w.toInt then k (zm_tg pc d, ls, [], M) else match os[(w.toInt - 0).toNat]? with
    | some off => k (zm_tg pc off, ls, [], M)
    | none => none := rfl
theorem zp_callerX' (l w : Int32) (h6 : (I 1 6).toInt ≤ 5) : zF_X9_caller zW_X [.ref 0, .int l, .int w] (I, J) = some (some (.int (if 0 ≤ l.toInt ∧ l.toInt < (I 1 6).toInt then zp_cv I l.toInt.toNat w.toInt else -2)), (I, J)) := by
  have hq := zp_hasCaller (zm_sub2 [(1, 10)] (I, J)) l
  have u : (zm_sub2 [(1, 10)] (I, J)).1 0 6 = I 1 6 := rfl
  have id1 : zm_mrg [(1, 10)] (I, J) (zm_sub2 [(1, 10)] (I, J)) = (I, J) := zm_mrg_id _ _
  rw [u] at hq
  rw [zf_X9_caller_X, zc_X9_caller_X_0 _ _ _ _ hq, id1, zq_X9_caller_X_8]
  by_cases c : 0 ≤ l.toInt ∧ l.toInt < (I 1 6).toInt
  · have hc : Int32.toNatClampNeg l = l.toInt.toNat := rfl
    have hin : ¬ (l < 0 ∨ 5 ≤ Int32.toNatClampNeg l) := zh_in c.1 (by omega)
    rw [if_pos c, if_neg (by decide), zq_X9_caller_X_14, if_pos c, zp_sw5]
    by_cases d : w.toInt < 0 ∨ 4 < w.toInt
    · rw [if_pos d]
      have e : zp_cv I l.toInt.toNat w.toInt = -2 := by
        unfold zp_cv
        rw [if_neg (by omega), if_neg (by omega), if_neg (by omega), if_neg (by omega), if_neg (by omega)]
      rw [e]
      show zv_X9_caller_X_98 I J l w = _
      rw [zq_X9_caller_X_98]
    · rw [if_neg d]
      have d2 : w.toInt = 0 ∨ w.toInt = 1 ∨ w.toInt = 2 ∨ w.toInt = 3 ∨ w.toInt = 4 := by omega
      unfold zp_cv
      rcases d2 with e | e | e | e | e
      · rw [e, if_pos rfl]
        show zv_X9_caller_X_48 I J l w = _
        rw [zq_X9_caller_X_48, if_neg hin, hc]
      · rw [e, if_neg (by decide), if_pos rfl]
        show zv_X9_caller_X_58 I J l w = _
        rw [zq_X9_caller_X_58, if_neg hin, hc]
      · rw [e, if_neg (by decide), if_neg (by decide), if_pos rfl]
        show zv_X9_caller_X_68 I J l w = _
        rw [zq_X9_caller_X_68, if_neg hin, hc]
      · rw [e, if_neg (by decide), if_neg (by decide), if_neg (by decide), if_pos rfl]
        show zv_X9_caller_X_78 I J l w = _
        rw [zq_X9_caller_X_78, if_neg hin, hc]
      · rw [e, if_neg (by decide), if_neg (by decide), if_neg (by decide), if_neg (by decide), if_pos rfl]
        show zv_X9_caller_X_88 I J l w = _
        rw [zq_X9_caller_X_88, if_neg hin, hc]
  · rw [if_neg c, if_pos rfl, zq_X9_caller_X_11, if_neg c]
theorem zp_isCallerM (l : Int32) : zF_X10_isCaller zW_M [.ref 0, .long (Int32.toInt64 l)] (I, J) = some (some (.int (if 0 ≤ l.toInt ∧ l.toInt < (I 7 5).toInt then 1 else 0)), (I, J)) := by
  have r := zt_rgI (I 7 5)
  have e1 : (Int32.toInt64 (I 7 5) - 1).toInt = (I 7 5).toInt - 1 := by
    rw [Int64.toInt_sub, Int32.toInt_toInt64, show (1 : Int64).toInt = 1 by decide]
    exact zt_bmL (by omega) (by omega)
  have ec : (if (0 : Int) ≤ l.toInt ∧ l.toInt ≤ (I 7 5).toInt - 1 then (1 : Int32) else 0) = if 0 ≤ l.toInt ∧ l.toInt < (I 7 5).toInt then 1 else 0 := by
    by_cases c : 0 ≤ l.toInt ∧ l.toInt < (I 7 5).toInt
    · rw [if_pos c, if_pos (by omega)]
    · rw [if_neg c, if_neg (by omega)]
  rw [zh_isCallerV, ze_inr, e1, ze_l0, Int32.toInt_toInt64, ec]
theorem zp_callerM' (l w : Int32) (h5 : (I 7 5).toInt ≤ 5) : zF_X10_caller zW_M [.ref 0, .int l, .int w] (I, J) = some (some (.int (if 0 ≤ l.toInt ∧ l.toInt < (I 7 5).toInt then (if 0 ≤ w.toInt ∧ w.toInt ≤ 4 then I 9 (5 * l.toInt.toNat + w.toInt.toNat) else -2) else -2)), (zm_w I 0 0 0, J)) := by
  have u : ∀ b, zm_w I 0 0 0 7 b = I 7 b := fun b => ze_wo (by decide)
  have u9 : ∀ b, zm_w I 0 0 0 9 b = I 9 b := fun b => ze_wo (by decide)
  have hq := zp_isCallerM (I := zm_w I 0 0 0) (J := J) l
  rw [u] at hq
  rw [zf_X10_caller_M, zc_X10_caller_M_0 _ _ _ _ hq, zq_X10_caller_M_11]
  by_cases c : 0 ≤ l.toInt ∧ l.toInt < (I 7 5).toInt
  · rw [if_pos c, if_neg (by decide), zc_X10_caller_M_14 _ _ _ _ (zh_inV _ _ _ _ _), zq_X10_caller_M_23, ze_inr, ze_l0, Int32.toInt_toInt64, show (4 : Int64).toInt = 4 by decide, if_pos c]
    by_cases d : 0 ≤ w.toInt ∧ w.toInt ≤ 4
    · have e5 : (5 : Int32).toInt = 5 := by decide
      have em : (5 * l).toInt = 5 * l.toInt := by rw [zh_mul (by rw [e5]; omega) (by rw [e5]; omega), e5]
      have ea : (5 * l + w).toInt = ((5 * l.toInt.toNat + w.toInt.toNat : Nat) : Int) := by
        rw [zh_add (by rw [em]; omega) (by rw [em]; omega), em]
        omega
      rw [if_pos d, if_neg (by decide), zq_X10_caller_M_26, if_neg (zh_in (n := 125) (by omega) (by omega)), zh_cl ea, zq_X10_caller_M_41, if_pos d, u9]
    · rw [if_neg d, if_pos rfl, zq_X10_caller_M_39, zq_X10_caller_M_41, if_neg d]
  · rw [if_neg c, if_pos rfl, zq_X10_caller_M_39, zq_X10_caller_M_41, if_neg c]
end ZPV
