/-! fault, seat, image and back of the reference: what they answer -/
section ZPP
variable {I I' : Nat → Nat → Int32} {J J' : Nat → Nat → Int64}
theorem zp_faultX (w : Int32) : zF_X9_fault zW_X [.ref 0, .int w] (I, J) = some (some (.int (if w = 0 then I 51 2 else if w = 1 then I 51 3 else -1)), (I, J)) := by
  rw [zf_X9_fault_X, zq_X9_fault_X_0]
  by_cases h0 : w = 0
  · rw [if_pos h0, if_pos h0, zq_X9_fault_X_4]
  · rw [if_neg h0, if_neg h0, zq_X9_fault_X_12]
    by_cases h1 : w = 1
    · rw [if_pos h1, if_pos h1, zq_X9_fault_X_17, zq_X9_fault_X_28]
    · rw [if_neg h1, if_neg h1, zq_X9_fault_X_27, zq_X9_fault_X_28]
theorem zp_faultM (w : Int32) : zF_X10_fault zW_M [.ref 0, .int w] (I, J) = some (some (.int (if w = 0 then I 0 14 else if w = 1 then I 0 15 else -1)), (zm_w I 0 0 0, J)) := by
  rw [zf_X10_fault_M, zq_X10_fault_M_0]
  by_cases h0 : w = 0
  · rw [if_pos h0, if_pos h0, zq_X10_fault_M_9, zq_X10_fault_M_29, ze_wj (by decide)]
  · rw [if_neg h0, if_neg h0, zq_X10_fault_M_16]
    by_cases h1 : w = 1
    · rw [if_pos h1, if_pos h1, zq_X10_fault_M_21, zq_X10_fault_M_29, ze_wj (by decide)]
    · rw [if_neg h1, if_neg h1, zq_X10_fault_M_28, zq_X10_fault_M_29]
theorem zp_hasSeat (M : zm_I) (l : Int32) : zF_X0_hasSeat zW_B [.ref 0, .int l] M = some (some (.int (if 0 ≤ l.toInt ∧ l.toInt < (M.1 0 5).toInt then 1 else 0)), M) := by
  have e : zF_X0_hasSeat zW_B [.ref 0, .int l] M = zv_X0_hasSeat_B_0 M.1 M.2 l := zf_X0_hasSeat_B M.1 M.2 l
  have e16 : zv_X0_hasSeat_B_16 M.1 M.2 l = some (some (.int 0), M) := by rw [zq_X0_hasSeat_B_16, zq_X0_hasSeat_B_17, if_pos (Or.inl rfl)]
  rw [e, zq_X0_hasSeat_B_0]
  by_cases h0 : l < 0
  · rw [if_pos h0, e16]
    rw [ze_lt, ze_i0] at h0
    rw [if_neg (by omega)]
  · rw [if_neg h0, zq_X0_hasSeat_B_4]
    rw [ze_lt, ze_i0] at h0
    by_cases h1 : M.1 0 5 ≤ l
    · rw [if_pos h1, e16]
      rw [ze_le] at h1
      rw [if_neg (by omega)]
    · rw [if_neg h1, zq_X0_hasSeat_B_12, zq_X0_hasSeat_B_17, if_pos (Or.inr rfl)]
      rw [ze_le] at h1
      rw [if_pos (by omega)]
theorem zp_seatX' (l : Int32) (h6 : (I 1 5).toInt ≤ 6) : zF_X9_seat zW_X [.ref 0, .int l] (I, J) = some (some (.int (if 0 ≤ l.toInt ∧ l.toInt < (I 1 5).toInt then I 2 l.toInt.toNat else -100)), (I, J)) := by
  have hq := zp_hasSeat (zm_sub2 [(1, 10)] (I, J)) l
  have u : (zm_sub2 [(1, 10)] (I, J)).1 0 5 = I 1 5 := rfl
  have id1 : zm_mrg [(1, 10)] (I, J) (zm_sub2 [(1, 10)] (I, J)) = (I, J) := zm_mrg_id _ _
  rw [u] at hq
  rw [zf_X9_seat_X, zc_X9_seat_X_0 _ _ _ hq, id1, zq_X9_seat_X_8]
  by_cases c : 0 ≤ l.toInt ∧ l.toInt < (I 1 5).toInt
  · have hc : Int32.toNatClampNeg l = l.toInt.toNat := rfl
    rw [if_pos c, if_neg (by decide), zq_X9_seat_X_11, if_neg (zh_in (n := 6) c.1 (by omega)), zq_X9_seat_X_25, if_pos c, hc]
  · rw [if_neg c, if_pos rfl, zq_X9_seat_X_23, zq_X9_seat_X_25, if_neg c]
theorem zp_isSeatM (l : Int32) (h0 : 0 ≤ (I 7 4).toInt) : zF_X10_isSeat zW_M [.ref 0, .long (Int32.toInt64 l)] (I, J) = some (some (.int (if 0 ≤ l.toInt ∧ l.toInt < (I 7 4).toInt then 1 else 0)), (I, J)) := by
  have hs : zF_X10_seats zW_M [.ref 0] (I, J) = some (some (.int (I 7 4)), (I, J)) := by rw [zf_X10_seats_M, zq_X10_seats_M_0, if_neg (by decide), show Int32.toNatClampNeg 4 = 4 by decide]
  have r := zt_rgI (I 7 4)
  have e1 : (Int32.toInt64 (I 7 4) - 1).toInt = (I 7 4).toInt - 1 := by
    rw [Int64.toInt_sub, Int32.toInt_toInt64, show (1 : Int64).toInt = 1 by decide]
    exact zt_bmL (by omega) (by omega)
  have ec : (if (0 : Int) ≤ l.toInt ∧ l.toInt ≤ (I 7 4).toInt - 1 then (1 : Int32) else 0) = if 0 ≤ l.toInt ∧ l.toInt < (I 7 4).toInt then 1 else 0 := by
    by_cases c : 0 ≤ l.toInt ∧ l.toInt < (I 7 4).toInt
    · rw [if_pos c, if_pos (by omega)]
    · rw [if_neg c, if_neg (by omega)]
  rw [zf_X10_isSeat_M, zc_X10_isSeat_M_0 _ _ _ hs, zc_X10_isSeat_M_6 _ _ _ _ _ _ (zh_inV _ _ _ _ _), zq_X10_isSeat_M_12, if_pos (zh_inr_b _ _ _), ze_inr, e1, ze_l0, Int32.toInt_toInt64, ec]
theorem zp_seatM' (l : Int32) (h0 : 0 ≤ (I 7 4).toInt) (h6 : (I 7 4).toInt ≤ 6) : zF_X10_seat zW_M [.ref 0, .int l] (I, J) = some (some (.int (if 0 ≤ l.toInt ∧ l.toInt < (I 7 4).toInt then I 8 l.toInt.toNat else -100)), (zm_w I 0 0 0, J)) := by
  have u : ∀ b, zm_w I 0 0 0 7 b = I 7 b := fun b => ze_wo (by decide)
  have u8 : ∀ b, zm_w I 0 0 0 8 b = I 8 b := fun b => ze_wo (by decide)
  have hq := zp_isSeatM (I := zm_w I 0 0 0) (J := J) l (by rw [u]; exact h0)
  rw [u] at hq
  rw [zf_X10_seat_M, zc_X10_seat_M_0 _ _ _ hq, zq_X10_seat_M_11]
  by_cases c : 0 ≤ l.toInt ∧ l.toInt < (I 7 4).toInt
  · have hc : Int32.toNatClampNeg l = l.toInt.toNat := rfl
    rw [if_pos c, if_neg (by decide), zq_X10_seat_M_14, if_neg (zh_in (n := 30) c.1 (by omega)), zq_X10_seat_M_25, if_pos c, hc, u8]
  · rw [if_neg c, if_pos rfl, zq_X10_seat_M_23, zq_X10_seat_M_25, if_neg c]
end ZPP
