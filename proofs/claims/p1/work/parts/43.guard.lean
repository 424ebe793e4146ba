/-! A FRESH OBJECT: what is in its cells, what its guards say -/
def zc_I : Nat → Nat → Int32 := (zn_wr [(51, 2, 0), (51, 3, -1), (54, 0, -1), (56, 0, -1), (58, 0, -1), (60, 0, -1)] (fun _ _ => 0, fun _ _ => 0)).1
def zc_M : Nat → Nat → Int32 := (zn_wr [(0, 15, -1), (1, 0, -1), (1, 1, -1), (1, 2, -1), (1, 3, -1)] (fun _ _ => 0, fun _ _ => 0)).1
def zy_X (I : Nat → Nat → Int32) (J : Nat → Nat → Int64) : Prop := (∀ n i, n < 164 → I n i = zc_I n i) ∧ ∀ n i, n < 164 → J n i = 0
def zy_M (I : Nat → Nat → Int32) (J : Nat → Nat → Int64) : Prop := (∀ n i, n < 31 → I n i = zc_M n i) ∧ ∀ n i, n < 31 → J n i = 0
theorem zy_M_t {I : Nat → Nat → Int32} {J : Nat → Nat → Int64} (h : zy_M I J) : zy_M (zm_w I 0 0 0) J := by
  refine ⟨fun n i hn => ?_, h.2⟩
  unfold zm_w
  split
  · next he => rw [he.1, he.2]; rfl
  · exact h.1 n i hn
section ZYG
variable {I : Nat → Nat → Int32} {J : Nat → Nat → Int64}
theorem zg_hasCaller (h : I 0 6 = 0) (c : Int32) : zF_X0_hasCaller zW_B [.ref 0, .int c] (I, J) = some (some (.int 0), (I, J)) := by
  have e16 : zv_X0_hasCaller_B_16 I J c = some (some (.int 0), (I, J)) := by rw [zq_X0_hasCaller_B_16, zq_X0_hasCaller_B_17, if_pos (Or.inl rfl)]
  rw [zf_X0_hasCaller_B, zq_X0_hasCaller_B_0]
  by_cases hc : c < 0
  · rw [if_pos hc, e16]
  · rw [if_neg hc, zq_X0_hasCaller_B_4, h, if_pos (Int32.not_lt.mp hc), e16]
theorem zg_hasSeat (h : I 0 5 = 0) (c : Int32) : zF_X0_hasSeat zW_B [.ref 0, .int c] (I, J) = some (some (.int 0), (I, J)) := by
  have e16 : zv_X0_hasSeat_B_16 I J c = some (some (.int 0), (I, J)) := by rw [zq_X0_hasSeat_B_16, zq_X0_hasSeat_B_17, if_pos (Or.inl rfl)]
  rw [zf_X0_hasSeat_B, zq_X0_hasSeat_B_0]
  by_cases hc : c < 0
  · rw [if_pos hc, e16]
  · rw [if_neg hc, zq_X0_hasSeat_B_4, h, if_pos (Int32.not_lt.mp hc), e16]
theorem zgx_hasCaller (h : zy_X I J) (c : Int32) : zF_X0_hasCaller zW_B [.ref 0, .int c] (zm_sub2 [(1, 10)] (I, J)) = some (some (.int 0), zm_sub2 [(1, 10)] (I, J)) := zg_hasCaller ((h.1 1 6 (by decide)).trans (by decide)) c
theorem zgx_hasSeat (h : zy_X I J) (c : Int32) : zF_X0_hasSeat zW_B [.ref 0, .int c] (zm_sub2 [(1, 10)] (I, J)) = some (some (.int 0), zm_sub2 [(1, 10)] (I, J)) := zg_hasSeat ((h.1 1 5 (by decide)).trans (by decide)) c
theorem zgx_hasBench (h : zy_X I J) : zF_X9_hasBench zW_X [.ref 0] (I, J) = some (some (.int 0), (I, J)) := by
  rw [zf_X9_hasBench_X, zq_X9_hasBench_X_0, (h.1 1 0 (by decide)).trans (show zc_I 1 0 = 0 by decide), if_pos (by decide), zq_X9_hasBench_X_14, zq_X9_hasBench_X_15, if_pos (Or.inl rfl)]
theorem zgx_arePair (h : zy_X I J) (a b : Int32) : zF_X9_arePair zW_X [.ref 0, .int a, .int b] (I, J) = some (some (.int 0), (I, J)) := by
  rw [zf_X9_arePair_X, zc_X9_arePair_X_0 _ _ _ _ (zgx_hasCaller h a)]
  simp only [zm_mrg_id]
  rw [zq_X9_arePair_X_8, if_pos rfl, zq_X9_arePair_X_31, zq_X9_arePair_X_32, if_pos (Or.inl rfl)]
-- the reference
theorem zgm_in (a b c : Int64) : zF_X10_in zW_M [.long a, .long b, .long c] (I, J) = some (some (.int (if a < b then 0 else if c < a then 0 else 1)), (I, J)) := by
  rw [zf_X10_in_M, zq_X10_in_M_0]
  by_cases h1 : a < b
  · rw [if_pos ((lg_cmp_lt a b).mpr h1), if_pos h1, zq_X10_in_M_17, zq_X10_in_M_18, if_pos (Or.inl rfl)]
  · rw [if_neg (fun q => h1 ((lg_cmp_lt a b).mp q)), if_neg h1, zq_X10_in_M_6]
    by_cases h2 : c < a
    · rw [if_pos ((lg_cmp_gt a c).mpr h2), if_pos h2, zq_X10_in_M_17, zq_X10_in_M_18, if_pos (Or.inl rfl)]
    · rw [if_neg (fun q => h2 ((lg_cmp_gt a c).mp q)), if_neg h2, zq_X10_in_M_13, zq_X10_in_M_18, if_pos (Or.inr rfl)]
theorem zgm_none (l : Int64) : (if l < 0 then (0 : Int32) else if Int32.toInt64 0 - 1 < l then 0 else 1) = 0 := by
  by_cases h : l < 0
  · rw [if_pos h]
  · rw [if_neg h, if_pos]
    have h1 : (Int32.toInt64 0 - 1 : Int64) = -1 := by decide
    rw [h1]
    have h2 := Int64.not_lt.mp h
    rw [Int64.le_iff_toInt_le] at h2
    rw [Int64.lt_iff_toInt_lt]
    have h3 : (-1 : Int64).toInt = -1 := by decide
    have h4 : (0 : Int64).toInt = 0 := by decide
    omega
theorem zgm_isCaller (h : zy_M I J) (l : Int64) : zF_X10_isCaller zW_M [.ref 0, .long l] (I, J) = some (some (.int 0), (I, J)) := by
  have hc : zF_X10_callers zW_M [.ref 0] (I, J) = some (some (.int 0), (I, J)) := by
    rw [zf_X10_callers_M, zq_X10_callers_M_0, if_neg (by decide), show Int32.toNatClampNeg 5 = 5 by decide, (h.1 7 5 (by decide)).trans (show zc_M 7 5 = 0 by decide)]
  have hi := zgm_in (I := I) (J := J) l 0 (Int32.toInt64 0 - 1)
  rw [zgm_none] at hi
  rw [zf_X10_isCaller_M, zc_X10_isCaller_M_0 _ _ _ hc, zc_X10_isCaller_M_6 _ _ _ _ _ _ hi, zq_X10_isCaller_M_12, if_pos (Or.inl rfl)]
theorem zgm_isSeat (h : zy_M I J) (l : Int64) : zF_X10_isSeat zW_M [.ref 0, .long l] (I, J) = some (some (.int 0), (I, J)) := by
  have hc : zF_X10_seats zW_M [.ref 0] (I, J) = some (some (.int 0), (I, J)) := by
    rw [zf_X10_seats_M, zq_X10_seats_M_0, if_neg (by decide), show Int32.toNatClampNeg 4 = 4 by decide, (h.1 7 4 (by decide)).trans (show zc_M 7 4 = 0 by decide)]
  have hi := zgm_in (I := I) (J := J) l 0 (Int32.toInt64 0 - 1)
  rw [zgm_none] at hi
  rw [zf_X10_isSeat_M, zc_X10_isSeat_M_0 _ _ _ hc, zc_X10_isSeat_M_6 _ _ _ _ _ _ hi, zq_X10_isSeat_M_12, if_pos (Or.inl rfl)]
theorem zgm_isBench (h : zy_M I J) : zF_X10_isBench zW_M [.ref 0] (I, J) = some (some (.int 0), (I, J)) := by
  rw [zf_X10_isBench_M, zq_X10_isBench_M_0, if_neg (by decide), show Int32.toNatClampNeg 0 = 0 by decide, (h.1 6 0 (by decide)).trans (show zc_M 6 0 = 0 by decide), if_pos (by decide), zq_X10_isBench_M_13, zq_X10_isBench_M_14, if_pos (Or.inl rfl)]
theorem zgm_isTime (h : zy_M I J) (n : Int32) : zF_X10_isTime zW_M [.ref 0, .int n] (I, J) = some (some (.int 0), (I, J)) := by
  rw [zf_X10_isTime_M, zc_X10_isTime_M_0 _ _ _ (zgm_isBench h), zq_X10_isTime_M_4, if_pos rfl, zq_X10_isTime_M_18, zq_X10_isTime_M_19, if_pos (Or.inl rfl)]
theorem zgm_isLaw (h : zy_M I J) (n : Int32) : zF_X10_isLaw zW_M [.ref 0, .int n] (I, J) = some (some (.int 0), (I, J)) := by
  rw [zf_X10_isLaw_M, zc_X10_isLaw_M_0 _ _ _ (zgm_isBench h), zq_X10_isLaw_M_4, if_pos rfl, zq_X10_isLaw_M_23, zq_X10_isLaw_M_24, if_pos (Or.inl rfl)]
theorem zgm_areTwo (h : zy_M I J) (a b : Int32) : zF_X10_areTwo zW_M [.ref 0, .int a, .int b] (I, J) = some (some (.int 0), (I, J)) := by
  rw [zf_X10_areTwo_M, zc_X10_areTwo_M_0 _ _ _ _ (zgm_isCaller h _), zq_X10_areTwo_M_6, if_pos rfl, zq_X10_areTwo_M_27, zq_X10_areTwo_M_28, if_pos (Or.inl rfl)]
theorem zgm_isChance (h : zy_M I J) (a b c : Int32) : zF_X10_isChance zW_M [.ref 0, .int a, .int b, .int c] (I, J) = some (some (.int 0), (I, J)) := by
  rw [zf_X10_isChance_M, zc_X10_isChance_M_0 _ _ _ _ _ (zgm_isCaller h _), zq_X10_isChance_M_6, if_pos rfl, zq_X10_isChance_M_32, zq_X10_isChance_M_33, if_pos (Or.inl rfl)]
end ZYG
