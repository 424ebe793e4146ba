/-! THE LAW'S RUN: the ops that do more than refuse -/
theorem zl_feed (xs : Nat → Int32) (M0 : zm_I) : zl_ok (zTo_feed xs) zL_C M0 (348, zl_ls, [], zL_M) := by
  obtain ⟨v, N, h1, h2⟩ := zo_feed zl_freshX (xs 1) (xs 2) (xs 3) (xs 4) (xs 5)
  obtain ⟨N', h2⟩ := h2 _ _ (zl_freshM N)
  exact zl_opI (zlt_feed xs) M0 (zl1_feed xs) (zl2_feed xs) (zl3_feed xs) (zl_callX h1 rfl rfl) (zl_callM h2 rfl rfl)
theorem zl_end (xs : Nat → Int32) (M0 : zm_I) : zl_ok (zTo_end xs) zL_C M0 (411, zl_ls, [], zL_M) := by
  obtain ⟨v, N, h1, h2⟩ := zo_end zl_freshX (xs 1)
  obtain ⟨N', h2⟩ := h2 _ _ (zl_freshM N)
  exact zl_opI (zlt_end xs) M0 (zl1_end xs) (zl2_end xs) (zl3_end xs) (zl_callX h1 rfl rfl) (zl_callM h2 rfl rfl)
theorem zl_bench (xs : Nat → Int32) (M0 : zm_I) : zl_ok (zTo_bench xs) zL_C M0 (434, zl_ls, [], zL_M) := by
  obtain ⟨v, N, h1, h2⟩ := zo_bench zl_freshX
  obtain ⟨N', h2⟩ := h2 _ _ (zl_freshM N)
  exact zl_opI (zlt_bench xs) M0 (zl1_bench xs) (zl2_bench xs) (zl3_bench xs) (zl_callX h1 rfl rfl) (zl_callM h2 rfl rfl)
theorem zl_fault (xs : Nat → Int32) (M0 : zm_I) : zl_ok (zTo_fault xs) zL_C M0 (447, zl_ls, [], zL_M) := by
  obtain ⟨v, N, h1, h2⟩ := zo_fault zl_freshX (xs 1)
  obtain ⟨N', h2⟩ := h2 _ _ (zl_freshM N)
  exact zl_opI (zlt_fault xs) M0 (zl1_fault xs) (zl2_fault xs) (zl3_fault xs) (zl_callX h1 rfl rfl) (zl_callM h2 rfl rfl)
theorem zl_helps (xs : Nat → Int32) (M0 : zm_I) : zl_ok (zTo_helps xs) zL_C M0 (1183, zl_ls, [], zL_M) := by
  obtain ⟨v, N, h1, h2⟩ := zo_helps zl_freshX (xs 1)
  obtain ⟨N', h2⟩ := h2 _ _ (zl_freshM N)
  exact zl_opI (zlt_helps xs) M0 (zl1_helps xs) (zl2_helps xs) (zl3_helps xs) (zl_callX h1 rfl rfl) (zl_callM h2 rfl rfl)
theorem zl_laws (xs : Nat → Int32) (M0 : zm_I) : zl_ok (zTo_laws xs) zL_C M0 (1478, zl_ls, [], zL_M) := by
  obtain ⟨v, N, h1, h2⟩ := zo_laws zl_freshX (xs 1)
  obtain ⟨N', h2⟩ := h2 _ _ (zl_freshM N)
  exact zl_opI (zlt_laws xs) M0 (zl1_laws xs) (zl2_laws xs) (zl3_laws xs) (zl_callX h1 rfl rfl) (zl_callM h2 rfl rfl)
theorem zl_sat (xs : Nat → Int32) (M0 : zm_I) : zl_ok (zTo_sat xs) zL_C M0 (1501, zl_ls, [], zL_M) := by
  obtain ⟨v, N, h1, h2⟩ := zo_sat zl_freshX (xs 1) (xs 2)
  obtain ⟨N', h2⟩ := h2 _ _ (zl_freshM N)
  exact zl_opI (zlt_sat xs) M0 (zl1_sat xs) (zl2_sat xs) (zl3_sat xs) (zl_callX h1 rfl rfl) (zl_callM h2 rfl rfl)
theorem zl_ask (xs : Nat → Int32) (M0 : zm_I) : zl_ok (zTo_ask xs) zL_C M0 (1534, zl_ls, [], zL_M) := by
  obtain ⟨v, N, h1, h2⟩ := zo_ask zl_freshX (xs 1) (xs 2)
  obtain ⟨N', h2⟩ := h2 _ _ (zl_freshM N)
  exact zl_opI (zlt_ask xs) M0 (zl1_ask xs) (zl2_ask xs) (zl3_ask xs) (zl_callX h1 rfl rfl) (zl_callM h2 rfl rfl)
theorem zl_marks (xs : Nat → Int32) (M0 : zm_I) : zl_ok (zTo_marks xs) zL_C M0 (1567, zl_ls, [], zL_M) := by
  obtain ⟨v, N, h1, h2⟩ := zo_marks zl_freshX (xs 1)
  obtain ⟨N', h2⟩ := h2 _ _ (zl_freshM N)
  exact zl_opI (zlt_marks xs) M0 (zl1_marks xs) (zl2_marks xs) (zl3_marks xs) (zl_callX h1 rfl rfl) (zl_callM h2 rfl rfl)
theorem zl_mark (xs : Nat → Int32) (M0 : zm_I) : zl_ok (zTo_mark xs) zL_C M0 (1590, zl_ls, [], zL_M) := by
  obtain ⟨v, N, h1, h2⟩ := zo_mark zl_freshX (xs 1) (xs 2)
  obtain ⟨N', h2⟩ := h2 _ _ (zl_freshM N)
  exact zl_opI (zlt_mark xs) M0 (zl1_mark xs) (zl2_mark xs) (zl3_mark xs) (zl_callX h1 rfl rfl) (zl_callM h2 rfl rfl)
theorem zl_under (xs : Nat → Int32) (M0 : zm_I) : zl_ok (zTo_under xs) zL_C M0 (1623, zl_ls, [], zL_M) := by
  obtain ⟨v, N, h1, h2⟩ := zo_under zl_freshX (xs 1) (xs 2)
  obtain ⟨N', h2⟩ := h2 _ _ (zl_freshM N)
  exact zl_opI (zlt_under xs) M0 (zl1_under xs) (zl2_under xs) (zl3_under xs) (zl_callX h1 rfl rfl) (zl_callM h2 rfl rfl)
theorem zl_luck (xs : Nat → Int32) (M0 : zm_I) : zl_ok (zTo_luck xs) zL_C M0 (1972, zl_ls, [], zL_M) := by
  obtain ⟨v, N, h1, h2⟩ := zo_luck zl_freshX (xs 1) (xs 2) (xs 3)
  obtain ⟨N', h2⟩ := h2 _ _ (zl_freshM N)
  exact zl_opI (zlt_luck xs) M0 (zl1_luck xs) (zl2_luck xs) (zl3_luck xs) (zl_callX h1 rfl rfl) (zl_callM h2 rfl rfl)
theorem zl_count (xs : Nat → Int32) (M0 : zm_I) : zl_ok (zTo_count xs) zL_C M0 (2038, zl_ls, [], zL_M) := by
  obtain ⟨v, N, h1, h2⟩ := zo_count zl_freshX (xs 1)
  obtain ⟨N', h2⟩ := h2 _ _ (zl_freshM N)
  exact zl_opI (zlt_count xs) M0 (zl1_count xs) (zl2_count xs) (zl3_count xs) (zl_callX h1 rfl rfl) (zl_callM h2 rfl rfl)
theorem zl_row (xs : Nat → Int32) (M0 : zm_I) : zl_ok (zTo_row xs) zL_C M0 (2107, zl_ls, [], zL_M) := by
  obtain ⟨v, N, h1, h2⟩ := zo_row zl_freshX (xs 1) (xs 2) (xs 3)
  obtain ⟨N', h2⟩ := h2 _ _ (zl_freshM N)
  exact zl_opI (zlt_row xs) M0 (zl1_row xs) (zl2_row xs) (zl3_row xs) (zl_callX h1 rfl rfl) (zl_callM h2 rfl rfl)
theorem zl_write (xs : Nat → Int32) (M0 : zm_I) : zl_ok (zTo_write xs) zL_C M0 (2150, zl_ls, [], zL_M) := by
  obtain ⟨v, N, h1, h2⟩ := zo_write zl_freshX (xs 1) (xs 2) (((Int32.toInt64 (xs 3)) <<< (Int32.toInt64 32 &&& 63)) ||| ((Int32.toInt64 (xs 4)) &&& 4294967295))
  obtain ⟨N', h2⟩ := h2 _ _ (zl_freshM N)
  exact zl_opI (zlt_write xs) M0 (zl1_write xs) (zl2_write xs) (zl3_write xs) (zl_callX h1 rfl rfl) (zl_callM h2 rfl rfl)
theorem zl_paste (xs : Nat → Int32) (M0 : zm_I) : zl_ok (zTo_paste xs) zL_C M0 (2223, zl_ls, [], zL_M) := by
  obtain ⟨v, N, h1, h2⟩ := zo_paste zl_freshX (xs 1) (xs 2) (xs 3) (xs 4) (xs 5)
  obtain ⟨N', h2⟩ := h2 _ _ (zl_freshM N)
  exact zl_opI (zlt_paste xs) M0 (zl1_paste xs) (zl2_paste xs) (zl3_paste xs) (zl_callX h1 rfl rfl) (zl_callM h2 rfl rfl)
