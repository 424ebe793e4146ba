/-! THE LAW'S WALK, op by op (printed by program, wip/law/genloop.py) -/
section ZFQ
variable {p : Program} {l : Launch} {e : Env} {s : State} {m : MethodId} {below : List Frame} {meth : Method} {c : Code} {b L : Nat} {xs : Nat → Int32} {D : va_G} {cA : FieldType → ClassId} {g : Nat → Nat}
/-- where the law's loop goes on: in any world that it may have come to -/
def zf_K (p : Program) (l : Launch) (e : Env) (s : State) (m : MethodId) (below : List Frame) (meth : Method) (c : Code) (b : Nat) (D : va_G) (cA : FieldType → ClassId) (g : Nat → Nat) (pc : Nat) (ls : List (Option Value)) : Prop := ∀ (ks : List Nat) (h : Nat → Nat → Nat) (M : zm_I) (c0 s0 : Nat), ks ∈ zK_all → (∀ n, h 1 n = g n) → va_D (fun q => s.heap.size ≤ q) (zm_ws cA h (zL_w ks) M) → c0 + 10 * (3 - ks.length) ≤ room_1.cells → s0 + 171 * (3 - ks.length) ≤ room_1.slots → zy_I ks M → zR ks M → zm_G p l e room_1 s m #[Value.ref b] below meth c (zf_Z below #[Value.ref b] s) D cA h (zL_w ks) (fun q => s.heap.size ≤ q) 4 c0 s0 (pc, ls, [], M)
theorem zy_feed (hB : zf_B p s m meth c b L xs D cA g) {j : Nat} (hj : 6 * j + 6 ≤ L ∧ L ≤ 3072) (hk : zf_K p l e s m below meth c b D cA g zp_tail (zl_lb (zl_i j))) : zf_K p l e s m below meth c b D cA g 348 (zl_lb (zl_i j)) := by
  intro ks h M c0 s0 hks hg hD hc hs hI hR
  obtain ⟨x, y, N1, N2, ho, hI2, f1, f2⟩ := zy_I2 hks hI (fun hG => zp_X9_feed hG (xs (6 * j + 1)) (xs (6 * j + 2)) (xs (6 * j + 3)) (xs (6 * j + 4)) (xs (6 * j + 5))) (fun hG hP => zp_X10_feed hG hP (xs (6 * j + 1)) (xs (6 * j + 2)) (xs (6 * j + 3)) (xs (6 * j + 4)) (xs (6 * j + 5)))
  have hR2 : zR ks (zy_2 M N1 N2) := zr_feed hks hI hR ho f1 f2
  exact zy_opI hB hg hks hD (by omega) (by omega) (zxo_feed l L xs) rfl rfl (zl1_feed hj xs (zL_w ks) M) (fun v M => zl2_feed hj xs (zL_w ks) v M) (fun w M => zl3_feed L xs _ (zL_w ks) w M) rfl rfl ho (hk ks h _ c0 s0 hks hg (zm_D_any hD) hc hs hI2 hR2)
theorem zy_end (hB : zf_B p s m meth c b L xs D cA g) {j : Nat} (hj : 6 * j + 6 ≤ L ∧ L ≤ 3072) (hk : zf_K p l e s m below meth c b D cA g zp_tail (zl_lb (zl_i j))) : zf_K p l e s m below meth c b D cA g 411 (zl_lb (zl_i j)) := by
  intro ks h M c0 s0 hks hg hD hc hs hI hR
  obtain ⟨x, y, N1, N2, ho, hI2, f1, f2⟩ := zy_I2 hks hI (fun hG => zp_X9_end hG (xs (6 * j + 1))) (fun hG hP => zp_X10_end hG hP (xs (6 * j + 1)))
  have hR2 : zR ks (zy_2 M N1 N2) := zr_end hks hI hR ho f1 f2
  exact zy_opI hB hg hks hD (by omega) (by omega) (zxo_end l L xs) rfl rfl (zl1_end hj xs (zL_w ks) M) (fun v M => zl2_end hj xs (zL_w ks) v M) (fun w M => zl3_end L xs _ (zL_w ks) w M) rfl rfl ho (hk ks h _ c0 s0 hks hg (zm_D_any hD) hc hs hI2 hR2)
theorem zy_bench (hB : zf_B p s m meth c b L xs D cA g) {j : Nat} (hj : 6 * j + 6 ≤ L ∧ L ≤ 3072) (hk : zf_K p l e s m below meth c b D cA g zp_tail (zl_lb (zl_i j))) : zf_K p l e s m below meth c b D cA g 434 (zl_lb (zl_i j)) := by
  intro ks h M c0 s0 hks hg hD hc hs hI hR
  obtain ⟨x, y, N1, N2, ho, hI2, f1, f2⟩ := zy_I2 hks hI (fun hG => zp_X9_bench hG ) (fun hG hP => zp_X10_bench hG hP )
  have hR2 : zR ks (zy_2 M N1 N2) := zr_bench hks hI hR ho f1 f2
  exact zy_opI hB hg hks hD (by omega) (by omega) (zxo_bench l L xs) rfl rfl (zl1_bench hj xs (zL_w ks) M) (fun v M => zl2_bench hj xs (zL_w ks) v M) (fun w M => zl3_bench L xs _ (zL_w ks) w M) rfl rfl ho (hk ks h _ c0 s0 hks hg (zm_D_any hD) hc hs hI2 hR2)
theorem zy_fault (hB : zf_B p s m meth c b L xs D cA g) {j : Nat} (hj : 6 * j + 6 ≤ L ∧ L ≤ 3072) (hk : zf_K p l e s m below meth c b D cA g zp_tail (zl_lb (zl_i j))) : zf_K p l e s m below meth c b D cA g 447 (zl_lb (zl_i j)) := by
  intro ks h M c0 s0 hks hg hD hc hs hI hR
  obtain ⟨x, y, N1, N2, ho, hI2, f1, f2⟩ := zy_I2 hks hI (fun hG => zp_X9_fault hG (xs (6 * j + 1))) (fun hG hP => zp_X10_fault hG hP (xs (6 * j + 1)))
  have hR2 : zR ks (zy_2 M N1 N2) := zr_fault hks hI hR ho f1 f2
  exact zy_opI hB hg hks hD (by omega) (by omega) (zxo_fault l L xs) rfl rfl (zl1_fault hj xs (zL_w ks) M) (fun v M => zl2_fault hj xs (zL_w ks) v M) (fun w M => zl3_fault L xs _ (zL_w ks) w M) rfl rfl ho (hk ks h _ c0 s0 hks hg (zm_D_any hD) hc hs hI2 hR2)
theorem zy_seat (hB : zf_B p s m meth c b L xs D cA g) {j : Nat} (hj : 6 * j + 6 ≤ L ∧ L ≤ 3072) (hk : zf_K p l e s m below meth c b D cA g zp_tail (zl_lb (zl_i j))) : zf_K p l e s m below meth c b D cA g 470 (zl_lb (zl_i j)) := by
  intro ks h M c0 s0 hks hg hD hc hs hI hR
  obtain ⟨x, y, N1, N2, ho, hI2, f1, f2⟩ := zy_I2 hks hI (fun hG => zp_X9_seat hG (xs (6 * j + 1))) (fun hG hP => zp_X10_seat hG hP (xs (6 * j + 1)))
  have hR2 : zR ks (zy_2 M N1 N2) := zr_seat hks hI hR ho f1 f2
  exact zy_opI hB hg hks hD (by omega) (by omega) (zxo_seat l L xs) rfl rfl (zl1_seat hj xs (zL_w ks) M) (fun v M => zl2_seat hj xs (zL_w ks) v M) (fun w M => zl3_seat L xs _ (zL_w ks) w M) rfl rfl ho (hk ks h _ c0 s0 hks hg (zm_D_any hD) hc hs hI2 hR2)
theorem zy_caller (hB : zf_B p s m meth c b L xs D cA g) {j : Nat} (hj : 6 * j + 6 ≤ L ∧ L ≤ 3072) (hk : zf_K p l e s m below meth c b D cA g zp_tail (zl_lb (zl_i j))) : zf_K p l e s m below meth c b D cA g 493 (zl_lb (zl_i j)) := by
  intro ks h M c0 s0 hks hg hD hc hs hI hR
  obtain ⟨x, y, N1, N2, ho, hI2, f1, f2⟩ := zy_I2 hks hI (fun hG => zp_X9_caller hG (xs (6 * j + 1)) (xs (6 * j + 2))) (fun hG hP => zp_X10_caller hG hP (xs (6 * j + 1)) (xs (6 * j + 2)))
  have hR2 : zR ks (zy_2 M N1 N2) := zr_caller hks hI hR ho f1 f2
  exact zy_opI hB hg hks hD (by omega) (by omega) (zxo_caller l L xs) rfl rfl (zl1_caller hj xs (zL_w ks) M) (fun v M => zl2_caller hj xs (zL_w ks) v M) (fun w M => zl3_caller L xs _ (zL_w ks) w M) rfl rfl ho (hk ks h _ c0 s0 hks hg (zm_D_any hD) hc hs hI2 hR2)
theorem zy_age (hB : zf_B p s m meth c b L xs D cA g) {j : Nat} (hj : 6 * j + 6 ≤ L ∧ L ≤ 3072) (hk : zf_K p l e s m below meth c b D cA g zp_tail (zl_lb (zl_i j))) : zf_K p l e s m below meth c b D cA g 526 (zl_lb (zl_i j)) := by
  intro ks h M c0 s0 hks hg hD hc hs hI hR
  obtain ⟨x, y, N1, N2, ho, hI2, f1, f2⟩ := zy_I2 hks hI (fun hG => zp_X9_age hG (xs (6 * j + 1)) (xs (6 * j + 2))) (fun hG hP => zp_X10_age hG hP (xs (6 * j + 1)) (xs (6 * j + 2)))
  have hR2 : zR ks (zy_2 M N1 N2) := zr_age hks hI hR ho f1 f2
  exact zy_opI hB hg hks hD (by omega) (by omega) (zxo_age l L xs) rfl rfl (zl1_age hj xs (zL_w ks) M) (fun v M => zl2_age hj xs (zL_w ks) v M) (fun w M => zl3_age L xs _ (zL_w ks) w M) rfl rfl ho (hk ks h _ c0 s0 hks hg (zm_D_any hD) hc hs hI2 hR2)
theorem zy_sits (hB : zf_B p s m meth c b L xs D cA g) {j : Nat} (hj : 6 * j + 6 ≤ L ∧ L ≤ 3072) (hk : zf_K p l e s m below meth c b D cA g zp_tail (zl_lb (zl_i j))) : zf_K p l e s m below meth c b D cA g 559 (zl_lb (zl_i j)) := by
  intro ks h M c0 s0 hks hg hD hc hs hI hR
  obtain ⟨x, y, N1, N2, ho, hI2, f1, f2⟩ := zy_I2 hks hI (fun hG => zp_X9_sits hG (xs (6 * j + 1)) (xs (6 * j + 2))) (fun hG hP => zp_X10_sits hG hP (xs (6 * j + 1)) (xs (6 * j + 2)))
  have hR2 : zR ks (zy_2 M N1 N2) := zr_sits hks hI hR ho f1 f2
  exact zy_opI hB hg hks hD (by omega) (by omega) (zxo_sits l L xs) rfl rfl (zl1_sits hj xs (zL_w ks) M) (fun v M => zl2_sits hj xs (zL_w ks) v M) (fun w M => zl3_sits L xs _ (zL_w ks) w M) rfl rfl ho (hk ks h _ c0 s0 hks hg (zm_D_any hD) hc hs hI2 hR2)
theorem zy_stands (hB : zf_B p s m meth c b L xs D cA g) {j : Nat} (hj : 6 * j + 6 ≤ L ∧ L ≤ 3072) (hk : zf_K p l e s m below meth c b D cA g zp_tail (zl_lb (zl_i j))) : zf_K p l e s m below meth c b D cA g 592 (zl_lb (zl_i j)) := by
  intro ks h M c0 s0 hks hg hD hc hs hI hR
  obtain ⟨x, y, N1, N2, ho, hI2, f1, f2⟩ := zy_I2 hks hI (fun hG => zp_X9_stands hG (xs (6 * j + 1))) (fun hG hP => zp_X10_stands hG hP (xs (6 * j + 1)))
  have hR2 : zR ks (zy_2 M N1 N2) := zr_stands hks hI hR ho f1 f2
  exact zy_opI hB hg hks hD (by omega) (by omega) (zxo_stands l L xs) rfl rfl (zl1_stands hj xs (zL_w ks) M) (fun v M => zl2_stands hj xs (zL_w ks) v M) (fun w M => zl3_stands L xs _ (zL_w ks) w M) rfl rfl ho (hk ks h _ c0 s0 hks hg (zm_D_any hD) hc hs hI2 hR2)
theorem zy_free (hB : zf_B p s m meth c b L xs D cA g) {j : Nat} (hj : 6 * j + 6 ≤ L ∧ L ≤ 3072) (hk : zf_K p l e s m below meth c b D cA g zp_tail (zl_lb (zl_i j))) : zf_K p l e s m below meth c b D cA g 615 (zl_lb (zl_i j)) := by
  intro ks h M c0 s0 hks hg hD hc hs hI hR
  obtain ⟨x, y, N1, N2, ho, hI2, f1, f2⟩ := zy_I2 hks hI (fun hG => zp_X9_free hG (xs (6 * j + 1))) (fun hG hP => zp_X10_free hG hP (xs (6 * j + 1)))
  have hR2 : zR ks (zy_2 M N1 N2) := zr_free hks hI hR ho f1 f2
  exact zy_opI hB hg hks hD (by omega) (by omega) (zxo_free l L xs) rfl rfl (zl1_free hj xs (zL_w ks) M) (fun v M => zl2_free hj xs (zL_w ks) v M) (fun w M => zl3_free L xs _ (zL_w ks) w M) rfl rfl ho (hk ks h _ c0 s0 hks hg (zm_D_any hD) hc hs hI2 hR2)
theorem zy_goes (hB : zf_B p s m meth c b L xs D cA g) {j : Nat} (hj : 6 * j + 6 ≤ L ∧ L ≤ 3072) (hk : zf_K p l e s m below meth c b D cA g zp_tail (zl_lb (zl_i j))) : zf_K p l e s m below meth c b D cA g 638 (zl_lb (zl_i j)) := by
  intro ks h M c0 s0 hks hg hD hc hs hI hR
  obtain ⟨x, y, N1, N2, ho, hI2, f1, f2⟩ := zy_I2 hks hI (fun hG => zp_X9_goes hG (xs (6 * j + 1))) (fun hG hP => zp_X10_goes hG hP (xs (6 * j + 1)))
  have hR2 : zR ks (zy_2 M N1 N2) := zr_goes hks hI hR ho f1 f2
  exact zy_opI hB hg hks hD (by omega) (by omega) (zxo_goes l L xs) rfl rfl (zl1_goes hj xs (zL_w ks) M) (fun v M => zl2_goes hj xs (zL_w ks) v M) (fun w M => zl3_goes L xs _ (zL_w ks) w M) rfl rfl ho (hk ks h _ c0 s0 hks hg (zm_D_any hD) hc hs hI2 hR2)
theorem zy_called (hB : zf_B p s m meth c b L xs D cA g) {j : Nat} (hj : 6 * j + 6 ≤ L ∧ L ≤ 3072) (hk : zf_K p l e s m below meth c b D cA g zp_tail (zl_lb (zl_i j))) : zf_K p l e s m below meth c b D cA g 661 (zl_lb (zl_i j)) := by
  intro ks h M c0 s0 hks hg hD hc hs hI hR
  obtain ⟨x, y, N1, N2, ho, hI2, f1, f2⟩ := zy_I2 hks hI (fun hG => zp_X9_called hG (xs (6 * j + 1))) (fun hG hP => zp_X10_called hG hP (xs (6 * j + 1)))
  have hR2 : zR ks (zy_2 M N1 N2) := zr_called hks hI hR ho f1 f2
  exact zy_opI hB hg hks hD (by omega) (by omega) (zxo_called l L xs) rfl rfl (zl1_called hj xs (zL_w ks) M) (fun v M => zl2_called hj xs (zL_w ks) v M) (fun w M => zl3_called L xs _ (zL_w ks) w M) rfl rfl ho (hk ks h _ c0 s0 hks hg (zm_D_any hD) hc hs hI2 hR2)
theorem zy_ends (hB : zf_B p s m meth c b L xs D cA g) {j : Nat} (hj : 6 * j + 6 ≤ L ∧ L ≤ 3072) (hk : zf_K p l e s m below meth c b D cA g zp_tail (zl_lb (zl_i j))) : zf_K p l e s m below meth c b D cA g 684 (zl_lb (zl_i j)) := by
  intro ks h M c0 s0 hks hg hD hc hs hI hR
  obtain ⟨x, y, N1, N2, ho, hI2, f1, f2⟩ := zy_I2 hks hI (fun hG => zp_X9_ends hG (xs (6 * j + 1))) (fun hG hP => zp_X10_ends_ hG hP (xs (6 * j + 1)))
  have hR2 : zR ks (zy_2 M N1 N2) := zr_ends hks hI hR ho f1 f2
  exact zy_opI hB hg hks hD (by omega) (by omega) (zxo_ends l L xs) rfl rfl (zl1_ends hj xs (zL_w ks) M) (fun v M => zl2_ends hj xs (zL_w ks) v M) (fun w M => zl3_ends L xs _ (zL_w ks) w M) rfl rfl ho (hk ks h _ c0 s0 hks hg (zm_D_any hD) hc hs hI2 hR2)
theorem zy_told (hB : zf_B p s m meth c b L xs D cA g) {j : Nat} (hj : 6 * j + 6 ≤ L ∧ L ≤ 3072) (hk : zf_K p l e s m below meth c b D cA g zp_tail (zl_lb (zl_i j))) : zf_K p l e s m below meth c b D cA g 707 (zl_lb (zl_i j)) := by
  intro ks h M c0 s0 hks hg hD hc hs hI hR
  obtain ⟨x, y, N1, N2, ho, hI2, f1, f2⟩ := zy_I2 hks hI (fun hG => zp_X9_told hG ) (fun hG hP => zp_X10_told hG hP )
  have hR2 : zR ks (zy_2 M N1 N2) := zr_told hks hI hR ho f1 f2
  exact zy_opI hB hg hks hD (by omega) (by omega) (zxo_told l L xs) rfl rfl (zl1_told hj xs (zL_w ks) M) (fun v M => zl2_told hj xs (zL_w ks) v M) (fun w M => zl3_told L xs _ (zL_w ks) w M) rfl rfl ho (hk ks h _ c0 s0 hks hg (zm_D_any hD) hc hs hI2 hR2)
theorem zy_forgotten (hB : zf_B p s m meth c b L xs D cA g) {j : Nat} (hj : 6 * j + 6 ≤ L ∧ L ≤ 3072) (hk : zf_K p l e s m below meth c b D cA g zp_tail (zl_lb (zl_i j))) : zf_K p l e s m below meth c b D cA g 720 (zl_lb (zl_i j)) := by
  intro ks h M c0 s0 hks hg hD hc hs hI hR
  obtain ⟨x, y, N1, N2, ho, hI2, f1, f2⟩ := zy_I2 hks hI (fun hG => zp_X9_forgotten hG ) (fun hG hP => zp_X10_forgotten hG hP )
  have hR2 : zR ks (zy_2 M N1 N2) := zr_forgotten hks hI hR ho f1 f2
  exact zy_opI hB hg hks hD (by omega) (by omega) (zxo_forgotten l L xs) rfl rfl (zl1_forgotten hj xs (zL_w ks) M) (fun v M => zl2_forgotten hj xs (zL_w ks) v M) (fun w M => zl3_forgotten L xs _ (zL_w ks) w M) rfl rfl ho (hk ks h _ c0 s0 hks hg (zm_D_any hD) hc hs hI2 hR2)
theorem zy_gun (hB : zf_B p s m meth c b L xs D cA g) {j : Nat} (hj : 6 * j + 6 ≤ L ∧ L ≤ 3072) (hk : zf_K p l e s m below meth c b D cA g zp_tail (zl_lb (zl_i j))) : zf_K p l e s m below meth c b D cA g 733 (zl_lb (zl_i j)) := by
  intro ks h M c0 s0 hks hg hD hc hs hI hR
  obtain ⟨x, y, N1, N2, ho, hI2, f1, f2⟩ := zy_I2 hks hI (fun hG => zp_X9_gun hG ) (fun hG hP => zp_X10_gun hG hP )
  have hR2 : zR ks (zy_2 M N1 N2) := zr_gun hks hI hR ho f1 f2
  exact zy_opI hB hg hks hD (by omega) (by omega) (zxo_gun l L xs) rfl rfl (zl1_gun hj xs (zL_w ks) M) (fun v M => zl2_gun hj xs (zL_w ks) v M) (fun w M => zl3_gun L xs _ (zL_w ks) w M) rfl rfl ho (hk ks h _ c0 s0 hks hg (zm_D_any hD) hc hs hI2 hR2)
theorem zy_waits (hB : zf_B p s m meth c b L xs D cA g) {j : Nat} (hj : 6 * j + 6 ≤ L ∧ L ≤ 3072) (hk : zf_K p l e s m below meth c b D cA g zp_tail (zl_lb (zl_i j))) : zf_K p l e s m below meth c b D cA g 746 (zl_lb (zl_i j)) := by
  intro ks h M c0 s0 hks hg hD hc hs hI hR
  obtain ⟨x, y, N1, N2, ho, hI2, f1, f2⟩ := zy_I2 hks hI (fun hG => zp_X9_waits hG (xs (6 * j + 1))) (fun hG hP => zp_X10_waits hG hP (xs (6 * j + 1)))
  have hR2 : zR ks (zy_2 M N1 N2) := zr_waits hks hI hR ho f1 f2
  exact zy_opI hB hg hks hD (by omega) (by omega) (zxo_waits l L xs) rfl rfl (zl1_waits hj xs (zL_w ks) M) (fun v M => zl2_waits hj xs (zL_w ks) v M) (fun w M => zl3_waits L xs _ (zL_w ks) w M) rfl rfl ho (hk ks h _ c0 s0 hks hg (zm_D_any hD) hc hs hI2 hR2)
theorem zy_worn (hB : zf_B p s m meth c b L xs D cA g) {j : Nat} (hj : 6 * j + 6 ≤ L ∧ L ≤ 3072) (hk : zf_K p l e s m below meth c b D cA g zp_tail (zl_lb (zl_i j))) : zf_K p l e s m below meth c b D cA g 769 (zl_lb (zl_i j)) := by
  intro ks h M c0 s0 hks hg hD hc hs hI hR
  obtain ⟨x, y, N1, N2, ho, hI2, f1, f2⟩ := zy_I2 hks hI (fun hG => zp_X9_worn hG (xs (6 * j + 1)) (xs (6 * j + 2))) (fun hG hP => zp_X10_worn hG hP (xs (6 * j + 1)) (xs (6 * j + 2)))
  have hR2 : zR ks (zy_2 M N1 N2) := zr_worn hks hI hR ho f1 f2
  exact zy_opI hB hg hks hD (by omega) (by omega) (zxo_worn l L xs) rfl rfl (zl1_worn hj xs (zL_w ks) M) (fun v M => zl2_worn hj xs (zL_w ks) v M) (fun w M => zl3_worn L xs _ (zL_w ks) w M) rfl rfl ho (hk ks h _ c0 s0 hks hg (zm_D_any hD) hc hs hI2 hR2)
theorem zy_dip (hB : zf_B p s m meth c b L xs D cA g) {j : Nat} (hj : 6 * j + 6 ≤ L ∧ L ≤ 3072) (hk : zf_K p l e s m below meth c b D cA g zp_tail (zl_lb (zl_i j))) : zf_K p l e s m below meth c b D cA g 802 (zl_lb (zl_i j)) := by
  intro ks h M c0 s0 hks hg hD hc hs hI hR
  obtain ⟨x, y, N1, N2, ho, hI2, f1, f2⟩ := zy_I2 hks hI (fun hG => zp_X9_dip hG (xs (6 * j + 1))) (fun hG hP => zp_X10_dip hG hP (xs (6 * j + 1)))
  have hR2 : zR ks (zy_2 M N1 N2) := zr_dip hks hI hR ho f1 f2
  exact zy_opI hB hg hks hD (by omega) (by omega) (zxo_dip l L xs) rfl rfl (zl1_dip hj xs (zL_w ks) M) (fun v M => zl2_dip hj xs (zL_w ks) v M) (fun w M => zl3_dip L xs _ (zL_w ks) w M) rfl rfl ho (hk ks h _ c0 s0 hks hg (zm_D_any hD) hc hs hI2 hR2)
theorem zy_deepest (hB : zf_B p s m meth c b L xs D cA g) {j : Nat} (hj : 6 * j + 6 ≤ L ∧ L ≤ 3072) (hk : zf_K p l e s m below meth c b D cA g zp_tail (zl_lb (zl_i j))) : zf_K p l e s m below meth c b D cA g 825 (zl_lb (zl_i j)) := by
  intro ks h M c0 s0 hks hg hD hc hs hI hR
  obtain ⟨x, y, N1, N2, ho, hI2, f1, f2⟩ := zy_I2 hks hI (fun hG => zp_X9_deepest hG ) (fun hG hP => zp_X10_deepest hG hP )
  have hR2 : zR ks (zy_2 M N1 N2) := zr_deepest hks hI hR ho f1 f2
  exact zy_opI hB hg hks hD (by omega) (by omega) (zxo_deepest l L xs) rfl rfl (zl1_deepest hj xs (zL_w ks) M) (fun v M => zl2_deepest hj xs (zL_w ks) v M) (fun w M => zl3_deepest L xs _ (zL_w ks) w M) rfl rfl ho (hk ks h _ c0 s0 hks hg (zm_D_any hD) hc hs hI2 hR2)
theorem zy_youngest (hB : zf_B p s m meth c b L xs D cA g) {j : Nat} (hj : 6 * j + 6 ≤ L ∧ L ≤ 3072) (hk : zf_K p l e s m below meth c b D cA g zp_tail (zl_lb (zl_i j))) : zf_K p l e s m below meth c b D cA g 838 (zl_lb (zl_i j)) := by
  intro ks h M c0 s0 hks hg hD hc hs hI hR
  obtain ⟨x, y, N1, N2, ho, hI2, f1, f2⟩ := zy_I2 hks hI (fun hG => zp_X9_youngest hG (xs (6 * j + 1))) (fun hG hP => zp_X10_youngest hG hP (xs (6 * j + 1)))
  have hR2 : zR ks (zy_2 M N1 N2) := zr_youngest hks hI hR ho f1 f2
  exact zy_opI hB hg hks hD (by omega) (by omega) (zxo_youngest l L xs) rfl rfl (zl1_youngest hj xs (zL_w ks) M) (fun v M => zl2_youngest hj xs (zL_w ks) v M) (fun w M => zl3_youngest L xs _ (zL_w ks) w M) rfl rfl ho (hk ks h _ c0 s0 hks hg (zm_D_any hD) hc hs hI2 hR2)
theorem zy_oldest (hB : zf_B p s m meth c b L xs D cA g) {j : Nat} (hj : 6 * j + 6 ≤ L ∧ L ≤ 3072) (hk : zf_K p l e s m below meth c b D cA g zp_tail (zl_lb (zl_i j))) : zf_K p l e s m below meth c b D cA g 861 (zl_lb (zl_i j)) := by
  intro ks h M c0 s0 hks hg hD hc hs hI hR
  obtain ⟨x, y, N1, N2, ho, hI2, f1, f2⟩ := zy_I2 hks hI (fun hG => zp_X9_oldest hG (xs (6 * j + 1))) (fun hG hP => zp_X10_oldest hG hP (xs (6 * j + 1)))
  have hR2 : zR ks (zy_2 M N1 N2) := zr_oldest hks hI hR ho f1 f2
  exact zy_opI hB hg hks hD (by omega) (by omega) (zxo_oldest l L xs) rfl rfl (zl1_oldest hj xs (zL_w ks) M) (fun v M => zl2_oldest hj xs (zL_w ks) v M) (fun w M => zl3_oldest L xs _ (zL_w ks) w M) rfl rfl ho (hk ks h _ c0 s0 hks hg (zm_D_any hD) hc hs hI2 hR2)
theorem zy_meets (hB : zf_B p s m meth c b L xs D cA g) {j : Nat} (hj : 6 * j + 6 ≤ L ∧ L ≤ 3072) (hk : zf_K p l e s m below meth c b D cA g zp_tail (zl_lb (zl_i j))) : zf_K p l e s m below meth c b D cA g 884 (zl_lb (zl_i j)) := by
  intro ks h M c0 s0 hks hg hD hc hs hI hR
  obtain ⟨x, y, N1, N2, ho, hI2, f1, f2⟩ := zy_I2 hks hI (fun hG => zp_X9_meets hG (xs (6 * j + 1)) (xs (6 * j + 2))) (fun hG hP => zp_X10_meets hG hP (xs (6 * j + 1)) (xs (6 * j + 2)))
  have hR2 : zR ks (zy_2 M N1 N2) := zr_meets hks hI hR ho f1 f2
  exact zy_opI hB hg hks hD (by omega) (by omega) (zxo_meets l L xs) rfl rfl (zl1_meets hj xs (zL_w ks) M) (fun v M => zl2_meets hj xs (zL_w ks) v M) (fun w M => zl3_meets L xs _ (zL_w ks) w M) rfl rfl ho (hk ks h _ c0 s0 hks hg (zm_D_any hD) hc hs hI2 hR2)
theorem zy_ripe (hB : zf_B p s m meth c b L xs D cA g) {j : Nat} (hj : 6 * j + 6 ≤ L ∧ L ≤ 3072) (hk : zf_K p l e s m below meth c b D cA g zp_tail (zl_lb (zl_i j))) : zf_K p l e s m below meth c b D cA g 917 (zl_lb (zl_i j)) := by
  intro ks h M c0 s0 hks hg hD hc hs hI hR
  obtain ⟨x, y, N1, N2, ho, hI2, f1, f2⟩ := zy_I2 hks hI (fun hG => zp_X9_ripe hG (xs (6 * j + 1))) (fun hG hP => zp_X10_ripe hG hP (xs (6 * j + 1)))
  have hR2 : zR ks (zy_2 M N1 N2) := zr_ripe hks hI hR ho f1 f2
  exact zy_opI hB hg hks hD (by omega) (by omega) (zxo_ripe l L xs) rfl rfl (zl1_ripe hj xs (zL_w ks) M) (fun v M => zl2_ripe hj xs (zL_w ks) v M) (fun w M => zl3_ripe L xs _ (zL_w ks) w M) rfl rfl ho (hk ks h _ c0 s0 hks hg (zm_D_any hD) hc hs hI2 hR2)
theorem zy_window (hB : zf_B p s m meth c b L xs D cA g) {j : Nat} (hj : 6 * j + 6 ≤ L ∧ L ≤ 3072) (hk : zf_K p l e s m below meth c b D cA g zp_tail (zl_lb (zl_i j))) : zf_K p l e s m below meth c b D cA g 940 (zl_lb (zl_i j)) := by
  intro ks h M c0 s0 hks hg hD hc hs hI hR
  obtain ⟨x, y, N1, N2, ho, hI2, f1, f2⟩ := zy_I2 hks hI (fun hG => zp_X9_window hG (xs (6 * j + 1))) (fun hG hP => zp_X10_window hG hP (xs (6 * j + 1)))
  have hR2 : zR ks (zy_2 M N1 N2) := zr_window hks hI hR ho f1 f2
  exact zy_opI hB hg hks hD (by omega) (by omega) (zxo_window l L xs) rfl rfl (zl1_window hj xs (zL_w ks) M) (fun v M => zl2_window hj xs (zL_w ks) v M) (fun w M => zl3_window L xs _ (zL_w ks) w M) rfl rfl ho (hk ks h _ c0 s0 hks hg (zm_D_any hD) hc hs hI2 hR2)
theorem zy_misses (hB : zf_B p s m meth c b L xs D cA g) {j : Nat} (hj : 6 * j + 6 ≤ L ∧ L ≤ 3072) (hk : zf_K p l e s m below meth c b D cA g zp_tail (zl_lb (zl_i j))) : zf_K p l e s m below meth c b D cA g 963 (zl_lb (zl_i j)) := by
  intro ks h M c0 s0 hks hg hD hc hs hI hR
  obtain ⟨x, y, N1, N2, ho, hI2, f1, f2⟩ := zy_I2 hks hI (fun hG => zp_X9_misses hG (xs (6 * j + 1))) (fun hG hP => zp_X10_misses hG hP (xs (6 * j + 1)))
  have hR2 : zR ks (zy_2 M N1 N2) := zr_misses hks hI hR ho f1 f2
  exact zy_opI hB hg hks hD (by omega) (by omega) (zxo_misses l L xs) rfl rfl (zl1_misses hj xs (zL_w ks) M) (fun v M => zl2_misses hj xs (zL_w ks) v M) (fun w M => zl3_misses L xs _ (zL_w ks) w M) rfl rfl ho (hk ks h _ c0 s0 hks hg (zm_D_any hD) hc hs hI2 hR2)
theorem zy_grown (hB : zf_B p s m meth c b L xs D cA g) {j : Nat} (hj : 6 * j + 6 ≤ L ∧ L ≤ 3072) (hk : zf_K p l e s m below meth c b D cA g zp_tail (zl_lb (zl_i j))) : zf_K p l e s m below meth c b D cA g 986 (zl_lb (zl_i j)) := by
  intro ks h M c0 s0 hks hg hD hc hs hI hR
  obtain ⟨x, y, N1, N2, ho, hI2, f1, f2⟩ := zy_I2 hks hI (fun hG => zp_X9_grown hG (xs (6 * j + 1))) (fun hG hP => zp_X10_grown hG hP (xs (6 * j + 1)))
  have hR2 : zR ks (zy_2 M N1 N2) := zr_grown hks hI hR ho f1 f2
  exact zy_opI hB hg hks hD (by omega) (by omega) (zxo_grown l L xs) rfl rfl (zl1_grown hj xs (zL_w ks) M) (fun v M => zl2_grown hj xs (zL_w ks) v M) (fun w M => zl3_grown L xs _ (zL_w ks) w M) rfl rfl ho (hk ks h _ c0 s0 hks hg (zm_D_any hD) hc hs hI2 hR2)
theorem zy_beside (hB : zf_B p s m meth c b L xs D cA g) {j : Nat} (hj : 6 * j + 6 ≤ L ∧ L ≤ 3072) (hk : zf_K p l e s m below meth c b D cA g zp_tail (zl_lb (zl_i j))) : zf_K p l e s m below meth c b D cA g 1009 (zl_lb (zl_i j)) := by
  intro ks h M c0 s0 hks hg hD hc hs hI hR
  obtain ⟨x, y, N1, N2, ho, hI2, f1, f2⟩ := zy_I2 hks hI (fun hG => zp_X9_beside hG (xs (6 * j + 1)) (xs (6 * j + 2))) (fun hG hP => zp_X10_beside hG hP (xs (6 * j + 1)) (xs (6 * j + 2)))
  have hR2 : zR ks (zy_2 M N1 N2) := zr_beside hks hI hR ho f1 f2
  exact zy_opI hB hg hks hD (by omega) (by omega) (zxo_beside l L xs) rfl rfl (zl1_beside hj xs (zL_w ks) M) (fun v M => zl2_beside hj xs (zL_w ks) v M) (fun w M => zl3_beside L xs _ (zL_w ks) w M) rfl rfl ho (hk ks h _ c0 s0 hks hg (zm_D_any hD) hc hs hI2 hR2)
theorem zy_crowd (hB : zf_B p s m meth c b L xs D cA g) {j : Nat} (hj : 6 * j + 6 ≤ L ∧ L ≤ 3072) (hk : zf_K p l e s m below meth c b D cA g zp_tail (zl_lb (zl_i j))) : zf_K p l e s m below meth c b D cA g 1042 (zl_lb (zl_i j)) := by
  intro ks h M c0 s0 hks hg hD hc hs hI hR
  obtain ⟨x, y, N1, N2, ho, hI2, f1, f2⟩ := zy_I2 hks hI (fun hG => zp_X9_crowd hG ) (fun hG hP => zp_X10_crowd hG hP )
  have hR2 : zR ks (zy_2 M N1 N2) := zr_crowd hks hI hR ho f1 f2
  exact zy_opI hB hg hks hD (by omega) (by omega) (zxo_crowd l L xs) rfl rfl (zl1_crowd hj xs (zL_w ks) M) (fun v M => zl2_crowd hj xs (zL_w ks) v M) (fun w M => zl3_crowd L xs _ (zL_w ks) w M) rfl rfl ho (hk ks h _ c0 s0 hks hg (zm_D_any hD) hc hs hI2 hR2)
theorem zy_next (hB : zf_B p s m meth c b L xs D cA g) {j : Nat} (hj : 6 * j + 6 ≤ L ∧ L ≤ 3072) (hk : zf_K p l e s m below meth c b D cA g zp_tail (zl_lb (zl_i j))) : zf_K p l e s m below meth c b D cA g 1055 (zl_lb (zl_i j)) := by
  intro ks h M c0 s0 hks hg hD hc hs hI hR
  obtain ⟨x, y, N1, N2, ho, hI2, f1, f2⟩ := zy_I2 hks hI (fun hG => zp_X9_next hG (xs (6 * j + 1))) (fun hG hP => zp_X10_next_ hG hP (xs (6 * j + 1)))
  have hR2 : zR ks (zy_2 M N1 N2) := zr_next hks hI hR ho f1 f2
  exact zy_opI hB hg hks hD (by omega) (by omega) (zxo_next l L xs) rfl rfl (zl1_next hj xs (zL_w ks) M) (fun v M => zl2_next hj xs (zL_w ks) v M) (fun w M => zl3_next L xs _ (zL_w ks) w M) rfl rfl ho (hk ks h _ c0 s0 hks hg (zm_D_any hD) hc hs hI2 hR2)
theorem zy_years (hB : zf_B p s m meth c b L xs D cA g) {j : Nat} (hj : 6 * j + 6 ≤ L ∧ L ≤ 3072) (hk : zf_K p l e s m below meth c b D cA g zp_tail (zl_lb (zl_i j))) : zf_K p l e s m below meth c b D cA g 1078 (zl_lb (zl_i j)) := by
  intro ks h M c0 s0 hks hg hD hc hs hI hR
  obtain ⟨x, y, N1, N2, ho, hI2, f1, f2⟩ := zy_I2 hks hI (fun hG => zp_X9_years hG (xs (6 * j + 1))) (fun hG hP => zp_X10_years hG hP (xs (6 * j + 1)))
  have hR2 : zR ks (zy_2 M N1 N2) := zr_years hks hI hR ho f1 f2
  exact zy_opI hB hg hks hD (by omega) (by omega) (zxo_years l L xs) rfl rfl (zl1_years hj xs (zL_w ks) M) (fun v M => zl2_years hj xs (zL_w ks) v M) (fun w M => zl3_years L xs _ (zL_w ks) w M) rfl rfl ho (hk ks h _ c0 s0 hks hg (zm_D_any hD) hc hs hI2 hR2)
theorem zy_last (hB : zf_B p s m meth c b L xs D cA g) {j : Nat} (hj : 6 * j + 6 ≤ L ∧ L ≤ 3072) (hk : zf_K p l e s m below meth c b D cA g zp_tail (zl_lb (zl_i j))) : zf_K p l e s m below meth c b D cA g 1101 (zl_lb (zl_i j)) := by
  intro ks h M c0 s0 hks hg hD hc hs hI hR
  obtain ⟨x, y, N1, N2, ho, hI2, f1, f2⟩ := zy_I2 hks hI (fun hG => zp_X9_last hG ) (fun hG hP => zp_X10_last hG hP )
  have hR2 : zR ks (zy_2 M N1 N2) := zr_last hks hI hR ho f1 f2
  exact zy_opI hB hg hks hD (by omega) (by omega) (zxo_last l L xs) rfl rfl (zl1_last hj xs (zL_w ks) M) (fun v M => zl2_last hj xs (zL_w ks) v M) (fun w M => zl3_last L xs _ (zL_w ks) w M) rfl rfl ho (hk ks h _ c0 s0 hks hg (zm_D_any hD) hc hs hI2 hR2)
theorem zy_twins (hB : zf_B p s m meth c b L xs D cA g) {j : Nat} (hj : 6 * j + 6 ≤ L ∧ L ≤ 3072) (hk : zf_K p l e s m below meth c b D cA g zp_tail (zl_lb (zl_i j))) : zf_K p l e s m below meth c b D cA g 1114 (zl_lb (zl_i j)) := by
  intro ks h M c0 s0 hks hg hD hc hs hI hR
  obtain ⟨x, y, N1, N2, ho, hI2, f1, f2⟩ := zy_I2 hks hI (fun hG => zp_X9_twins hG (xs (6 * j + 1))) (fun hG hP => zp_X10_twins hG hP (xs (6 * j + 1)))
  have hR2 : zR ks (zy_2 M N1 N2) := zr_twins hks hI hR ho f1 f2
  exact zy_opI hB hg hks hD (by omega) (by omega) (zxo_twins l L xs) rfl rfl (zl1_twins hj xs (zL_w ks) M) (fun v M => zl2_twins hj xs (zL_w ks) v M) (fun w M => zl3_twins L xs _ (zL_w ks) w M) rfl rfl ho (hk ks h _ c0 s0 hks hg (zm_D_any hD) hc hs hI2 hR2)
theorem zy_opens (hB : zf_B p s m meth c b L xs D cA g) {j : Nat} (hj : 6 * j + 6 ≤ L ∧ L ≤ 3072) (hk : zf_K p l e s m below meth c b D cA g zp_tail (zl_lb (zl_i j))) : zf_K p l e s m below meth c b D cA g 1137 (zl_lb (zl_i j)) := by
  intro ks h M c0 s0 hks hg hD hc hs hI hR
  obtain ⟨x, y, N1, N2, ho, hI2, f1, f2⟩ := zy_I2 hks hI (fun hG => zp_X9_opens hG (xs (6 * j + 1))) (fun hG hP => zp_X10_opens hG hP (xs (6 * j + 1)))
  have hR2 : zR ks (zy_2 M N1 N2) := zr_opens hks hI hR ho f1 f2
  exact zy_opI hB hg hks hD (by omega) (by omega) (zxo_opens l L xs) rfl rfl (zl1_opens hj xs (zL_w ks) M) (fun v M => zl2_opens hj xs (zL_w ks) v M) (fun w M => zl3_opens L xs _ (zL_w ks) w M) rfl rfl ho (hk ks h _ c0 s0 hks hg (zm_D_any hD) hc hs hI2 hR2)
theorem zy_without (hB : zf_B p s m meth c b L xs D cA g) {j : Nat} (hj : 6 * j + 6 ≤ L ∧ L ≤ 3072) (hk : zf_K p l e s m below meth c b D cA g zp_tail (zl_lb (zl_i j))) : zf_K p l e s m below meth c b D cA g 1160 (zl_lb (zl_i j)) := by
  intro ks h M c0 s0 hks hg hD hc hs hI hR
  obtain ⟨x, y, N1, N2, ho, hI2, f1, f2⟩ := zy_I2 hks hI (fun hG => zp_X9_without hG (xs (6 * j + 1))) (fun hG hP => zp_X10_without hG hP (xs (6 * j + 1)))
  have hR2 : zR ks (zy_2 M N1 N2) := zr_without hks hI hR ho f1 f2
  exact zy_opI hB hg hks hD (by omega) (by omega) (zxo_without l L xs) rfl rfl (zl1_without hj xs (zL_w ks) M) (fun v M => zl2_without hj xs (zL_w ks) v M) (fun w M => zl3_without L xs _ (zL_w ks) w M) rfl rfl ho (hk ks h _ c0 s0 hks hg (zm_D_any hD) hc hs hI2 hR2)
theorem zy_helps (hB : zf_B p s m meth c b L xs D cA g) {j : Nat} (hj : 6 * j + 6 ≤ L ∧ L ≤ 3072) (hk : zf_K p l e s m below meth c b D cA g zp_tail (zl_lb (zl_i j))) : zf_K p l e s m below meth c b D cA g 1183 (zl_lb (zl_i j)) := by
  intro ks h M c0 s0 hks hg hD hc hs hI hR
  obtain ⟨x, y, N1, N2, ho, hI2, f1, f2⟩ := zy_I2 hks hI (fun hG => zp_X9_helps hG (xs (6 * j + 1))) (fun hG hP => zp_X10_helps hG hP (xs (6 * j + 1)))
  have hR2 : zR ks (zy_2 M N1 N2) := zr_helps hks hI hR ho f1 f2
  exact zy_opI hB hg hks hD (by omega) (by omega) (zxo_helps l L xs) rfl rfl (zl1_helps hj xs (zL_w ks) M) (fun v M => zl2_helps hj xs (zL_w ks) v M) (fun w M => zl3_helps L xs _ (zL_w ks) w M) rfl rfl ho (hk ks h _ c0 s0 hks hg (zm_D_any hD) hc hs hI2 hR2)
theorem zy_less (hB : zf_B p s m meth c b L xs D cA g) {j : Nat} (hj : 6 * j + 6 ≤ L ∧ L ≤ 3072) (hk : zf_K p l e s m below meth c b D cA g zp_tail (zl_lb (zl_i j))) : zf_K p l e s m below meth c b D cA g 1206 (zl_lb (zl_i j)) := by
  intro ks h M c0 s0 hks hg hD hc hs hI hR
  obtain ⟨x, y, N1, N2, ho, hI2, f1, f2⟩ := zy_I2 hks hI (fun hG => zp_X9_less hG (xs (6 * j + 1))) (fun hG hP => zp_X10_less hG hP (xs (6 * j + 1)))
  have hR2 : zR ks (zy_2 M N1 N2) := zr_less hks hI hR ho f1 f2
  exact zy_opI hB hg hks hD (by omega) (by omega) (zxo_less l L xs) rfl rfl (zl1_less hj xs (zL_w ks) M) (fun v M => zl2_less hj xs (zL_w ks) v M) (fun w M => zl3_less L xs _ (zL_w ks) w M) rfl rfl ho (hk ks h _ c0 s0 hks hg (zm_D_any hD) hc hs hI2 hR2)
theorem zy_tuned (hB : zf_B p s m meth c b L xs D cA g) {j : Nat} (hj : 6 * j + 6 ≤ L ∧ L ≤ 3072) (hk : zf_K p l e s m below meth c b D cA g zp_tail (zl_lb (zl_i j))) : zf_K p l e s m below meth c b D cA g 1229 (zl_lb (zl_i j)) := by
  intro ks h M c0 s0 hks hg hD hc hs hI hR
  obtain ⟨x, y, N1, N2, ho, hI2, f1, f2⟩ := zy_I2 hks hI (fun hG => zp_X9_tuned hG (xs (6 * j + 1))) (fun hG hP => zp_X10_tuned hG hP (xs (6 * j + 1)))
  have hR2 : zR ks (zy_2 M N1 N2) := zr_tuned hks hI hR ho f1 f2
  exact zy_opI hB hg hks hD (by omega) (by omega) (zxo_tuned l L xs) rfl rfl (zl1_tuned hj xs (zL_w ks) M) (fun v M => zl2_tuned hj xs (zL_w ks) v M) (fun w M => zl3_tuned L xs _ (zL_w ks) w M) rfl rfl ho (hk ks h _ c0 s0 hks hg (zm_D_any hD) hc hs hI2 hR2)
theorem zy_moved (hB : zf_B p s m meth c b L xs D cA g) {j : Nat} (hj : 6 * j + 6 ≤ L ∧ L ≤ 3072) (hk : zf_K p l e s m below meth c b D cA g zp_tail (zl_lb (zl_i j))) : zf_K p l e s m below meth c b D cA g 1252 (zl_lb (zl_i j)) := by
  intro ks h M c0 s0 hks hg hD hc hs hI hR
  obtain ⟨x, y, N1, N2, ho, hI2, f1, f2⟩ := zy_I2 hks hI (fun hG => zp_X9_moved hG (xs (6 * j + 1)) (xs (6 * j + 2))) (fun hG hP => zp_X10_moved hG hP (xs (6 * j + 1)) (xs (6 * j + 2)))
  have hR2 : zR ks (zy_2 M N1 N2) := zr_moved hks hI hR ho f1 f2
  exact zy_opI hB hg hks hD (by omega) (by omega) (zxo_moved l L xs) rfl rfl (zl1_moved hj xs (zL_w ks) M) (fun v M => zl2_moved hj xs (zL_w ks) v M) (fun w M => zl3_moved L xs _ (zL_w ks) w M) rfl rfl ho (hk ks h _ c0 s0 hks hg (zm_D_any hD) hc hs hI2 hR2)
theorem zy_suits (hB : zf_B p s m meth c b L xs D cA g) {j : Nat} (hj : 6 * j + 6 ≤ L ∧ L ≤ 3072) (hk : zf_K p l e s m below meth c b D cA g zp_tail (zl_lb (zl_i j))) : zf_K p l e s m below meth c b D cA g 1285 (zl_lb (zl_i j)) := by
  intro ks h M c0 s0 hks hg hD hc hs hI hR
  obtain ⟨x, y, N1, N2, ho, hI2, f1, f2⟩ := zy_I2 hks hI (fun hG => zp_X9_suits hG (xs (6 * j + 1))) (fun hG hP => zp_X10_suits hG hP (xs (6 * j + 1)))
  have hR2 : zR ks (zy_2 M N1 N2) := zr_suits hks hI hR ho f1 f2
  exact zy_opI hB hg hks hD (by omega) (by omega) (zxo_suits l L xs) rfl rfl (zl1_suits hj xs (zL_w ks) M) (fun v M => zl2_suits hj xs (zL_w ks) v M) (fun w M => zl3_suits L xs _ (zL_w ks) w M) rfl rfl ho (hk ks h _ c0 s0 hks hg (zm_D_any hD) hc hs hI2 hR2)
theorem zy_hour (hB : zf_B p s m meth c b L xs D cA g) {j : Nat} (hj : 6 * j + 6 ≤ L ∧ L ≤ 3072) (hk : zf_K p l e s m below meth c b D cA g zp_tail (zl_lb (zl_i j))) : zf_K p l e s m below meth c b D cA g 1308 (zl_lb (zl_i j)) := by
  intro ks h M c0 s0 hks hg hD hc hs hI hR
  obtain ⟨x, y, N1, N2, ho, hI2, f1, f2⟩ := zy_I2 hks hI (fun hG => zp_X9_hour hG (xs (6 * j + 1))) (fun hG hP => zp_X10_hour hG hP (xs (6 * j + 1)))
  have hR2 : zR ks (zy_2 M N1 N2) := zr_hour hks hI hR ho f1 f2
  exact zy_opI hB hg hks hD (by omega) (by omega) (zxo_hour l L xs) rfl rfl (zl1_hour hj xs (zL_w ks) M) (fun v M => zl2_hour hj xs (zL_w ks) v M) (fun w M => zl3_hour L xs _ (zL_w ks) w M) rfl rfl ho (hk ks h _ c0 s0 hks hg (zm_D_any hD) hc hs hI2 hR2)
theorem zy_youth (hB : zf_B p s m meth c b L xs D cA g) {j : Nat} (hj : 6 * j + 6 ≤ L ∧ L ≤ 3072) (hk : zf_K p l e s m below meth c b D cA g zp_tail (zl_lb (zl_i j))) : zf_K p l e s m below meth c b D cA g 1331 (zl_lb (zl_i j)) := by
  intro ks h M c0 s0 hks hg hD hc hs hI hR
  obtain ⟨x, y, N1, N2, ho, hI2, f1, f2⟩ := zy_I2 hks hI (fun hG => zp_X9_youth hG (xs (6 * j + 1))) (fun hG hP => zp_X10_youth hG hP (xs (6 * j + 1)))
  have hR2 : zR ks (zy_2 M N1 N2) := zr_youth hks hI hR ho f1 f2
  exact zy_opI hB hg hks hD (by omega) (by omega) (zxo_youth l L xs) rfl rfl (zl1_youth hj xs (zL_w ks) M) (fun v M => zl2_youth hj xs (zL_w ks) v M) (fun w M => zl3_youth L xs _ (zL_w ks) w M) rfl rfl ho (hk ks h _ c0 s0 hks hg (zm_D_any hD) hc hs hI2 hR2)
theorem zy_best (hB : zf_B p s m meth c b L xs D cA g) {j : Nat} (hj : 6 * j + 6 ≤ L ∧ L ≤ 3072) (hk : zf_K p l e s m below meth c b D cA g zp_tail (zl_lb (zl_i j))) : zf_K p l e s m below meth c b D cA g 1354 (zl_lb (zl_i j)) := by
  intro ks h M c0 s0 hks hg hD hc hs hI hR
  obtain ⟨x, y, N1, N2, ho, hI2, f1, f2⟩ := zy_I2 hks hI (fun hG => zp_X9_best hG ) (fun hG hP => zp_X10_best hG hP )
  have hR2 : zR ks (zy_2 M N1 N2) := zr_best hks hI hR ho f1 f2
  exact zy_opI hB hg hks hD (by omega) (by omega) (zxo_best l L xs) rfl rfl (zl1_best hj xs (zL_w ks) M) (fun v M => zl2_best hj xs (zL_w ks) v M) (fun w M => zl3_best L xs _ (zL_w ks) w M) rfl rfl ho (hk ks h _ c0 s0 hks hg (zm_D_any hD) hc hs hI2 hR2)
theorem zy_plan (hB : zf_B p s m meth c b L xs D cA g) {j : Nat} (hj : 6 * j + 6 ≤ L ∧ L ≤ 3072) (hk : zf_K p l e s m below meth c b D cA g zp_tail (zl_lb (zl_i j))) : zf_K p l e s m below meth c b D cA g 1367 (zl_lb (zl_i j)) := by
  intro ks h M c0 s0 hks hg hD hc hs hI hR
  obtain ⟨x, y, N1, N2, ho, hI2, f1, f2⟩ := zy_I2 hks hI (fun hG => zp_X9_plan hG (xs (6 * j + 1))) (fun hG hP => zp_X10_plan hG hP (xs (6 * j + 1)))
  have hR2 : zR ks (zy_2 M N1 N2) := zr_plan hks hI hR ho f1 f2
  exact zy_opI hB hg hks hD (by omega) (by omega) (zxo_plan l L xs) rfl rfl (zl1_plan hj xs (zL_w ks) M) (fun v M => zl2_plan hj xs (zL_w ks) v M) (fun w M => zl3_plan L xs _ (zL_w ks) w M) rfl rfl ho (hk ks h _ c0 s0 hks hg (zm_D_any hD) hc hs hI2 hR2)
theorem zy_ways (hB : zf_B p s m meth c b L xs D cA g) {j : Nat} (hj : 6 * j + 6 ≤ L ∧ L ≤ 3072) (hk : zf_K p l e s m below meth c b D cA g zp_tail (zl_lb (zl_i j))) : zf_K p l e s m below meth c b D cA g 1390 (zl_lb (zl_i j)) := by
  intro ks h M c0 s0 hks hg hD hc hs hI hR
  obtain ⟨x, y, N1, N2, ho, hI2, f1, f2⟩ := zy_I2 hks hI (fun hG => zp_X9_ways hG ) (fun hG hP => zp_X10_ways hG hP )
  have hR2 : zR ks (zy_2 M N1 N2) := zr_ways hks hI hR ho f1 f2
  exact zy_opI hB hg hks hD (by omega) (by omega) (zxo_ways l L xs) rfl rfl (zl1_ways hj xs (zL_w ks) M) (fun v M => zl2_ways hj xs (zL_w ks) v M) (fun w M => zl3_ways L xs _ (zL_w ks) w M) rfl rfl ho (hk ks h _ c0 s0 hks hg (zm_D_any hD) hc hs hI2 hR2)
theorem zy_every (hB : zf_B p s m meth c b L xs D cA g) {j : Nat} (hj : 6 * j + 6 ≤ L ∧ L ≤ 3072) (hk : zf_K p l e s m below meth c b D cA g zp_tail (zl_lb (zl_i j))) : zf_K p l e s m below meth c b D cA g 1403 (zl_lb (zl_i j)) := by
  intro ks h M c0 s0 hks hg hD hc hs hI hR
  obtain ⟨x, y, N1, N2, ho, hI2, f1, f2⟩ := zy_I2 hks hI (fun hG => zp_X9_every hG ) (fun hG hP => zp_X10_every hG hP )
  have hR2 : zR ks (zy_2 M N1 N2) := zr_every hks hI hR ho f1 f2
  exact zy_opI hB hg hks hD (by omega) (by omega) (zxo_every l L xs) rfl rfl (zl1_every hj xs (zL_w ks) M) (fun v M => zl2_every hj xs (zL_w ks) v M) (fun w M => zl3_every L xs _ (zL_w ks) w M) rfl rfl ho (hk ks h _ c0 s0 hks hg (zm_D_any hD) hc hs hI2 hR2)
theorem zy_calls (hB : zf_B p s m meth c b L xs D cA g) {j : Nat} (hj : 6 * j + 6 ≤ L ∧ L ≤ 3072) (hk : zf_K p l e s m below meth c b D cA g zp_tail (zl_lb (zl_i j))) : zf_K p l e s m below meth c b D cA g 1416 (zl_lb (zl_i j)) := by
  intro ks h M c0 s0 hks hg hD hc hs hI hR
  obtain ⟨x, y, N1, N2, ho, hI2, f1, f2⟩ := zy_I2 hks hI (fun hG => zp_X9_calls hG ) (fun hG hP => zp_X10_calls hG hP )
  have hR2 : zR ks (zy_2 M N1 N2) := zr_calls hks hI hR ho f1 f2
  exact zy_opI hB hg hks hD (by omega) (by omega) (zxo_calls l L xs) rfl rfl (zl1_calls hj xs (zL_w ks) M) (fun v M => zl2_calls hj xs (zL_w ks) v M) (fun w M => zl3_calls L xs _ (zL_w ks) w M) rfl rfl ho (hk ks h _ c0 s0 hks hg (zm_D_any hD) hc hs hI2 hR2)
theorem zy_none (hB : zf_B p s m meth c b L xs D cA g) {j : Nat} (hj : 6 * j + 6 ≤ L ∧ L ≤ 3072) (hk : zf_K p l e s m below meth c b D cA g zp_tail (zl_lb (zl_i j))) : zf_K p l e s m below meth c b D cA g 1429 (zl_lb (zl_i j)) := by
  intro ks h M c0 s0 hks hg hD hc hs hI hR
  obtain ⟨x, y, N1, N2, ho, hI2, f1, f2⟩ := zy_I2 hks hI (fun hG => zp_X9_none hG ) (fun hG hP => zp_X10_none hG hP )
  have hR2 : zR ks (zy_2 M N1 N2) := zr_none hks hI hR ho f1 f2
  exact zy_opI hB hg hks hD (by omega) (by omega) (zxo_none l L xs) rfl rfl (zl1_none hj xs (zL_w ks) M) (fun v M => zl2_none hj xs (zL_w ks) v M) (fun w M => zl3_none L xs _ (zL_w ks) w M) rfl rfl ho (hk ks h _ c0 s0 hks hg (zm_D_any hD) hc hs hI2 hR2)
theorem zy_by (hB : zf_B p s m meth c b L xs D cA g) {j : Nat} (hj : 6 * j + 6 ≤ L ∧ L ≤ 3072) (hk : zf_K p l e s m below meth c b D cA g zp_tail (zl_lb (zl_i j))) : zf_K p l e s m below meth c b D cA g 1442 (zl_lb (zl_i j)) := by
  intro ks h M c0 s0 hks hg hD hc hs hI hR
  obtain ⟨x, y, N1, N2, ho, hI2, f1, f2⟩ := zy_I2 hks hI (fun hG => zp_X9_by hG (xs (6 * j + 1))) (fun hG hP => zp_X10_by hG hP (xs (6 * j + 1)))
  have hR2 : zR ks (zy_2 M N1 N2) := zr_by hks hI hR ho f1 f2
  exact zy_opI hB hg hks hD (by omega) (by omega) (zxo_by l L xs) rfl rfl (zl1_by hj xs (zL_w ks) M) (fun v M => zl2_by hj xs (zL_w ks) v M) (fun w M => zl3_by L xs _ (zL_w ks) w M) rfl rfl ho (hk ks h _ c0 s0 hks hg (zm_D_any hD) hc hs hI2 hR2)
theorem zy_law (hB : zf_B p s m meth c b L xs D cA g) {j : Nat} (hj : 6 * j + 6 ≤ L ∧ L ≤ 3072) (hk : zf_K p l e s m below meth c b D cA g zp_tail (zl_lb (zl_i j))) : zf_K p l e s m below meth c b D cA g 1465 (zl_lb (zl_i j)) := by
  intro ks h M c0 s0 hks hg hD hc hs hI hR
  obtain ⟨x, y, N1, N2, ho, hI2, f1, f2⟩ := zy_I2 hks hI (fun hG => zp_X9_law hG ) (fun hG hP => zp_X10_law hG hP )
  have hR2 : zR ks (zy_2 M N1 N2) := zr_law hks hI hR ho f1 f2
  exact zy_opI hB hg hks hD (by omega) (by omega) (zxo_law l L xs) rfl rfl (zl1_law hj xs (zL_w ks) M) (fun v M => zl2_law hj xs (zL_w ks) v M) (fun w M => zl3_law L xs _ (zL_w ks) w M) rfl rfl ho (hk ks h _ c0 s0 hks hg (zm_D_any hD) hc hs hI2 hR2)
theorem zy_laws (hB : zf_B p s m meth c b L xs D cA g) {j : Nat} (hj : 6 * j + 6 ≤ L ∧ L ≤ 3072) (hk : zf_K p l e s m below meth c b D cA g zp_tail (zl_lb (zl_i j))) : zf_K p l e s m below meth c b D cA g 1478 (zl_lb (zl_i j)) := by
  intro ks h M c0 s0 hks hg hD hc hs hI hR
  obtain ⟨x, y, N1, N2, ho, hI2, f1, f2⟩ := zy_I2 hks hI (fun hG => zp_X9_laws hG (xs (6 * j + 1))) (fun hG hP => zp_X10_laws hG hP (xs (6 * j + 1)))
  have hR2 : zR ks (zy_2 M N1 N2) := zr_laws hks hI hR ho f1 f2
  exact zy_opI hB hg hks hD (by omega) (by omega) (zxo_laws l L xs) rfl rfl (zl1_laws hj xs (zL_w ks) M) (fun v M => zl2_laws hj xs (zL_w ks) v M) (fun w M => zl3_laws L xs _ (zL_w ks) w M) rfl rfl ho (hk ks h _ c0 s0 hks hg (zm_D_any hD) hc hs hI2 hR2)
theorem zy_sat (hB : zf_B p s m meth c b L xs D cA g) {j : Nat} (hj : 6 * j + 6 ≤ L ∧ L ≤ 3072) (hk : zf_K p l e s m below meth c b D cA g zp_tail (zl_lb (zl_i j))) : zf_K p l e s m below meth c b D cA g 1501 (zl_lb (zl_i j)) := by
  intro ks h M c0 s0 hks hg hD hc hs hI hR
  obtain ⟨x, y, N1, N2, ho, hI2, f1, f2⟩ := zy_I2 hks hI (fun hG => zp_X9_sat hG (xs (6 * j + 1)) (xs (6 * j + 2))) (fun hG hP => zp_X10_sat hG hP (xs (6 * j + 1)) (xs (6 * j + 2)))
  have hR2 : zR ks (zy_2 M N1 N2) := zr_sat hks hI hR ho f1 f2
  exact zy_opI hB hg hks hD (by omega) (by omega) (zxo_sat l L xs) rfl rfl (zl1_sat hj xs (zL_w ks) M) (fun v M => zl2_sat hj xs (zL_w ks) v M) (fun w M => zl3_sat L xs _ (zL_w ks) w M) rfl rfl ho (hk ks h _ c0 s0 hks hg (zm_D_any hD) hc hs hI2 hR2)
theorem zy_ask (hB : zf_B p s m meth c b L xs D cA g) {j : Nat} (hj : 6 * j + 6 ≤ L ∧ L ≤ 3072) (hk : zf_K p l e s m below meth c b D cA g zp_tail (zl_lb (zl_i j))) : zf_K p l e s m below meth c b D cA g 1534 (zl_lb (zl_i j)) := by
  intro ks h M c0 s0 hks hg hD hc hs hI hR
  obtain ⟨x, y, N1, N2, ho, hI2, f1, f2⟩ := zy_I2 hks hI (fun hG => zp_X9_ask hG (xs (6 * j + 1)) (xs (6 * j + 2))) (fun hG hP => zp_X10_ask hG hP (xs (6 * j + 1)) (xs (6 * j + 2)))
  have hR2 : zR ks (zy_2 M N1 N2) := zr_ask hks hI hR ho f1 f2
  exact zy_opI hB hg hks hD (by omega) (by omega) (zxo_ask l L xs) rfl rfl (zl1_ask hj xs (zL_w ks) M) (fun v M => zl2_ask hj xs (zL_w ks) v M) (fun w M => zl3_ask L xs _ (zL_w ks) w M) rfl rfl ho (hk ks h _ c0 s0 hks hg (zm_D_any hD) hc hs hI2 hR2)
theorem zy_marks (hB : zf_B p s m meth c b L xs D cA g) {j : Nat} (hj : 6 * j + 6 ≤ L ∧ L ≤ 3072) (hk : zf_K p l e s m below meth c b D cA g zp_tail (zl_lb (zl_i j))) : zf_K p l e s m below meth c b D cA g 1567 (zl_lb (zl_i j)) := by
  intro ks h M c0 s0 hks hg hD hc hs hI hR
  obtain ⟨x, y, N1, N2, ho, hI2, f1, f2⟩ := zy_I2 hks hI (fun hG => zp_X9_marks hG (xs (6 * j + 1))) (fun hG hP => zp_X10_marks hG hP (xs (6 * j + 1)))
  have hR2 : zR ks (zy_2 M N1 N2) := zr_marks hks hI hR ho f1 f2
  exact zy_opI hB hg hks hD (by omega) (by omega) (zxo_marks l L xs) rfl rfl (zl1_marks hj xs (zL_w ks) M) (fun v M => zl2_marks hj xs (zL_w ks) v M) (fun w M => zl3_marks L xs _ (zL_w ks) w M) rfl rfl ho (hk ks h _ c0 s0 hks hg (zm_D_any hD) hc hs hI2 hR2)
theorem zy_mark (hB : zf_B p s m meth c b L xs D cA g) {j : Nat} (hj : 6 * j + 6 ≤ L ∧ L ≤ 3072) (hk : zf_K p l e s m below meth c b D cA g zp_tail (zl_lb (zl_i j))) : zf_K p l e s m below meth c b D cA g 1590 (zl_lb (zl_i j)) := by
  intro ks h M c0 s0 hks hg hD hc hs hI hR
  obtain ⟨x, y, N1, N2, ho, hI2, f1, f2⟩ := zy_I2 hks hI (fun hG => zp_X9_mark hG (xs (6 * j + 1)) (xs (6 * j + 2))) (fun hG hP => zp_X10_mark hG hP (xs (6 * j + 1)) (xs (6 * j + 2)))
  have hR2 : zR ks (zy_2 M N1 N2) := zr_mark hks hI hR ho f1 f2
  exact zy_opI hB hg hks hD (by omega) (by omega) (zxo_mark l L xs) rfl rfl (zl1_mark hj xs (zL_w ks) M) (fun v M => zl2_mark hj xs (zL_w ks) v M) (fun w M => zl3_mark L xs _ (zL_w ks) w M) rfl rfl ho (hk ks h _ c0 s0 hks hg (zm_D_any hD) hc hs hI2 hR2)
theorem zy_under (hB : zf_B p s m meth c b L xs D cA g) {j : Nat} (hj : 6 * j + 6 ≤ L ∧ L ≤ 3072) (hk : zf_K p l e s m below meth c b D cA g zp_tail (zl_lb (zl_i j))) : zf_K p l e s m below meth c b D cA g 1623 (zl_lb (zl_i j)) := by
  intro ks h M c0 s0 hks hg hD hc hs hI hR
  obtain ⟨x, y, N1, N2, ho, hI2, f1, f2⟩ := zy_I2 hks hI (fun hG => zp_X9_under hG (xs (6 * j + 1)) (xs (6 * j + 2))) (fun hG hP => zp_X10_under hG hP (xs (6 * j + 1)) (xs (6 * j + 2)))
  have hR2 : zR ks (zy_2 M N1 N2) := zr_under hks hI hR ho f1 f2
  exact zy_opI hB hg hks hD (by omega) (by omega) (zxo_under l L xs) rfl rfl (zl1_under hj xs (zL_w ks) M) (fun v M => zl2_under hj xs (zL_w ks) v M) (fun w M => zl3_under L xs _ (zL_w ks) w M) rfl rfl ho (hk ks h _ c0 s0 hks hg (zm_D_any hD) hc hs hI2 hR2)
theorem zy_rests (hB : zf_B p s m meth c b L xs D cA g) {j : Nat} (hj : 6 * j + 6 ≤ L ∧ L ≤ 3072) (hk : zf_K p l e s m below meth c b D cA g zp_tail (zl_lb (zl_i j))) : zf_K p l e s m below meth c b D cA g 1656 (zl_lb (zl_i j)) := by
  intro ks h M c0 s0 hks hg hD hc hs hI hR
  obtain ⟨x, y, N1, N2, ho, hI2, f1, f2⟩ := zy_I2 hks hI (fun hG => zp_X9_rests hG (xs (6 * j + 1)) (xs (6 * j + 2))) (fun hG hP => zp_X10_rests hG hP (xs (6 * j + 1)) (xs (6 * j + 2)))
  have hR2 : zR ks (zy_2 M N1 N2) := zr_rests hks hI hR ho f1 f2
  exact zy_opI hB hg hks hD (by omega) (by omega) (zxo_rests l L xs) rfl rfl (zl1_rests hj xs (zL_w ks) M) (fun v M => zl2_rests hj xs (zL_w ks) v M) (fun w M => zl3_rests L xs _ (zL_w ks) w M) rfl rfl ho (hk ks h _ c0 s0 hks hg (zm_D_any hD) hc hs hI2 hR2)
theorem zy_rest (hB : zf_B p s m meth c b L xs D cA g) {j : Nat} (hj : 6 * j + 6 ≤ L ∧ L ≤ 3072) (hk : zf_K p l e s m below meth c b D cA g zp_tail (zl_lb (zl_i j))) : zf_K p l e s m below meth c b D cA g 1689 (zl_lb (zl_i j)) := by
  intro ks h M c0 s0 hks hg hD hc hs hI hR
  obtain ⟨x, y, N1, N2, ho, hI2, f1, f2⟩ := zy_I2 hks hI (fun hG => zp_X9_rest hG (xs (6 * j + 1)) (xs (6 * j + 2))) (fun hG hP => zp_X10_rest hG hP (xs (6 * j + 1)) (xs (6 * j + 2)))
  have hR2 : zR ks (zy_2 M N1 N2) := zr_rest hks hI hR ho f1 f2
  exact zy_opI hB hg hks hD (by omega) (by omega) (zxo_rest l L xs) rfl rfl (zl1_rest hj xs (zL_w ks) M) (fun v M => zl2_rest hj xs (zL_w ks) v M) (fun w M => zl3_rest L xs _ (zL_w ks) w M) rfl rfl ho (hk ks h _ c0 s0 hks hg (zm_D_any hD) hc hs hI2 hR2)
theorem zy_swaps (hB : zf_B p s m meth c b L xs D cA g) {j : Nat} (hj : 6 * j + 6 ≤ L ∧ L ≤ 3072) (hk : zf_K p l e s m below meth c b D cA g zp_tail (zl_lb (zl_i j))) : zf_K p l e s m below meth c b D cA g 1722 (zl_lb (zl_i j)) := by
  intro ks h M c0 s0 hks hg hD hc hs hI hR
  obtain ⟨x, y, N1, N2, ho, hI2, f1, f2⟩ := zy_I2 hks hI (fun hG => zp_X9_swaps hG ) (fun hG hP => zp_X10_swaps hG hP )
  have hR2 : zR ks (zy_2 M N1 N2) := zr_swaps hks hI hR ho f1 f2
  exact zy_opI hB hg hks hD (by omega) (by omega) (zxo_swaps l L xs) rfl rfl (zl1_swaps hj xs (zL_w ks) M) (fun v M => zl2_swaps hj xs (zL_w ks) v M) (fun w M => zl3_swaps L xs _ (zL_w ks) w M) rfl rfl ho (hk ks h _ c0 s0 hks hg (zm_D_any hD) hc hs hI2 hR2)
theorem zy_swap (hB : zf_B p s m meth c b L xs D cA g) {j : Nat} (hj : 6 * j + 6 ≤ L ∧ L ≤ 3072) (hk : zf_K p l e s m below meth c b D cA g zp_tail (zl_lb (zl_i j))) : zf_K p l e s m below meth c b D cA g 1735 (zl_lb (zl_i j)) := by
  intro ks h M c0 s0 hks hg hD hc hs hI hR
  obtain ⟨x, y, N1, N2, ho, hI2, f1, f2⟩ := zy_I2 hks hI (fun hG => zp_X9_swap hG ) (fun hG hP => zp_X10_swap hG hP )
  have hR2 : zR ks (zy_2 M N1 N2) := zr_swap hks hI hR ho f1 f2
  exact zy_opI hB hg hks hD (by omega) (by omega) (zxo_swap l L xs) rfl rfl (zl1_swap hj xs (zL_w ks) M) (fun v M => zl2_swap hj xs (zL_w ks) v M) (fun w M => zl3_swap L xs _ (zL_w ks) w M) rfl rfl ho (hk ks h _ c0 s0 hks hg (zm_D_any hD) hc hs hI2 hR2)
theorem zy_chance (hB : zf_B p s m meth c b L xs D cA g) {j : Nat} (hj : 6 * j + 6 ≤ L ∧ L ≤ 3072) (hk : zf_K p l e s m below meth c b D cA g zp_tail (zl_lb (zl_i j))) : zf_K p l e s m below meth c b D cA g 1748 (zl_lb (zl_i j)) := by
  intro ks h M c0 s0 hks hg hD hc hs hI hR
  obtain ⟨x, y, N1, N2, ho, hI2, f1, f2⟩ := zy_J2 hks hI (fun hG => zp_X9_chance hG (xs (6 * j + 1)) (xs (6 * j + 2)) (xs (6 * j + 3))) (fun hG hP => zp_X10_chance hG hP (xs (6 * j + 1)) (xs (6 * j + 2)) (xs (6 * j + 3)))
  have hR2 : zR ks (zy_2 M N1 N2) := zr_chance hks hI hR ho f1 f2
  exact zy_opJ hB hg hks hD (by omega) (by omega) (zxo_chance l L xs) rfl rfl (zl1_chance hj xs (zL_w ks) M) zf_d1767 (fun M => zl2_chance hj xs (zL_w ks) M) zf_d1787 (fun M => zl3_chance L xs _ (zL_w ks) M) rfl rfl ho (hk ks h _ c0 s0 hks hg (zm_D_any hD) hc hs hI2 hR2)
theorem zy_luckily (hB : zf_B p s m meth c b L xs D cA g) {j : Nat} (hj : 6 * j + 6 ≤ L ∧ L ≤ 3072) (hk : zf_K p l e s m below meth c b D cA g zp_tail (zl_lb (zl_i j))) : zf_K p l e s m below meth c b D cA g 1791 (zl_lb (zl_i j)) := by
  intro ks h M c0 s0 hks hg hD hc hs hI hR
  obtain ⟨x, y, N1, N2, ho, hI2, f1, f2⟩ := zy_J2 hks hI (fun hG => zp_X9_luckily hG (xs (6 * j + 1)) (xs (6 * j + 2)) (xs (6 * j + 3))) (fun hG hP => zp_X10_luckily hG hP (xs (6 * j + 1)) (xs (6 * j + 2)) (xs (6 * j + 3)))
  have hR2 : zR ks (zy_2 M N1 N2) := zr_luckily hks hI hR ho f1 f2
  exact zy_opJ hB hg hks hD (by omega) (by omega) (zxo_luckily l L xs) rfl rfl (zl1_luckily hj xs (zL_w ks) M) zf_d1810 (fun M => zl2_luckily hj xs (zL_w ks) M) zf_d1830 (fun M => zl3_luckily L xs _ (zL_w ks) M) rfl rfl ho (hk ks h _ c0 s0 hks hg (zm_D_any hD) hc hs hI2 hR2)
theorem zy_mean (hB : zf_B p s m meth c b L xs D cA g) {j : Nat} (hj : 6 * j + 6 ≤ L ∧ L ≤ 3072) (hk : zf_K p l e s m below meth c b D cA g zp_tail (zl_lb (zl_i j))) : zf_K p l e s m below meth c b D cA g 1834 (zl_lb (zl_i j)) := by
  intro ks h M c0 s0 hks hg hD hc hs hI hR
  obtain ⟨x, y, N1, N2, ho, hI2, f1, f2⟩ := zy_J2 hks hI (fun hG => zp_X9_mean hG (xs (6 * j + 1)) (xs (6 * j + 2))) (fun hG hP => zp_X10_mean hG hP (xs (6 * j + 1)) (xs (6 * j + 2)))
  have hR2 : zR ks (zy_2 M N1 N2) := zr_mean hks hI hR ho f1 f2
  exact zy_opJ hB hg hks hD (by omega) (by omega) (zxo_mean l L xs) rfl rfl (zl1_mean hj xs (zL_w ks) M) zf_d1848 (fun M => zl2_mean hj xs (zL_w ks) M) zf_d1863 (fun M => zl3_mean L xs _ (zL_w ks) M) rfl rfl ho (hk ks h _ c0 s0 hks hg (zm_D_any hD) hc hs hI2 hR2)
theorem zy_move (hB : zf_B p s m meth c b L xs D cA g) {j : Nat} (hj : 6 * j + 6 ≤ L ∧ L ≤ 3072) (hk : zf_K p l e s m below meth c b D cA g zp_tail (zl_lb (zl_i j))) : zf_K p l e s m below meth c b D cA g 1867 (zl_lb (zl_i j)) := by
  intro ks h M c0 s0 hks hg hD hc hs hI hR
  obtain ⟨x, y, N1, N2, ho, hI2, f1, f2⟩ := zy_I2 hks hI (fun hG => zp_X9_move hG (xs (6 * j + 1)) (xs (6 * j + 2)) (xs (6 * j + 3))) (fun hG hP => zp_X10_move hG hP (xs (6 * j + 1)) (xs (6 * j + 2)) (xs (6 * j + 3)))
  have hR2 : zR ks (zy_2 M N1 N2) := zr_move hks hI hR ho f1 f2
  exact zy_opI hB hg hks hD (by omega) (by omega) (zxo_move l L xs) rfl rfl (zl1_move hj xs (zL_w ks) M) (fun v M => zl2_move hj xs (zL_w ks) v M) (fun w M => zl3_move L xs _ (zL_w ks) w M) rfl rfl ho (hk ks h _ c0 s0 hks hg (zm_D_any hD) hc hs hI2 hR2)
theorem zy_undo (hB : zf_B p s m meth c b L xs D cA g) {j : Nat} (hj : 6 * j + 6 ≤ L ∧ L ≤ 3072) (hk : zf_K p l e s m below meth c b D cA g zp_tail (zl_lb (zl_i j))) : zf_K p l e s m below meth c b D cA g 1910 (zl_lb (zl_i j)) := by
  intro ks h M c0 s0 hks hg hD hc hs hI hR
  obtain ⟨x, y, N1, N2, ho, hI2, f1, f2⟩ := zy_I2 hks hI (fun hG => zp_X9_undo hG ) (fun hG hP => zp_X10_undo hG hP )
  have hR2 : zR ks (zy_2 M N1 N2) := zr_undo hks hI hR ho f1 f2
  exact zy_opI hB hg hks hD (by omega) (by omega) (zxo_undo l L xs) rfl rfl (zl1_undo hj xs (zL_w ks) M) (fun v M => zl2_undo hj xs (zL_w ks) v M) (fun w M => zl3_undo L xs _ (zL_w ks) w M) rfl rfl ho (hk ks h _ c0 s0 hks hg (zm_D_any hD) hc hs hI2 hR2)
theorem zy_anew (hB : zf_B p s m meth c b L xs D cA g) {j : Nat} (hj : 6 * j + 6 ≤ L ∧ L ≤ 3072) (hk : zf_K p l e s m below meth c b D cA g zp_tail (zl_lb (zl_i j))) : zf_K p l e s m below meth c b D cA g 1923 (zl_lb (zl_i j)) := by
  intro ks h M c0 s0 hks hg hD hc hs hI hR
  obtain ⟨x, y, N1, N2, ho, hI2, f1, f2⟩ := zy_I2 hks hI (fun hG => zp_X9_anew hG ) (fun hG hP => zp_X10_anew hG hP )
  have hxy := zr_anew hks hI hR ho f1 f2
  exact zy_opC hB hg hks hD (by omega) (by omega) (zxo_anew l L xs) rfl rfl (zl1_anew hj xs (zL_w ks) M) (fun v M => zl2_anew hj xs (zL_w ks) v M) (fun v w M => zl3_anew L xs _ (zL_w ks) v w M) rfl rfl ho hxy.1 (hk ks h _ c0 s0 hks hg (zm_D_any hD) hc hs hI2 hxy.2)
theorem zy_drawn (hB : zf_B p s m meth c b L xs D cA g) {j : Nat} (hj : 6 * j + 6 ≤ L ∧ L ≤ 3072) (hk : zf_K p l e s m below meth c b D cA g zp_tail (zl_lb (zl_i j))) : zf_K p l e s m below meth c b D cA g 1936 (zl_lb (zl_i j)) := by
  intro ks h M c0 s0 hks hg hD hc hs hI hR
  obtain ⟨x, y, N1, N2, ho, hI2, f1, f2⟩ := zy_I2 hks hI (fun hG => zp_X9_drawn hG (xs (6 * j + 1)) (xs (6 * j + 2))) (fun hG hP => zp_X10_drawn hG hP (xs (6 * j + 1)) (xs (6 * j + 2)))
  have hR2 : zR ks (zy_2 M N1 N2) := zr_drawn hks hI hR ho f1 f2
  exact zy_opI hB hg hks hD (by omega) (by omega) (zxo_drawn l L xs) rfl rfl (zl1_drawn hj xs (zL_w ks) M) (fun v M => zl2_drawn hj xs (zL_w ks) v M) (fun w M => zl3_drawn L xs _ (zL_w ks) w M) rfl rfl ho (hk ks h _ c0 s0 hks hg (zm_D_any hD) hc hs hI2 hR2)
theorem zy_luck (hB : zf_B p s m meth c b L xs D cA g) {j : Nat} (hj : 6 * j + 6 ≤ L ∧ L ≤ 3072) (hk : zf_K p l e s m below meth c b D cA g zp_tail (zl_lb (zl_i j))) : zf_K p l e s m below meth c b D cA g 1969 (zl_lb (zl_i j)) := by
  intro ks h M c0 s0 hks hg hD hc hs hI hR
  obtain ⟨x, y, N1, N2, ho, hI2, f1, f2⟩ := zy_I2 hks hI (fun hG => zp_X9_luck hG (xs (6 * j + 1)) (xs (6 * j + 2)) (xs (6 * j + 3))) (fun hG hP => zp_X10_luck hG hP (xs (6 * j + 1)) (xs (6 * j + 2)) (xs (6 * j + 3)))
  have hR2 : zR ks (zy_2 M N1 N2) := zr_luck hks hI hR ho f1 f2
  exact zy_opI hB hg hks hD (by omega) (by omega) (zxo_luck l L xs) rfl rfl (zl1_luck hj xs (zL_w ks) M) (fun v M => zl2_luck hj xs (zL_w ks) v M) (fun w M => zl3_luck L xs _ (zL_w ks) w M) rfl rfl ho (hk ks h _ c0 s0 hks hg (zm_D_any hD) hc hs hI2 hR2)
theorem zy_rate (hB : zf_B p s m meth c b L xs D cA g) {j : Nat} (hj : 6 * j + 6 ≤ L ∧ L ≤ 3072) (hk : zf_K p l e s m below meth c b D cA g zp_tail (zl_lb (zl_i j))) : zf_K p l e s m below meth c b D cA g 2012 (zl_lb (zl_i j)) := by
  intro ks h M c0 s0 hks hg hD hc hs hI hR
  obtain ⟨x, y, N1, N2, ho, hI2, f1, f2⟩ := zy_I2 hks hI (fun hG => zp_X9_rate hG (xs (6 * j + 1))) (fun hG hP => zp_X10_rate hG hP (xs (6 * j + 1)))
  have hR2 : zR ks (zy_2 M N1 N2) := zr_rate hks hI hR ho f1 f2
  exact zy_opI hB hg hks hD (by omega) (by omega) (zxo_rate l L xs) rfl rfl (zl1_rate hj xs (zL_w ks) M) (fun v M => zl2_rate hj xs (zL_w ks) v M) (fun w M => zl3_rate L xs _ (zL_w ks) w M) rfl rfl ho (hk ks h _ c0 s0 hks hg (zm_D_any hD) hc hs hI2 hR2)
theorem zy_count (hB : zf_B p s m meth c b L xs D cA g) {j : Nat} (hj : 6 * j + 6 ≤ L ∧ L ≤ 3072) (hk : zf_K p l e s m below meth c b D cA g zp_tail (zl_lb (zl_i j))) : zf_K p l e s m below meth c b D cA g 2035 (zl_lb (zl_i j)) := by
  intro ks h M c0 s0 hks hg hD hc hs hI hR
  obtain ⟨x, y, N1, N2, ho, hI2, f1, f2⟩ := zy_I2 hks hI (fun hG => zp_X9_count hG (xs (6 * j + 1))) (fun hG hP => zp_X10_count hG hP (xs (6 * j + 1)))
  have hR2 : zR ks (zy_2 M N1 N2) := zr_count hks hI hR ho f1 f2
  exact zy_opI hB hg hks hD (by omega) (by omega) (zxo_count l L xs) rfl rfl (zl1_count hj xs (zL_w ks) M) (fun v M => zl2_count hj xs (zL_w ks) v M) (fun w M => zl3_count L xs _ (zL_w ks) w M) rfl rfl ho (hk ks h _ c0 s0 hks hg (zm_D_any hD) hc hs hI2 hR2)
theorem zy_row (hB : zf_B p s m meth c b L xs D cA g) {j : Nat} (hj : 6 * j + 6 ≤ L ∧ L ≤ 3072) (hk : zf_K p l e s m below meth c b D cA g zp_tail (zl_lb (zl_i j))) : zf_K p l e s m below meth c b D cA g 2104 (zl_lb (zl_i j)) := by
  intro ks h M c0 s0 hks hg hD hc hs hI hR
  obtain ⟨x, y, N1, N2, ho, hI2, f1, f2⟩ := zy_I2 hks hI (fun hG => zp_X9_row hG (xs (6 * j + 1)) (xs (6 * j + 2)) (xs (6 * j + 3))) (fun hG hP => zp_X10_row hG hP (xs (6 * j + 1)) (xs (6 * j + 2)) (xs (6 * j + 3)))
  have hR2 : zR ks (zy_2 M N1 N2) := zr_row hks hI hR ho f1 f2
  exact zy_opI hB hg hks hD (by omega) (by omega) (zxo_row l L xs) rfl rfl (zl1_row hj xs (zL_w ks) M) (fun v M => zl2_row hj xs (zL_w ks) v M) (fun w M => zl3_row L xs _ (zL_w ks) w M) rfl rfl ho (hk ks h _ c0 s0 hks hg (zm_D_any hD) hc hs hI2 hR2)
theorem zy_write (hB : zf_B p s m meth c b L xs D cA g) {j : Nat} (hj : 6 * j + 6 ≤ L ∧ L ≤ 3072) (hk : zf_K p l e s m below meth c b D cA g zp_tail (zl_lb (zl_i j))) : zf_K p l e s m below meth c b D cA g 2147 (zl_lb (zl_i j)) := by
  intro ks h M c0 s0 hks hg hD hc hs hI hR
  obtain ⟨x, y, N1, N2, ho, hI2, f1, f2⟩ := zy_I2 hks hI (fun hG => zp_X9_write hG (xs (6 * j + 1)) (xs (6 * j + 2)) (((Int32.toInt64 (xs (6 * j + 3))) <<< (Int32.toInt64 32 &&& 63)) ||| ((Int32.toInt64 (xs (6 * j + 4))) &&& 4294967295))) (fun hG hP => zp_X10_write hG hP (xs (6 * j + 1)) (xs (6 * j + 2)) (((Int32.toInt64 (xs (6 * j + 3))) <<< (Int32.toInt64 32 &&& 63)) ||| ((Int32.toInt64 (xs (6 * j + 4))) &&& 4294967295)))
  have hR2 : zR ks (zy_2 M N1 N2) := zr_write hks hI hR ho f1 f2
  exact zy_opI hB hg hks hD (by omega) (by omega) (zxo_write l L xs) rfl rfl (zl1_write hj xs (zL_w ks) M) (fun v M => zl2_write hj xs (zL_w ks) v M) (fun w M => zl3_write L xs _ (zL_w ks) w M) rfl rfl ho (hk ks h _ c0 s0 hks hg (zm_D_any hD) hc hs hI2 hR2)
theorem zy_paste (hB : zf_B p s m meth c b L xs D cA g) {j : Nat} (hj : 6 * j + 6 ≤ L ∧ L ≤ 3072) (hk : zf_K p l e s m below meth c b D cA g zp_tail (zl_lb (zl_i j))) : zf_K p l e s m below meth c b D cA g 2220 (zl_lb (zl_i j)) := by
  intro ks h M c0 s0 hks hg hD hc hs hI hR
  obtain ⟨x, y, N1, N2, ho, hI2, f1, f2⟩ := zy_I2 hks hI (fun hG => zp_X9_paste hG (xs (6 * j + 1)) (xs (6 * j + 2)) (xs (6 * j + 3)) (xs (6 * j + 4)) (xs (6 * j + 5))) (fun hG hP => zp_X10_paste hG hP (xs (6 * j + 1)) (xs (6 * j + 2)) (xs (6 * j + 3)) (xs (6 * j + 4)) (xs (6 * j + 5)))
  have hR2 : zR ks (zy_2 M N1 N2) := zr_paste hks hI hR ho f1 f2
  exact zy_opI hB hg hks hD (by omega) (by omega) (zxo_paste l L xs) rfl rfl (zl1_paste hj xs (zL_w ks) M) (fun v M => zl2_paste hj xs (zL_w ks) v M) (fun w M => zl3_paste L xs _ (zL_w ks) w M) rfl rfl ho (hk ks h _ c0 s0 hks hg (zm_D_any hD) hc hs hI2 hR2)
end ZFQ
