/-! WORLDS -/
theorem zi_len : zL_C.length = 196 := by decide +kernel
theorem zL_w_nil : zL_w [] = zL_C := zn_eqL_ok (by decide +kernel)
theorem zK_w {ks : List Nat} (h : ks ∈ zK_all) : zm_sub [(0, 164)] (zL_w ks) = zW_X ∧ zm_sub [(165, 31)] (zL_w ks) = zW_M ∧ (zL_w ks).length = 196 + 10 * ks.length ∧ zm_wok (zL_w ks) ∧ ks.length ≤ 3 ∧ ∀ i, i < ks.length → zm_sub [(196 + 10 * i, 10), (1, 10)] (zL_w ks) = zW_BB ∧ zm_sub [(1, 10), (196 + 10 * i, 10)] (zL_w ks) = zW_BB ∧ zm_isO (zL_w ks) 0 (.ref (196 + 10 * i)) = true := by
  have := List.all_eq_true.mp zK_ok ks h
  simp only [zK_chk, Bool.and_eq_true] at this
  obtain ⟨⟨⟨⟨⟨h1, h2⟩, h3⟩, h4⟩, h5⟩, h6⟩ := this
  refine ⟨zn_eqL_ok h1, zn_eqL_ok h2, Nat.eq_of_beq_eq_true h3, zn_wokB_ok h4, Nat.le_of_ble_eq_true h5, fun i hi => ?_⟩
  have := List.all_eq_true.mp h6 i (List.mem_range.mpr hi)
  simp only [Bool.and_eq_true] at this
  exact ⟨zn_eqL_ok this.1.1, zn_eqL_ok this.1.2, this.2⟩
theorem zK_old {ks : List Nat} (h : ks ∈ zK_all) {k i : Nat} (hk : k < 3) (hi : zK_ix ks k = some i) : i < ks.length := by
  have := List.all_eq_true.mp (List.all_eq_true.mp zK_kok ks h) k (List.mem_range.mpr hk)
  unfold zK_kchk at this
  rw [hi] at this
  exact Nat.le_of_ble_eq_true this
theorem zK_new {ks : List Nat} (h : ks ∈ zK_all) {k : Nat} (hk : k < 3) (hi : zK_ix ks k = none) : ks ++ [k] ∈ zK_all ∧ zK_ix (ks ++ [k]) k = some ks.length ∧ ks.length < 3 ∧ ∀ q, q < 3 → q ≠ k → zK_ix (ks ++ [k]) q = zK_ix ks q := by
  have := List.all_eq_true.mp (List.all_eq_true.mp zK_kok ks h) k (List.mem_range.mpr hk)
  unfold zK_kchk at this
  rw [hi] at this
  simp only [Bool.and_eq_true, decide_eq_true_eq] at this
  obtain ⟨⟨⟨h1, h2⟩, h3⟩, h4⟩ := this
  obtain ⟨q, hq, he⟩ := List.any_eq_true.mp h1
  have he := of_decide_eq_true he
  subst he
  refine ⟨hq, h2, Nat.le_of_ble_eq_true h3, fun q hq hne => ?_⟩
  have := List.all_eq_true.mp h4 q (List.mem_range.mpr hq)
  simp only [Bool.or_eq_true, decide_eq_true_eq] at this
  rcases this with this | this
  · exact absurd (Nat.eq_of_beq_eq_true this) hne
  · exact this
theorem zK_at {ks : List Nat} {n : Nat} {d : zm_D × List Value} (hd : zL_C[n]? = some d) (hn : n ≠ 164) : (zL_w ks)[n]? = some d := by
  unfold zL_w
  have hl := (List.getElem?_eq_some_iff.mp hd).1
  rw [List.getElem?_append_left (by rw [List.length_set]; exact hl), List.getElem?_set_ne (fun q => hn q.symm)]
  exact hd
theorem zK_164 (ks : List Nat) : (zL_w ks)[164]? = some (.inr (.object RX0, 3), [zK_r ks 0, zK_r ks 1, zK_r ks 2]) := by
  unfold zL_w
  rw [List.getElem?_append_left (by rw [List.length_set, zi_len]; decide), List.getElem?_set_self (by rw [zi_len]; decide)]
def zK_c0 : List Value := [.ref 51, .ref 1, .ref 11, .ref 164, .ref 53, .ref 21, .ref 32, .ref 43, .ref 68, .ref 72, .ref 63, .ref 66, .ref 62]
theorem zK_0 (ks : List Nat) : (zL_w ks)[0]? = some (.inl 9, zK_c0) := zK_at (by rfl) (by decide)
theorem zK_165 (ks : List Nat) : ∃ rs, (zL_w ks)[165]? = some (.inl 10, rs) := ⟨_, zK_at (by rfl) (by decide)⟩
theorem zK_bd {ks : List Nat} (hks : ks ∈ zK_all) {a z : Nat} (h : a + z ≤ 196) : (zm_dis [(a, z)] && zm_bound (zL_w ks).length [(a, z)]) = true := by
  rw [(zK_w hks).2.2.1]
  simp only [zm_dis, zm_apart, zm_bound, Bool.and_true, Bool.true_and]
  exact Nat.ble_eq_true_of_le (by omega)
theorem zy_callX {ks : List Nat} (hks : ks ∈ zK_all) {nn : Nat} {F : zm_L → List Value → zm_I → zm_R} {as : List Value} {v : Value} {M N : zm_I} (h : F zW_X (.ref 0 :: as) (zm_sub2 [(0, 164)] M) = some (some v, N)) (ha : as.map (zm_tr [(0, 164)]) = as) (hv : zm_bk [(0, 164)] v = v) (k : Option Value → zm_I → zm_R) : zm_app (nn, some 9, false, [(0, 164)], F) (zL_w ks) (.ref 0 :: as) M k = k (some v) (zm_mrg [(0, 164)] M N) := by
  have hr : zm_recv (zL_w ks) (.ref 0 :: as) (some 9) = true := by
    show zm_isO (zL_w ks) 9 (.ref 0) = true
    simp only [zm_isO, zK_0]
    rfl
  have g := zm_app_l (C := (nn, some 9, false, [(0, 164)], F)) (wl := zL_w ks) (as := .ref 0 :: as) (wc := zW_X) (ac := .ref 0 :: as) (bs := [(0, 164)]) (M := M) (k := k) hr rfl rfl (zK_bd hks (by decide)) (zK_w hks).1 (by rw [List.map_cons, ha]; rfl) h
  rw [g]
  simp only [Option.map_some, hv]
theorem zy_callM {ks : List Nat} (hks : ks ∈ zK_all) {nn : Nat} {F : zm_L → List Value → zm_I → zm_R} {as : List Value} {v : Value} {M N : zm_I} (h : F zW_M (.ref 0 :: as) (zm_sub2 [(165, 31)] M) = some (some v, N)) (ha : as.map (zm_tr [(165, 31)]) = as) (hv : zm_bk [(165, 31)] v = v) (k : Option Value → zm_I → zm_R) : zm_app (nn, some 10, false, [(0, 31)], F) (zL_w ks) (.ref 165 :: as) M k = k (some v) (zm_mrg [(165, 31)] M N) := by
  obtain ⟨rs, h165⟩ := zK_165 ks
  have hr : zm_recv (zL_w ks) (.ref 165 :: as) (some 10) = true := by
    show zm_isO (zL_w ks) 10 (.ref 165) = true
    simp only [zm_isO, h165]
    rfl
  have g := zm_app_l (C := (nn, some 10, false, [(0, 31)], F)) (wl := zL_w ks) (as := .ref 165 :: as) (wc := zW_M) (ac := .ref 0 :: as) (bs := [(165, 31)]) (M := M) (k := k) hr rfl rfl (zK_bd hks (by decide)) (zK_w hks).2.1 (by rw [List.map_cons, ha]; rfl) h
  rw [g]
  simp only [Option.map_some, hv]
