/-! WORLDS THAT GROW: which images are kept, in the order of their making -/
def zK_all : List (List Nat) := [[], [0], [1], [2], [0, 1], [0, 2], [1, 0], [1, 2], [2, 0], [2, 1], [0, 1, 2], [0, 2, 1], [1, 0, 2], [1, 2, 0], [2, 0, 1], [2, 1, 0]]
def zK_ix : List Nat → Nat → Option Nat
  | [], _ => none
  | a :: r, k => match Nat.beq a k with
    | true => some 0
    | false => match zK_ix r k with
      | some i => some (i + 1)
      | none => none
def zK_r (ks : List Nat) (k : Nat) : Value := match zK_ix ks k with
  | some i => .ref (196 + 10 * i)
  | none => .null
def zL_bn (n : Nat) : zm_L := [(.inl 0, [.null, .null, .null, .null, .null, .null, .null, .null, .ref (n + 1), .ref (n + 2), .ref (n + 3), .ref (n + 4), .ref (n + 5), .ref (n + 6), .ref (n + 7), .ref (n + 8), .ref (n + 9)]), (.inr (.int, 6), []), (.inr (.int, 5), []), (.inr (.int, 5), []), (.inr (.int, 5), []), (.inr (.int, 5), []), (.inr (.int, 5), []), (.inr (.int, 41), []), (.inr (.int, 41), []), (.inr (.int, 41), [])]
def zL_w (ks : List Nat) : zm_L := zL_C.set 164 (.inr (.object RX0, 3), [zK_r ks 0, zK_r ks 1, zK_r ks 2]) ++ (List.range ks.length).flatMap (fun i => zL_bn (196 + 10 * i))
/-- a world's blocks, cut out in one walk -/
def zK_cut (bs : List (Nat × Nat)) (wl : zm_L) : zm_L := bs.flatMap (fun b => (wl.drop b.1).take b.2)
def zK_tk (bs : List (Nat × Nat)) (wl : zm_L) : zm_L := (zK_cut bs wl).map (fun d => (d.1, d.2.map (zm_tr bs)))
theorem zK_cut_ok (wl : zm_L) : ∀ (bs : List (Nat × Nat)), zm_bound wl.length bs = true → (zK_cut bs wl).length = zm_tot bs ∧ ∀ k, k < zm_tot bs → (zK_cut bs wl)[k]? = wl[zm_fw bs k]?
  | [], _ => ⟨rfl, fun k hk => absurd hk (Nat.not_lt_zero k)⟩
  | (n, z) :: bs, h => by
    simp only [zm_bound, Bool.and_eq_true] at h
    have h1 := Nat.le_of_ble_eq_true h.1
    obtain ⟨i1, i2⟩ := zK_cut_ok wl bs h.2
    have hl : ((wl.drop n).take z).length = z := by
      rw [List.length_take, List.length_drop]
      omega
    have e : zK_cut ((n, z) :: bs) wl = (wl.drop n).take z ++ zK_cut bs wl := rfl
    rw [e]
    refine ⟨(show ((wl.drop n).take z ++ zK_cut bs wl).length = z + zm_tot bs from by rw [List.length_append, hl, i1]), fun k hk => ?_⟩
    have hk : k < z + zm_tot bs := hk
    show _ = wl[if k < z then n + k else zm_fw bs (k - z)]?
    by_cases c : k < z
    · rw [if_pos c, List.getElem?_append_left (by rw [hl]; exact c), List.getElem?_take, if_pos c, List.getElem?_drop]
    · rw [if_neg c, List.getElem?_append_right (by rw [hl]; omega), hl]
      exact i2 (k - z) (by omega)
theorem zK_tk_eq {bs : List (Nat × Nat)} {wl : zm_L} (h : zm_bound wl.length bs = true) : zm_sub bs wl = zK_tk bs wl := by
  obtain ⟨c1, c2⟩ := zK_cut_ok wl bs h
  apply List.ext_getElem?
  intro k
  by_cases hk : k < zm_tot bs
  · obtain ⟨d, g1, g2⟩ := zm_sub_get h hk
    rw [zK_tk, List.getElem?_map, c2 k hk, g1]
    exact g2
  · rw [List.getElem?_eq_none (by rw [zm_sub_len]; omega), List.getElem?_eq_none (by rw [zK_tk, List.length_map, c1]; omega)]
def zK_chk (ks : List Nat) : Bool := zn_eqL (zK_tk [(0, 164)] (zL_w ks)) zW_X && zn_eqL (zK_tk [(165, 31)] (zL_w ks)) zW_M && Nat.beq (zL_w ks).length (196 + 10 * ks.length) && zn_wokB (zL_w ks) && Nat.ble ks.length 3 && (List.range ks.length).all (fun i => zn_eqL (zK_tk [(196 + 10 * i, 10), (1, 10)] (zL_w ks)) zW_BB && zn_eqL (zK_tk [(1, 10), (196 + 10 * i, 10)] (zL_w ks)) zW_BB && zm_isO (zL_w ks) 0 (.ref (196 + 10 * i)))
theorem zK_ok : zK_all.all zK_chk = true := by decide +kernel
/-- a slot, kept or not -/
def zK_kchk (ks : List Nat) (k : Nat) : Bool := match zK_ix ks k with
  | some i => Nat.ble (i + 1) ks.length
  | none => zK_all.any (fun q => decide (q = ks ++ [k])) && decide (zK_ix (ks ++ [k]) k = some ks.length) && Nat.ble (ks.length + 1) 3 && (List.range 3).all (fun q => Nat.beq q k || decide (zK_ix (ks ++ [k]) q = zK_ix ks q))
theorem zK_kok : zK_all.all (fun ks => (List.range 3).all (zK_kchk ks)) = true := by decide +kernel
theorem zi_len : zL_C.length = 196 := by decide +kernel
theorem zL_w_nil : zL_w [] = zL_C := zn_eqL_ok (by decide +kernel)
theorem zK_w {ks : List Nat} (h : ks ∈ zK_all) : zm_sub [(0, 164)] (zL_w ks) = zW_X ∧ zm_sub [(165, 31)] (zL_w ks) = zW_M ∧ (zL_w ks).length = 196 + 10 * ks.length ∧ zm_wok (zL_w ks) ∧ ks.length ≤ 3 ∧ ∀ i, i < ks.length → zm_sub [(196 + 10 * i, 10), (1, 10)] (zL_w ks) = zW_BB ∧ zm_sub [(1, 10), (196 + 10 * i, 10)] (zL_w ks) = zW_BB ∧ zm_isO (zL_w ks) 0 (.ref (196 + 10 * i)) = true := by
  have := List.all_eq_true.mp zK_ok ks h
  simp only [zK_chk, Bool.and_eq_true] at this
  obtain ⟨⟨⟨⟨⟨h1, h2⟩, h3⟩, h4⟩, h5⟩, h6⟩ := this
  have hL := Nat.eq_of_beq_eq_true h3
  have b1 : ∀ a z, a + z ≤ 196 → zm_bound (zL_w ks).length [(a, z)] = true := fun a z hz => by
    simp only [zm_bound, Bool.and_true]
    exact Nat.ble_eq_true_of_le (by omega)
  refine ⟨(zK_tk_eq (b1 0 164 (by omega))).trans (zn_eqL_ok h1), (zK_tk_eq (b1 165 31 (by omega))).trans (zn_eqL_ok h2), hL, zn_wokB_ok h4, Nat.le_of_ble_eq_true h5, fun i hi => ?_⟩
  have := List.all_eq_true.mp h6 i (List.mem_range.mpr hi)
  simp only [Bool.and_eq_true] at this
  have l1 : Nat.ble (196 + 10 * i + 10) (zL_w ks).length = true := Nat.ble_eq_true_of_le (by omega)
  have l2 : Nat.ble (1 + 10) (zL_w ks).length = true := Nat.ble_eq_true_of_le (by omega)
  have b2 : zm_bound (zL_w ks).length [(196 + 10 * i, 10), (1, 10)] = true := by
    show (Nat.ble (196 + 10 * i + 10) (zL_w ks).length && (Nat.ble (1 + 10) (zL_w ks).length && true)) = true
    rw [l1, l2]
    first | done | rfl
  have b3 : zm_bound (zL_w ks).length [(1, 10), (196 + 10 * i, 10)] = true := by
    show (Nat.ble (1 + 10) (zL_w ks).length && (Nat.ble (196 + 10 * i + 10) (zL_w ks).length && true)) = true
    rw [l1, l2]
    first | done | rfl
  exact ⟨(zK_tk_eq b2).trans (zn_eqL_ok this.1.1), (zK_tk_eq b3).trans (zn_eqL_ok this.1.2), this.2⟩
theorem zK_old {ks : List Nat} (h : ks ∈ zK_all) {k i : Nat} (hk : k < 3) (hi : zK_ix ks k = some i) : i < ks.length := by
  have := List.all_eq_true.mp (List.all_eq_true.mp zK_kok ks h) k (List.mem_range.mpr hk)
  unfold zK_kchk at this
  rw [hi] at this
  exact Nat.le_of_ble_eq_true this
theorem zK_new {ks : List Nat} (h : ks ∈ zK_all) {k : Nat} (hk : k < 3) (hi : zK_ix ks k = none) : ks ++ [k] ∈ zK_all ∧ zK_ix (ks ++ [k]) k = some ks.length ∧ ks.length < 3 ∧ ∀ q, q < 3 → q ≠ k → zK_ix (ks ++ [k]) q = zK_ix ks q := by
  have := List.all_eq_true.mp (List.all_eq_true.mp zK_kok ks h) k (List.mem_range.mpr hk)
  unfold zK_kchk at this
  rw [hi] at this
  simp only [Bool.and_eq_true, decide_eq_true_eq] at this
  obtain ⟨⟨⟨h1, h2⟩, h3⟩, h4⟩ := this
  obtain ⟨q, hq, he⟩ := List.any_eq_true.mp h1
  have he := of_decide_eq_true he
  subst he
  refine ⟨hq, h2, Nat.le_of_ble_eq_true h3, fun q hq hne => ?_⟩
  have := List.all_eq_true.mp h4 q (List.mem_range.mpr hq)
  simp only [Bool.or_eq_true, decide_eq_true_eq] at this
  rcases this with this | this
  · exact absurd (Nat.eq_of_beq_eq_true this) hne
  · exact this
theorem zK_at {ks : List Nat} {n : Nat} {d : zm_D × List Value} (hd : zL_C[n]? = some d) (hn : n ≠ 164) : (zL_w ks)[n]? = some d := by
  unfold zL_w
  have hl := (List.getElem?_eq_some_iff.mp hd).1
  rw [List.getElem?_append_left (by rw [List.length_set]; exact hl), List.getElem?_set_ne (fun q => hn q.symm)]
  exact hd
theorem zK_164 (ks : List Nat) : (zL_w ks)[164]? = some (.inr (.object RX0, 3), [zK_r ks 0, zK_r ks 1, zK_r ks 2]) := by
  unfold zL_w
  rw [List.getElem?_append_left (by rw [List.length_set, zi_len]; decide), List.getElem?_set_self (by rw [zi_len]; decide)]
def zK_c0 : List Value := [.ref 51, .ref 1, .ref 11, .ref 164, .ref 53, .ref 21, .ref 32, .ref 43, .ref 68, .ref 72, .ref 63, .ref 66, .ref 62]
theorem zK_0 (ks : List Nat) : (zL_w ks)[0]? = some (.inl 9, zK_c0) := zK_at (by rfl) (by decide)
theorem zK_165 (ks : List Nat) : ∃ rs, (zL_w ks)[165]? = some (.inl 10, rs) := ⟨_, zK_at (by rfl) (by decide)⟩
theorem zK_bd {ks : List Nat} (hks : ks ∈ zK_all) {a z : Nat} (h : a + z ≤ 196) : (zm_dis [(a, z)] && zm_bound (zL_w ks).length [(a, z)]) = true := by
  rw [(zK_w hks).2.2.1]
  simp only [zm_dis, zm_apart, zm_bound, Bool.and_true, Bool.true_and]
  exact Nat.ble_eq_true_of_le (by omega)
theorem zy_callX {ks : List Nat} (hks : ks ∈ zK_all) {nn : Nat} {F : zm_L → List Value → zm_I → zm_R} {as : List Value} {v : Value} {M N : zm_I} (h : F zW_X (.ref 0 :: as) (zm_sub2 [(0, 164)] M) = some (some v, N)) (ha : as.map (zm_tr [(0, 164)]) = as) (hv : zm_bk [(0, 164)] v = v) (k : Option Value → zm_I → zm_R) : zm_app (nn, some 9, false, [(0, 164)], F) (zL_w ks) (.ref 0 :: as) M k = k (some v) (zm_mrg [(0, 164)] M N) := by
  have hr : zm_recv (zL_w ks) (.ref 0 :: as) (some 9) = true := by
    show zm_isO (zL_w ks) 9 (.ref 0) = true
    simp only [zm_isO, zK_0]
    rfl
  have g := zm_app_l (C := (nn, some 9, false, [(0, 164)], F)) (wl := zL_w ks) (as := .ref 0 :: as) (wc := zW_X) (ac := .ref 0 :: as) (bs := [(0, 164)]) (M := M) (k := k) hr rfl rfl (zK_bd hks (by decide)) (zK_w hks).1 (by rw [List.map_cons, ha]; rfl) h
  rw [g]
  simp only [Option.map_some, hv]
theorem zy_callM {ks : List Nat} (hks : ks ∈ zK_all) {nn : Nat} {F : zm_L → List Value → zm_I → zm_R} {as : List Value} {v : Value} {M N : zm_I} (h : F zW_M (.ref 0 :: as) (zm_sub2 [(165, 31)] M) = some (some v, N)) (ha : as.map (zm_tr [(165, 31)]) = as) (hv : zm_bk [(165, 31)] v = v) (k : Option Value → zm_I → zm_R) : zm_app (nn, some 10, false, [(0, 31)], F) (zL_w ks) (.ref 165 :: as) M k = k (some v) (zm_mrg [(165, 31)] M N) := by
  obtain ⟨rs, h165⟩ := zK_165 ks
  have hr : zm_recv (zL_w ks) (.ref 165 :: as) (some 10) = true := by
    show zm_isO (zL_w ks) 10 (.ref 165) = true
    simp only [zm_isO, h165]
    rfl
  have g := zm_app_l (C := (nn, some 10, false, [(0, 31)], F)) (wl := zL_w ks) (as := .ref 165 :: as) (wc := zW_M) (ac := .ref 0 :: as) (bs := [(165, 31)]) (M := M) (k := k) hr rfl rfl (zK_bd hks (by decide)) (zK_w hks).2.1 (by rw [List.map_cons, ha]; rfl) h
  rw [g]
  simp only [Option.map_some, hv]
/-! the memory behind two calls -/
theorem zy_in1 {a z n : Nat} (h1 : a ≤ n) (h2 : n < a + z) : zm_in [(a, z)] n = true := by
  simp only [zm_in, Bool.or_false, Bool.and_eq_true]
  exact ⟨Nat.ble_eq_true_of_le h1, Nat.ble_eq_true_of_le h2⟩
theorem zy_in0 {a z n : Nat} (h : n < a ∨ a + z ≤ n) : zm_in [(a, z)] n = false := by
  cases hq : zm_in [(a, z)] n with
  | false => rfl
  | true =>
    simp only [zm_in, Bool.or_false, Bool.and_eq_true] at hq
    have h1 := Nat.le_of_ble_eq_true hq.1
    have h2 := Nat.le_of_ble_eq_true hq.2
    omega
theorem zy_m1 {a z n : Nat} (h1 : a ≤ n) (h2 : n < a + z) (M N : zm_I) : (zm_mrg [(a, z)] M N).1 n = N.1 (n - a) ∧ (zm_mrg [(a, z)] M N).2 n = N.2 (n - a) := by
  have hv : zm_iv [(a, z)] n = n - a := by simp only [zm_iv]; rw [if_pos ⟨h1, h2⟩]
  constructor <;> funext i <;> simp only [zm_mrg, zy_in1 h1 h2, hv]
theorem zy_m0 {a z n : Nat} (h : n < a ∨ a + z ≤ n) (M N : zm_I) : (zm_mrg [(a, z)] M N).1 n = M.1 n ∧ (zm_mrg [(a, z)] M N).2 n = M.2 n := by
  constructor <;> funext i <;> simp only [zm_mrg, zy_in0 h]
theorem zy_s1 {a z n : Nat} (h : n < z) (M : zm_I) : (zm_sub2 [(a, z)] M).1 n = M.1 (a + n) ∧ (zm_sub2 [(a, z)] M).2 n = M.2 (a + n) := by
  have : zm_fw [(a, z)] n = a + n := by simp only [zm_fw]; rw [if_pos h]
  exact ⟨by show M.1 (zm_fw [(a, z)] n) = _; rw [this], by show M.2 (zm_fw [(a, z)] n) = _; rw [this]⟩
theorem zy_Gs {G : zt_G} {a z : Nat} {M N : zm_I} (hl : G.length ≤ z) (h : ∀ n, n < z → M.1 (a + n) = N.1 n) (hN : zt_Gs G N) : zt_Gs G (zm_sub2 [(a, z)] M) := by
  intro n g hg i b hb
  have hn : n < z := Nat.lt_of_lt_of_le (List.getElem?_eq_some_iff.mp hg).1 hl
  rw [(zy_s1 hn M).1, h n hn]
  exact hN n g hg i b hb
theorem zy_P {M N : zm_I} (h6 : M.1 6 = N.1 6) (h7 : M.1 7 = N.1 7) (hN : zq_P N) : zq_P M := by
  unfold zq_P zq_E zq_F at hN ⊢
  rw [h6, h7]
  exact hN
theorem zo_l1 : zo_g1.length ≤ 164 := Nat.le_of_ble_eq_true (by decide +kernel)
theorem zo_l22 : zo_g22.length ≤ 31 := Nat.le_of_ble_eq_true (by decide +kernel)
theorem zo_l2 : zo_g2.length ≤ 10 := Nat.le_of_ble_eq_true (by decide +kernel)
/-- what holds at the head of the law's loop -/
def zy_I (ks : List Nat) (M : zm_I) : Prop := zt_Gs zo_g1 (zm_sub2 [(0, 164)] M) ∧ zt_Gs zo_g22 (zm_sub2 [(165, 31)] M) ∧ zq_P (zm_sub2 [(165, 31)] M) ∧ (∀ i, i < ks.length → zt_Gs zo_g2 (zm_sub2 [(196 + 10 * i, 10)] M)) ∧ zn_fr (zL_w ks) M
def zy_2 (M N1 N2 : zm_I) : zm_I := zm_mrg [(165, 31)] (zm_mrg [(0, 164)] M N1) N2
theorem zy_2X {n : Nat} (h : n < 164) (M N1 N2 : zm_I) : (zy_2 M N1 N2).1 n = N1.1 n ∧ (zy_2 M N1 N2).2 n = N1.2 n := by
  have e1 := zy_m0 (a := 165) (z := 31) (n := n) (by omega) (zm_mrg [(0, 164)] M N1) N2
  have e2 := zy_m1 (a := 0) (z := 164) (n := n) (by omega) (by omega) M N1
  exact ⟨e1.1.trans e2.1, e1.2.trans e2.2⟩
theorem zy_2M {n : Nat} (h : n < 31) (M N1 N2 : zm_I) : (zy_2 M N1 N2).1 (165 + n) = N2.1 n ∧ (zy_2 M N1 N2).2 (165 + n) = N2.2 n := by
  have e1 := zy_m1 (a := 165) (z := 31) (n := 165 + n) (by omega) (by omega) (zm_mrg [(0, 164)] M N1) N2
  rw [Nat.add_sub_cancel_left] at e1
  exact e1
theorem zy_2O {n : Nat} (h : n = 164 ∨ 196 ≤ n) (M N1 N2 : zm_I) : (zy_2 M N1 N2).1 n = M.1 n ∧ (zy_2 M N1 N2).2 n = M.2 n := by
  have e1 := zy_m0 (a := 165) (z := 31) (n := n) (by omega) (zm_mrg [(0, 164)] M N1) N2
  have e2 := zy_m0 (a := 0) (z := 164) (n := n) (by omega) M N1
  exact ⟨e1.1.trans e2.1, e1.2.trans e2.2⟩
theorem zy_1M {n : Nat} (h : n < 31) (M N1 : zm_I) : (zm_sub2 [(165, 31)] (zm_mrg [(0, 164)] M N1)).1 n = (zm_sub2 [(165, 31)] M).1 n ∧ (zm_sub2 [(165, 31)] (zm_mrg [(0, 164)] M N1)).2 n = (zm_sub2 [(165, 31)] M).2 n := by
  have e1 := zy_s1 (a := 165) h (zm_mrg [(0, 164)] M N1)
  have e2 := zy_s1 (a := 165) h M
  have e3 := zy_m0 (a := 0) (z := 164) (n := 165 + n) (by omega) M N1
  exact ⟨(e1.1.trans e3.1).trans e2.1.symm, (e1.2.trans e3.2).trans e2.2.symm⟩
theorem zy_1G {M : zm_I} (N1 : zm_I) (h : zt_Gs zo_g22 (zm_sub2 [(165, 31)] M)) : zt_Gs zo_g22 (zm_sub2 [(165, 31)] (zm_mrg [(0, 164)] M N1)) := zy_Gs zo_l22 (fun n hn => ((zy_m0 (a := 0) (z := 164) (n := 165 + n) (by omega) M N1).1.trans (zy_s1 (a := 165) hn M).1.symm)) h
theorem zy_1P {M : zm_I} (N1 : zm_I) (h : zq_P (zm_sub2 [(165, 31)] M)) : zq_P (zm_sub2 [(165, 31)] (zm_mrg [(0, 164)] M N1)) := zy_P (zy_1M (by decide) M N1).1 (zy_1M (by decide) M N1).1 h
theorem zy_2I {ks : List Nat} (hks : ks ∈ zK_all) {M N1 N2 : zm_I} (hI : zy_I ks M) (g1 : zt_Gs zo_g1 N1) (g2 : zt_Gs zo_g22 N2) (p2 : zq_P N2) : zy_I ks (zy_2 M N1 N2) := by
  obtain ⟨-, -, -, h4, h5⟩ := hI
  refine ⟨zy_Gs zo_l1 (fun n hn => by rw [Nat.zero_add]; exact (zy_2X hn M N1 N2).1) g1, zy_Gs zo_l22 (fun n hn => (zy_2M hn M N1 N2).1) g2, zy_P (((zy_s1 (by decide) _).1).trans (zy_2M (by decide) M N1 N2).1) (((zy_s1 (by decide) _).1).trans (zy_2M (by decide) M N1 N2).1) p2, fun i hi => ?_, fun a ha => ?_⟩
  · exact zy_Gs zo_l2 (fun n hn => (zy_2O (by omega) M N1 N2).1.trans (zy_s1 (a := 196 + 10 * i) hn M).1.symm) (h4 i hi)
  · have hl := (zK_w hks).2.2.1
    have e := zy_2O (n := a) (by omega) M N1 N2
    rw [e.1, e.2]
    exact h5 a ha
