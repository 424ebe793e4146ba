/-! the memory behind two calls -/
theorem zy_in1 {a z n : Nat} (h1 : a ≤ n) (h2 : n < a + z) : zm_in [(a, z)] n = true := by
  simp only [zm_in, Bool.or_false, Bool.and_eq_true]
  exact ⟨Nat.ble_eq_true_of_le h1, Nat.ble_eq_true_of_le h2⟩
theorem zy_in0 {a z n : Nat} (h : n < a ∨ a + z ≤ n) : zm_in [(a, z)] n = false := by
  cases hq : zm_in [(a, z)] n with
  | false => rfl
  | true =>
    simp only [zm_in, Bool.or_false, Bool.and_eq_true] at hq
    have h1 := Nat.le_of_ble_eq_true hq.1
    have h2 := Nat.le_of_ble_eq_true hq.2
    omega
theorem zy_m1 {a z n : Nat} (h1 : a ≤ n) (h2 : n < a + z) (M N : zm_I) : (zm_mrg [(a, z)] M N).1 n = N.1 (n - a) ∧ (zm_mrg [(a, z)] M N).2 n = N.2 (n - a) := by
  have hv : zm_iv [(a, z)] n = n - a := by simp only [zm_iv]; rw [if_pos ⟨h1, h2⟩]
  constructor <;> funext i <;> simp only [zm_mrg, zy_in1 h1 h2, hv]
theorem zy_m0 {a z n : Nat} (h : n < a ∨ a + z ≤ n) (M N : zm_I) : (zm_mrg [(a, z)] M N).1 n = M.1 n ∧ (zm_mrg [(a, z)] M N).2 n = M.2 n := by
  constructor <;> funext i <;> simp only [zm_mrg, zy_in0 h]
theorem zy_s1 {a z n : Nat} (h : n < z) (M : zm_I) : (zm_sub2 [(a, z)] M).1 n = M.1 (a + n) ∧ (zm_sub2 [(a, z)] M).2 n = M.2 (a + n) := by
  have : zm_fw [(a, z)] n = a + n := by simp only [zm_fw]; rw [if_pos h]
  exact ⟨by show M.1 (zm_fw [(a, z)] n) = _; rw [this], by show M.2 (zm_fw [(a, z)] n) = _; rw [this]⟩
theorem zy_Gs {G : zt_G} {a z : Nat} {M N : zm_I} (hl : G.length ≤ z) (h : ∀ n, n < z → M.1 (a + n) = N.1 n) (hN : zt_Gs G N) : zt_Gs G (zm_sub2 [(a, z)] M) := by
  intro n g hg i b hb
  have hn : n < z := Nat.lt_of_lt_of_le (List.getElem?_eq_some_iff.mp hg).1 hl
  rw [(zy_s1 hn M).1, h n hn]
  exact hN n g hg i b hb
theorem zy_P {M N : zm_I} (h6 : M.1 6 = N.1 6) (h7 : M.1 7 = N.1 7) (hN : zq_P N) : zq_P M := by
  unfold zq_P zq_E zq_F at hN ⊢
  rw [h6, h7]
  exact hN
theorem zo_l1 : zo_g1.length ≤ 164 := Nat.le_of_ble_eq_true (by decide +kernel)
theorem zo_l22 : zo_g22.length ≤ 31 := Nat.le_of_ble_eq_true (by decide +kernel)
theorem zo_l2 : zo_g2.length ≤ 10 := Nat.le_of_ble_eq_true (by decide +kernel)
/-- what holds at the head of the law's loop -/
def zy_I (ks : List Nat) (M : zm_I) : Prop := zt_Gs zo_g1 (zm_sub2 [(0, 164)] M) ∧ zt_Gs zo_g22 (zm_sub2 [(165, 31)] M) ∧ zq_P (zm_sub2 [(165, 31)] M) ∧ (∀ i, i < ks.length → zt_Gs zo_g2 (zm_sub2 [(196 + 10 * i, 10)] M)) ∧ zn_fr (zL_w ks) M
def zy_2 (M N1 N2 : zm_I) : zm_I := zm_mrg [(165, 31)] (zm_mrg [(0, 164)] M N1) N2
theorem zy_2X {n : Nat} (h : n < 164) (M N1 N2 : zm_I) : (zy_2 M N1 N2).1 n = N1.1 n ∧ (zy_2 M N1 N2).2 n = N1.2 n := by
  have e1 := zy_m0 (a := 165) (z := 31) (n := n) (by omega) (zm_mrg [(0, 164)] M N1) N2
  have e2 := zy_m1 (a := 0) (z := 164) (n := n) (by omega) (by omega) M N1
  exact ⟨e1.1.trans e2.1, e1.2.trans e2.2⟩
theorem zy_2M {n : Nat} (h : n < 31) (M N1 N2 : zm_I) : (zy_2 M N1 N2).1 (165 + n) = N2.1 n ∧ (zy_2 M N1 N2).2 (165 + n) = N2.2 n := by
  have e1 := zy_m1 (a := 165) (z := 31) (n := 165 + n) (by omega) (by omega) (zm_mrg [(0, 164)] M N1) N2
  rw [Nat.add_sub_cancel_left] at e1
  exact e1
theorem zy_2O {n : Nat} (h : n = 164 ∨ 196 ≤ n) (M N1 N2 : zm_I) : (zy_2 M N1 N2).1 n = M.1 n ∧ (zy_2 M N1 N2).2 n = M.2 n := by
  have e1 := zy_m0 (a := 165) (z := 31) (n := n) (by omega) (zm_mrg [(0, 164)] M N1) N2
  have e2 := zy_m0 (a := 0) (z := 164) (n := n) (by omega) M N1
  exact ⟨e1.1.trans e2.1, e1.2.trans e2.2⟩
theorem zy_1M {n : Nat} (h : n < 31) (M N1 : zm_I) : (zm_sub2 [(165, 31)] (zm_mrg [(0, 164)] M N1)).1 n = (zm_sub2 [(165, 31)] M).1 n ∧ (zm_sub2 [(165, 31)] (zm_mrg [(0, 164)] M N1)).2 n = (zm_sub2 [(165, 31)] M).2 n := by
  have e1 := zy_s1 (a := 165) h (zm_mrg [(0, 164)] M N1)
  have e2 := zy_s1 (a := 165) h M
  have e3 := zy_m0 (a := 0) (z := 164) (n := 165 + n) (by omega) M N1
  exact ⟨(e1.1.trans e3.1).trans e2.1.symm, (e1.2.trans e3.2).trans e2.2.symm⟩
theorem zy_1G {M : zm_I} (N1 : zm_I) (h : zt_Gs zo_g22 (zm_sub2 [(165, 31)] M)) : zt_Gs zo_g22 (zm_sub2 [(165, 31)] (zm_mrg [(0, 164)] M N1)) := zy_Gs zo_l22 (fun n hn => ((zy_m0 (a := 0) (z := 164) (n := 165 + n) (by omega) M N1).1.trans (zy_s1 (a := 165) hn M).1.symm)) h
theorem zy_1P {M : zm_I} (N1 : zm_I) (h : zq_P (zm_sub2 [(165, 31)] M)) : zq_P (zm_sub2 [(165, 31)] (zm_mrg [(0, 164)] M N1)) := zy_P (zy_1M (by decide) M N1).1 (zy_1M (by decide) M N1).1 h
theorem zy_2I {ks : List Nat} (hks : ks ∈ zK_all) {M N1 N2 : zm_I} (hI : zy_I ks M) (g1 : zt_Gs zo_g1 N1) (g2 : zt_Gs zo_g22 N2) (p2 : zq_P N2) : zy_I ks (zy_2 M N1 N2) := by
  obtain ⟨-, -, -, h4, h5⟩ := hI
  refine ⟨zy_Gs zo_l1 (fun n hn => by rw [Nat.zero_add]; exact (zy_2X hn M N1 N2).1) g1, zy_Gs zo_l22 (fun n hn => (zy_2M hn M N1 N2).1) g2, zy_P (((zy_s1 (by decide) _).1).trans (zy_2M (by decide) M N1 N2).1) (((zy_s1 (by decide) _).1).trans (zy_2M (by decide) M N1 N2).1) p2, fun i hi => ?_, fun a ha => ?_⟩
  · exact zy_Gs zo_l2 (fun n hn => (zy_2O (by omega) M N1 N2).1.trans (zy_s1 (a := 196 + 10 * i) hn M).1.symm) (h4 i hi)
  · have hl := (zK_w hks).2.2.1
    have e := zy_2O (n := a) (by omega) M N1 N2
    rw [e.1, e.2]
    exact h5 a ha
