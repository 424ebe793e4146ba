/-! 24k.sights, 24l.pile, 24m.copy, 25.00.x, 25.01.x, 25.02.x -/
section
/-! CONTRACTS BY HAND: sights and marks of the class -/
theorem zh_withinV (M : zm_I) {l : Int32} (h0 : 0 ≤ l.toInt) (h1 : l.toInt < 60) (lo hi : Int32) : zF_X7_isWithin zW_R [.ref 0, .int l, .int lo, .int hi] M = some (some (.int (zh_inr (M.2 1 l.toNatClampNeg) (Int32.toInt64 lo) (Int32.toInt64 hi))), M) := by
  have e : zF_X7_isWithin zW_R [.ref 0, .int l, .int lo, .int hi] M = zv_X7_isWithin_R_0 M.1 M.2 l lo hi := zf_X7_isWithin_R M.1 M.2 l lo hi
  have hin := zh_in (x := l) (n := 60) h0 h1
  have e28 : zv_X7_isWithin_R_28 M.1 M.2 l lo hi = some (some (.int 0), M) := by rw [zq_X7_isWithin_R_28, zq_X7_isWithin_R_29, if_pos (Or.inl rfl)]
  rw [e, zq_X7_isWithin_R_0, if_neg hin]
  unfold zh_inr
  by_cases h1 : M.2 1 l.toNatClampNeg < Int32.toInt64 lo
  · rw [if_pos ((lg_cmp_lt _ _).mpr h1), if_pos h1, e28]
  · rw [if_neg (fun q => h1 ((lg_cmp_lt _ _).mp q)), if_neg h1, zq_X7_isWithin_R_12, if_neg hin]
    by_cases h2 : Int32.toInt64 hi < M.2 1 l.toNatClampNeg
    · rw [if_pos ((zh_cmp_gt _ _).mpr h2), if_pos h2, e28]
    · rw [if_neg (fun q => h2 ((zh_cmp_gt _ _).mp q)), if_neg h2, zq_X7_isWithin_R_24, zq_X7_isWithin_R_29, if_pos (Or.inr rfl)]
theorem zh_intAtV (M : zm_I) {l : Int32} (h0 : 0 ≤ l.toInt) (h1 : l.toInt < 60) : zF_X7_intAt zW_R [.ref 0, .int l] M = some (some (.int (Int64.toInt32 (M.2 1 l.toNatClampNeg))), M) := by
  have e : zF_X7_intAt zW_R [.ref 0, .int l] M = zv_X7_intAt_R_0 M.1 M.2 l := zf_X7_intAt_R M.1 M.2 l
  rw [e, zq_X7_intAt_R_0, if_neg (zh_in (x := l) (n := 60) h0 h1)]
theorem zh_hasBenchV (I : Nat → Nat → Int32) (J : Nat → Nat → Int64) : ∃ r : Int32, zF_X9_hasBench zW_X [.ref 0] (I, J) = some (some (.int r), (I, J)) := by
  rw [zf_X9_hasBench_X, zq_X9_hasBench_X_0]
  split
  · exact ⟨0, by rw [zq_X9_hasBench_X_14, zq_X9_hasBench_X_15, if_pos (Or.inl rfl)]⟩
  · exact ⟨1, by rw [zq_X9_hasBench_X_10, zq_X9_hasBench_X_15, if_pos (Or.inr rfl)]⟩
theorem zh_ofadd {i k : Nat} {c : Int32} (hc : c.toInt = k) (h : i + k < 1000) : Int32.ofNat i + c = Int32.ofNat (i + k) := by
  apply Int32.toInt_inj.mp
  have eo : (Int32.ofNat i).toInt = i := zh_of (by omega)
  rw [zh_add (by omega) (by omega), eo, hc, zh_of (by omega)]
  omega
section ZHU
variable {I : Nat → Nat → Int32} {J : Nat → Nat → Int64} {h : Nat}
theorem zh_rs38 (hh : zm_isRow h) (hm : 0 ≤ (I h 1).toInt ∧ (I h 1).toInt ≤ 60) (h3 : (I h 1).toInt % 3 = 0) (hc : 0 ≤ (I 1 6).toInt ∧ (I 1 6).toInt ≤ 5) : ∀ (n i : Nat), i % 3 = 0 → i ≤ 60 → 60 - i < n → (∀ j : Nat, j < i → (j % 3 = 0 → 0 ≤ (J (h + 1) j).toInt ∧ (J (h + 1) j).toInt ≤ 4) ∧ (j % 3 = 1 → 0 ≤ (J (h + 1) j).toInt ∧ (J (h + 1) j).toInt ≤ 60)) → ∃ x, zv_X9_refusalOfSights_X_38 I J h (Int32.ofNat i) = some (some (.int x), (I, J)) ∧ (x = -2 ∨ (x = 0 ∧ zo_see h 1 (h + 1) 0 (I, J))) := by
  intro n
  induction n with
  | zero => intro i _ _ h; omega
  | succ n ih =>
    intro i hi3 hi60 hn hacc
    have e2 : Int32.ofNat i + 2 = Int32.ofNat (i + 2) := zh_ofadd zh_c2 (by omega)
    have e1 : Int32.ofNat i + 1 = Int32.ofNat (i + 1) := zh_ofadd zh_p1 (by omega)
    have e3 : Int32.ofNat i + 3 = Int32.ofNat (i + 3) := zh_ofadd zh_c3 (by omega)
    have eo : (Int32.ofNat i).toInt = i := zh_of (by omega)
    have eo1 : (Int32.ofNat (i + 1)).toInt = (i + 1 : Nat) := zh_of (by omega)
    have eo2 : (Int32.ofNat (i + 2)).toInt = (i + 2 : Nat) := zh_of (by omega)
    rw [zq_X9_refusalOfSights_X_38 _ _ _ _ hh, e2]
    split
    · next hle =>
      rw [zh_le, eo2] at hle
      refine ⟨0, zq_X9_refusalOfSights_X_101 I J h _ hh, Or.inr ⟨rfl, h3, fun j hj hl => ?_⟩⟩
      have hl : (j : Int) < (I h 1).toInt := hl
      rw [Nat.zero_add]
      exact hacc j (by omega)
    · next hle =>
      rw [zh_le, eo2] at hle
      have i57 : i ≤ 57 := by omega
      have e92 := zq_X9_refusalOfSights_X_92 I J h (Int32.ofNat i) hh
      rw [zc_X9_refusalOfSights_X_48 _ _ _ _ hh (zh_withinV (zm_sub2 [(h, 2)] (I, J)) (by omega) (by omega) _ _)]
      simp only [zm_mrg_id]
      rw [zq_X9_refusalOfSights_X_63 _ _ _ _ _ hh, zh_cl eo, zh_sub2]
      split
      · exact ⟨_, e92, Or.inl rfl⟩
      · next hb1 =>
        rw [zc_X9_refusalOfSights_X_66 _ _ _ _ hh (by rw [e1]; exact zh_withinV (zm_sub2 [(h, 2)] (I, J)) (by omega) (by omega) _ _)]
        simp only [zm_mrg_id]
        rw [zq_X9_refusalOfSights_X_76 _ _ _ _ _ hh, zh_cl eo1, zh_sub2]
        split
        · exact ⟨_, e92, Or.inl rfl⟩
        · next hb2 =>
          rw [zc_X9_refusalOfSights_X_79 _ _ _ _ hh (by rw [e2]; exact zh_withinV (zm_sub2 [(h, 2)] (I, J)) (by omega) (by omega) _ _)]
          simp only [zm_mrg_id]
          rw [zq_X9_refusalOfSights_X_89 _ _ _ _ _ hh]
          split
          · exact ⟨_, e92, Or.inl rfl⟩
          · rw [zq_X9_refusalOfSights_X_95 _ _ _ _ hh, e3]
            have c1 := zh_inr_ne hb1
            have c2 := zh_inr_ne hb2
            have ec : (I 1 6 - 1).toInt = (I 1 6).toInt - 1 := by rw [zh_sub (by rw [zh_p1]; omega) (by rw [zh_p1]; omega), zh_p1]
            rw [Int32.toInt_toInt64, Int32.toInt_toInt64, ec, zh_z0] at c1
            rw [Int32.toInt_toInt64, Int32.toInt_toInt64, zh_c60, zh_z0] at c2
            clear ec
            refine ih (i + 3) (by omega) (by omega) (by omega) (fun j hj => ?_)
            by_cases hji : j < i
            · exact hacc j hji
            · have hj3 : j = i ∨ j = i + 1 ∨ j = i + 2 := by omega
              rcases hj3 with rfl | rfl | rfl
              · exact ⟨fun _ => by omega, fun h => by omega⟩
              · exact ⟨fun h => by omega, fun _ => c2⟩
              · exact ⟨fun h => by omega, fun h => by omega⟩
theorem zh_rsV (hh : zm_isRow h) (hm : 0 ≤ (I h 1).toInt ∧ (I h 1).toInt ≤ 60) (hc : 0 ≤ (I 1 6).toInt ∧ (I 1 6).toInt ≤ 5) : ∃ x : Int32, zF_X9_refusalOfSights zW_X [.ref 0, .ref h] (I, J) = some (some (.int x), (I, J)) ∧ ((-6 ≤ x.toInt ∧ x.toInt ≤ -1) ∨ (x = 0 ∧ zo_see h 1 (h + 1) 0 (I, J))) := by
  have e2 : (-2 : Int32).toInt = -2 := by decide
  have e6 : (-6 : Int32).toInt = -6 := by decide
  obtain ⟨r, q⟩ := zh_hasBenchV I J
  rw [zf_X9_refusalOfSights_X, zq_X9_refusalOfSights_X_0 _ _ _ hh, zc_X9_refusalOfSights_X_4 _ _ _ hh q, zq_X9_refusalOfSights_X_8 _ _ _ _ hh]
  split
  · exact ⟨_, zq_X9_refusalOfSights_X_11 I J h hh, Or.inl (by omega)⟩
  · obtain ⟨r2, q2⟩ := zh_isMadeV (zm_sub2 [(h, 2)] (I, J))
    rw [zc_X9_refusalOfSights_X_14 _ _ _ hh q2]
    simp only [zm_mrg_id]
    rw [zq_X9_refusalOfSights_X_18 _ _ _ _ hh]
    split
    · exact ⟨_, zq_X9_refusalOfSights_X_21 I J h hh, Or.inl (by omega)⟩
    · rw [zq_X9_refusalOfSights_X_24 _ _ _ hh]
      split
      · next h3 =>
        rw [zq_X9_refusalOfSights_X_36 _ _ _ hh]
        obtain ⟨x, q3, q4⟩ := zh_rs38 (J := J) hh hm (zh_three hm.1 h3) hc 100 0 (by omega) (by omega) (by omega) (fun j hj => by omega)
        refine ⟨x, q3, ?_⟩
        rcases q4 with rfl | q4
        · exact Or.inl (by omega)
        · exact Or.inr q4
      · exact ⟨_, zq_X9_refusalOfSights_X_33 I J h hh, Or.inl (by omega)⟩
theorem zh_as13 (hh : zm_isRow h) (hm : 0 ≤ (I h 1).toInt ∧ (I h 1).toInt ≤ 60) (hs : zo_see h 1 (h + 1) 0 (I, J)) : ∀ (n i : Nat) (l3 l4 : Option Value), i % 3 = 0 → i ≤ 60 → 60 - i < n → ∃ x, zv_X9_isAsSeen_X_13 I J h (Int32.ofNat i) l3 l4 = some (some (.int x), (I, J)) ∧ (x = 0 ∨ x = 1) := by
  intro n
  induction n with
  | zero => intro i l3 l4 _ _ h; omega
  | succ n ih =>
    intro i l3 l4 hi3 hi60 hn
    have h3 : (I h 1).toInt % 3 = 0 := hs.1
    have e2 : Int32.ofNat i + 2 = Int32.ofNat (i + 2) := zh_ofadd zh_c2 (by omega)
    have e1 : Int32.ofNat i + 1 = Int32.ofNat (i + 1) := zh_ofadd zh_p1 (by omega)
    have e3 : Int32.ofNat i + 3 = Int32.ofNat (i + 3) := zh_ofadd zh_c3 (by omega)
    have eo : (Int32.ofNat i).toInt = i := zh_of (by omega)
    have eo1 : (Int32.ofNat (i + 1)).toInt = (i + 1 : Nat) := zh_of (by omega)
    have eo2 : (Int32.ofNat (i + 2)).toInt = (i + 2 : Nat) := zh_of (by omega)
    rw [zq_X9_isAsSeen_X_13 _ _ _ _ _ _ hh, e2]
    split
    · exact ⟨1, zq_X9_isAsSeen_X_66 I J h _ _ _ hh, Or.inr rfl⟩
    · next hle =>
      rw [zh_le, eo2] at hle
      have i57 : i ≤ 57 := by omega
      have c1 := (hs.2 i (by omega) (by show (i : Int) < (I h 1).toInt; omega)).1 hi3
      have c2 := (hs.2 (i + 1) (by omega) (by show ((i + 1 : Nat) : Int) < (I h 1).toInt; omega)).2 (by omega)
      rw [Nat.zero_add] at c1 c2
      dsimp only at c1 c2
      have d1 := zh_l2i c1.1 c1.2 (by omega) (by omega)
      have d2 := zh_l2i c2.1 c2.2 (by omega) (by omega)
      rw [zc_X9_isAsSeen_X_23 _ _ _ _ _ _ hh (zh_intAtV (zm_sub2 [(h, 2)] (I, J)) (by omega) (by omega))]
      simp only [zm_mrg_id]
      rw [zc_X9_isAsSeen_X_28 _ _ _ _ _ _ _ hh (by rw [e1]; exact zh_intAtV (zm_sub2 [(h, 2)] (I, J)) (by omega) (by omega))]
      simp only [zm_mrg_id]
      rw [zh_cl eo, zh_cl eo1, zh_sub2, zh_sub2]
      have hage : zF_X3_ageAt zW_Y [.ref 0, .int (Int64.toInt32 (J (h + 1) i)), .int (Int64.toInt32 (J (h + 1) (i + 1)))] (zm_sub2 [(32, 11)] (I, J)) = some (some (.int (I 41 (Int32.toNatClampNeg (Int64.toInt32 (J (h + 1) (i + 1)) * 5 + Int64.toInt32 (J (h + 1) i))))), zm_sub2 [(32, 11)] (I, J)) := by
        have c5 : (5 : Int32).toInt = 5 := by decide
        have m5 : (Int64.toInt32 (J (h + 1) (i + 1)) * 5).toInt = (J (h + 1) (i + 1)).toInt * 5 := by rw [zh_mul (by rw [c5, d2]; omega) (by rw [c5, d2]; omega), c5, d2]
        have s5 : (Int64.toInt32 (J (h + 1) (i + 1)) * 5 + Int64.toInt32 (J (h + 1) i)).toInt = (J (h + 1) (i + 1)).toInt * 5 + (J (h + 1) i).toInt := by rw [zh_add (by rw [m5, d1]; omega) (by rw [m5, d1]; omega), m5, d1]
        have hin := zh_in (x := Int64.toInt32 (J (h + 1) (i + 1)) * 5 + Int64.toInt32 (J (h + 1) i)) (n := 305) (by rw [s5]; omega) (by rw [s5]; omega)
        exact (zf_X3_ageAt_Y _ _ _ _).trans ((zq_X3_ageAt_Y_0 _ _ _ _).trans (if_neg hin))
      rw [zc_X9_isAsSeen_X_36 _ _ _ _ _ _ _ hh hage]
      simp only [zm_mrg_id]
      rw [zc_X9_isAsSeen_X_48 _ _ _ _ _ _ _ hh (by rw [e2]; exact zh_intAtV (zm_sub2 [(h, 2)] (I, J)) (by omega) (by omega))]
      simp only [zm_mrg_id]
      rw [zq_X9_isAsSeen_X_55 _ _ _ _ _ _ _ _ hh]
      split
      · rw [zq_X9_isAsSeen_X_60 _ _ _ _ _ _ hh, e3]
        exact ih (i + 3) _ _ (by omega) (by omega) (by omega)
      · exact ⟨0, zq_X9_isAsSeen_X_58 I J h _ _ _ hh, Or.inl rfl⟩
end ZHU
theorem zh_relX (v z : Nat) (h : z < 4) (M : zm_I) : zo_Rel v (3 + z) M = zo_see (54 + 2 * z) 1 (55 + 2 * z) 0 M := by
  have hz4 : z = 0 ∨ z = 1 ∨ z = 2 ∨ z = 3 := by omega
  rcases hz4 with rfl | rfl | rfl | rfl <;> rfl
theorem zh_isRow (z : Nat) (h : z < 4) : zm_isRow (54 + 2 * z) := by
  unfold zm_isRow
  omega
theorem zh_rsights (z : Nat) (hz : z < 4) (v : Nat) (hd : Nat × Option Nat × Bool × List (Nat × Nat)) : zt_Con zo_Om (zo_Rel v) (hd, (1, ([zjr 0, zjr (54 + 2 * z)], [], []), [], [(some (zj (.negSucc 5) (.negSucc 0)), [], [], []), (some (zj (.ofNat 0) (.ofNat 0)), [], [], [3 + z])])) zF_X9_refusalOfSights :=
  zh_pure (w0 := zW_X) (G := zo_g1) rfl (by decide +kernel) (fun as M hs _ _ hG => by
    obtain ⟨vs, rfl, h1⟩ := zh_ref hs
    obtain ⟨vs, rfl, h2⟩ := zh_ref h1
    obtain rfl := zh_nil h2
    obtain ⟨x, q1, q2⟩ := zh_rsV (I := M.1) (J := M.2) (zh_isRow z hz) (zh_rowG hG _ (zh_isRow z hz)) (hG 1 _ rfl 6 (.ofNat 0, .ofNat 5) rfl)
    refine ⟨_, q1, ?_⟩
    rcases q2 with q2 | ⟨rfl, q2⟩
    · exact ⟨_, List.mem_cons_self, zh_res q2.1 q2.2⟩
    · refine ⟨_, List.mem_of_getElem? (i := 1) rfl, zh_resF (by decide) (by decide) (fun f hf => ?_)⟩
      rcases List.mem_cons.mp hf with rfl | hf
      · rw [zh_relX v z hz]
        have e : 54 + 2 * z + 1 = 55 + 2 * z := by omega
        rw [e] at q2
        exact q2
      · cases hf)
theorem zh_rsights_n (v : Nat) (hd : Nat × Option Nat × Bool × List (Nat × Nat)) : zt_Con zo_Om (zo_Rel v) (hd, (1, ([zjr 0, (3, .ofNat 0, .ofNat 0, 0, [])], [], []), [], [(some (zj (.negSucc 1) (.negSucc 1)), [], [], [])])) zF_X9_refusalOfSights :=
  zh_pure (w0 := zW_X) (G := zo_g1) rfl (by decide +kernel) (fun as M hs _ _ hG => by
    obtain ⟨vs, rfl, h1⟩ := zh_ref hs
    obtain ⟨vs, rfl, h2⟩ := zh_null h1
    obtain rfl := zh_nil h2
    exact ⟨_, (zf_X9_refusalOfSights_Xn M.1 M.2).trans ((zq_X9_refusalOfSights_Xn_0 M.1 M.2).trans (zq_X9_refusalOfSights_Xn_11 M.1 M.2)), _, List.mem_cons_self, zh_res (by decide) (by decide)⟩)
/-- memories put together -/
theorem zh_iv_lt : ∀ (bs : List (Nat × Nat)) (n : Nat), zm_in bs n = true → zm_iv bs n < zm_tot bs
  | [], n, h => by cases h
  | (a, z) :: bs, n, h => by
    have h : ((Nat.ble a n && Nat.ble (n + 1) (a + z)) || zm_in bs n) = true := h
    show (if a ≤ n ∧ n < a + z then n - a else z + zm_iv bs n) < z + zm_tot bs
    by_cases c : a ≤ n ∧ n < a + z
    · rw [if_pos c]; omega
    · rw [if_neg c]
      rw [Bool.or_eq_true, Bool.and_eq_true, Nat.ble_eq, Nat.ble_eq] at h
      rcases h with h | h
      · exact absurd ⟨h.1, h.2⟩ c
      · have := zh_iv_lt bs n h
        omega
theorem zh_mrg1 (bs : List (Nat × Nat)) (M N : zm_I) (n i : Nat) : (zm_in bs n = true ∧ (zm_mrg bs M N).1 n i = N.1 (zm_iv bs n) i ∧ (zm_mrg bs M N).2 n i = N.2 (zm_iv bs n) i) ∨ (zm_in bs n = false ∧ (zm_mrg bs M N).1 n i = M.1 n i ∧ (zm_mrg bs M N).2 n i = M.2 n i) := by
  unfold zm_mrg
  dsimp only
  cases h : zm_in bs n with
  | true => exact Or.inl ⟨rfl, rfl, rfl⟩
  | false => exact Or.inr ⟨rfl, rfl, rfl⟩
theorem zh_mrgG {G G' : zt_G} {bs : List (Nat × Nat)} {M N : zm_I} (hG : zt_Gs G M) (hN : zt_Gs G' N) (hq : ∀ k, k < zm_tot bs → G[zm_fw bs k]? = G'[k]?) : zt_Gs G (zm_mrg bs M N) := by
  intro n g hg i b hb
  rcases zh_mrg1 bs M N n i with ⟨h1, h2, -⟩ | ⟨-, h2, -⟩
  · rw [h2]
    refine hN (zm_iv bs n) g ?_ i b hb
    rw [← hq _ (zh_iv_lt bs n h1), zm_fw_iv]
    exact hg
  · rw [h2]
    exact hG n g hg i b hb
theorem zh_subG {G G' : zt_G} {bs : List (Nat × Nat)} {M : zm_I} (hG : zt_Gs G M) (hl : G'.length = zm_tot bs) (hq : ∀ k, k < zm_tot bs → G[zm_fw bs k]? = G'[k]?) : zt_Gs G' (zm_sub2 bs M) := by
  intro n g hg i b hb
  have hn : n < zm_tot bs := by rw [← hl]; exact (List.getElem?_eq_some_iff.mp hg).1
  exact hG (zm_fw bs n) g (by rw [hq n hn]; exact hg) i b hb
theorem zh_asW : ((List.range 21).all (fun k => decide (zo_g1[zm_fw [(32, 11), (11, 10)] k]? = zo_g8[k]?))) = true := by decide +kernel
def zh_asWr : zt_W := [(32, 0, 400), (33, 0, 400), (34, 0, 400), (35, 0, 400), (36, 0, 400), (37, 0, 400), (38, 0, 400), (39, 0, 400), (40, 0, 400), (41, 0, 400), (42, 0, 400)]
theorem zh_asHit {n i : Nat} (h1 : 32 ≤ n) (h2 : n ≤ 42) (h3 : i ≤ 400) : zt_hit zh_asWr n i = true := by
  have : n = 32 ∨ n = 33 ∨ n = 34 ∨ n = 35 ∨ n = 36 ∨ n = 37 ∨ n = 38 ∨ n = 39 ∨ n = 40 ∨ n = 41 ∨ n = 42 := by omega
  rcases this with rfl | rfl | rfl | rfl | rfl | rfl | rfl | rfl | rfl | rfl | rfl <;> (simp [zt_hit, zh_asWr]; omega)
theorem zh_isAsSeen (z : Nat) (hz : z < 4) (v : Nat) (hd : Nat × Option Nat × Bool × List (Nat × Nat)) {hk : Nat × Option Nat × Bool × List (Nat × Nat)} {Wk : zt_W} (hkeep : zt_Con zo_Om (zo_Rel v) (hk, (8, ([zjr 0, zjr 11], [], []), Wk, [(none, [], [], [])])) zF_X3_keep) (hW : Wk.all (fun w => Nat.ble w.1 10 && Nat.ble w.2.2 400) = true) : zt_Con zo_Om (zo_Rel v) (hd, (1, ([zjr 0, zjr (54 + 2 * z)], [], [3 + z]), zh_asWr, zh_bool [3 + z])) zF_X9_isAsSeen :=
  zh_con (w0 := zW_X) (G := zo_g1) rfl (by decide +kernel) (fun as M hs _ hf hG => by
    obtain ⟨vs, rfl, h1⟩ := zh_ref hs
    obtain ⟨vs, rfl, h2⟩ := zh_ref h1
    obtain rfl := zh_nil h2
    have hh := zh_isRow z hz
    have hq : ∀ k, k < zm_tot [(32, 11), (11, 10)] → zo_g1[zm_fw [(32, 11), (11, 10)] k]? = zo_g8[k]? := fun k hk => of_decide_eq_true (List.all_eq_true.mp zh_asW k (List.mem_range.mpr hk))
    obtain ⟨x0, N, k1, k2, k3, o, ho, k4⟩ := hkeep zW_YB zo_g8 rfl zW_YB [.ref 0, .ref 11] (zm_sub2 [(32, 11), (11, 10)] M) ⟨rfl, fun n d h _ => h⟩ ⟨rfl, rfl, trivial⟩ zh_no zh_no (zh_subG hG rfl hq)
    have hx0 : x0 = none := by
      rcases List.mem_cons.mp ho with rfl | ho
      · exact k4.1
      · cases ho
    subst hx0
    have hrow : ∀ n i, zt_hit zh_asWr n i = false → (zm_mrg [(32, 11), (11, 10)] M N).1 n i = M.1 n i ∧ (zm_mrg [(32, 11), (11, 10)] M N).2 n i = M.2 n i := by
      intro n i hh9
      rcases zh_mrg1 [(32, 11), (11, 10)] M N n i with ⟨c1, c2, c3⟩ | ⟨-, c2, c3⟩
      · have hk0 : zt_hit Wk (zm_iv [(32, 11), (11, 10)] n) i = false := by
          cases hk9 : zt_hit Wk (zm_iv [(32, 11), (11, 10)] n) i with
          | false => rfl
          | true =>
            exfalso
            obtain ⟨w, hw1, hw2⟩ := List.any_eq_true.mp hk9
            have hw3 := List.all_eq_true.mp hW w hw1
            simp only [Bool.and_eq_true, Nat.ble_eq] at hw2 hw3
            have hw4 := Nat.eq_of_beq_eq_true hw2.1.1
            have hlt : zm_iv [(32, 11), (11, 10)] n ≤ 10 := by omega
            have en := zm_fw_iv [(32, 11), (11, 10)] n
            have e2 : zm_fw [(32, 11), (11, 10)] (zm_iv [(32, 11), (11, 10)] n) = 32 + zm_iv [(32, 11), (11, 10)] n := if_pos (by omega)
            rw [zh_asHit (by omega) (by omega) (by omega)] at hh9
            cases hh9
        have k5 := k3 _ _ hk0
        have en := zm_fw_iv [(32, 11), (11, 10)] n
        rw [c2, c3, k5.1, k5.2]
        show M.1 (zm_fw [(32, 11), (11, 10)] (zm_iv [(32, 11), (11, 10)] n)) i = _ ∧ M.2 (zm_fw [(32, 11), (11, 10)] (zm_iv [(32, 11), (11, 10)] n)) i = _
        rw [en]
        exact ⟨rfl, rfl⟩
      · exact ⟨c2, c3⟩
    have hr := hf (3 + z) List.mem_cons_self
    have hno : ∀ n i, 54 ≤ n → zt_hit zh_asWr n i = false := fun n i hn => by
      cases hk9 : zt_hit zh_asWr n i with
      | false => rfl
      | true =>
        exfalso
        obtain ⟨w, hw1, hw2⟩ := List.any_eq_true.mp hk9
        simp only [Bool.and_eq_true] at hw2
        have hw4 := Nat.eq_of_beq_eq_true hw2.1.1
        have hw5 := List.all_eq_true.mp (show zh_asWr.all (fun w => Nat.ble w.1 42) = true by decide) w hw1
        rw [Nat.ble_eq] at hw5
        omega
    have hr2 : zo_Rel v (3 + z) (zm_mrg [(32, 11), (11, 10)] M N) := by
      rw [zh_relX v z hz] at hr ⊢
      refine ⟨by rw [(hrow _ _ (hno _ _ (by omega))).1]; exact hr.1, fun i hi hl => ?_⟩
      rw [(hrow _ _ (hno _ _ (by omega))).1] at hl
      rw [(hrow _ _ (hno _ _ (by omega))).2]
      exact hr.2 i hi hl
    have hG2 := zh_mrgG hG k2 hq
    have hsee := hr2
    rw [zh_relX v z hz] at hsee
    have e55 : 55 + 2 * z = 54 + 2 * z + 1 := by omega
    rw [e55] at hsee
    obtain ⟨x, q1, q2⟩ := zh_as13 (I := (zm_mrg [(32, 11), (11, 10)] M N).1) (J := (zm_mrg [(32, 11), (11, 10)] M N).2) hh (zh_rowG hG2 _ hh) hsee 100 0 none none (by omega) (by omega) (by omega)
    refine ⟨_, _, (zf_X9_isAsSeen_X M.1 M.2 _).trans ((zc_X9_isAsSeen_X_0 M.1 M.2 _ hh k1).trans ((zq_X9_isAsSeen_X_11 _ _ _ hh).trans q1)), hG2, hrow, zh_bools q2 (fun f hf9 => ?_)⟩
    rcases List.mem_cons.mp hf9 with rfl | hf9
    · exact hr2
    · cases hf9)
end
section
/-! CONTRACTS BY HAND: the class's pile of marks -/
def zh_fW : zm_L := [(.inr (.int, 10), [])]
section ZHF
variable (I : Nat → Nat → Int32) (J : Nat → Nat → Int64)
noncomputable def zh_fV (pc : Nat) (ls : List (Option Value)) (M : zm_I) : zm_R := zm_V zT_J7_fill_53178 zh_fW (pc, ls, [], M)
theorem zh_f_0 (v : Int32) : zh_fV 0 [some (.ref 0), some (.int v), none, none] (I, J) = zh_fV 5 [some (.ref 0), some (.int v), some (.int 0), some (.int 10)] (I, J) := zh_st (T := zT_J7_fill_53178) (wl := zh_fW) (S := (0, [some (.ref 0), some (.int v), none, none], [], (I, J))) (f := fun q => q (5, [some (.ref 0), some (.int v), some (.int 0), some (.int 10)], [], (I, J))) (fun _ => rfl)
theorem zh_f_5 (v i n : Int32) : zh_fV 5 [some (.ref 0), some (.int v), some (.int i), some (.int n)] (I, J) = if n ≤ i then zh_fV 20 [some (.ref 0), some (.int v), some (.int i), some (.int n)] (I, J) else zh_fV 10 [some (.ref 0), some (.int v), some (.int i), some (.int n)] (I, J) := zh_st (T := zT_J7_fill_53178) (wl := zh_fW) (S := (5, [some (.ref 0), some (.int v), some (.int i), some (.int n)], [], (I, J))) (f := fun q => if n ≤ i then q (20, [some (.ref 0), some (.int v), some (.int i), some (.int n)], [], (I, J)) else q (10, [some (.ref 0), some (.int v), some (.int i), some (.int n)], [], (I, J))) (fun _ => rfl)
theorem zh_f_10 (v i n : Int32) : zh_fV 10 [some (.ref 0), some (.int v), some (.int i), some (.int n)] (I, J) = if i < 0 ∨ 10 ≤ i.toNatClampNeg then none else zh_fV 5 [some (.ref 0), some (.int v), some (.int (i + 1)), some (.int n)] (zm_w I 0 i.toNatClampNeg v, J) := zh_st (T := zT_J7_fill_53178) (wl := zh_fW) (S := (10, [some (.ref 0), some (.int v), some (.int i), some (.int n)], [], (I, J))) (f := fun q => if i < 0 ∨ 10 ≤ i.toNatClampNeg then none else q (5, [some (.ref 0), some (.int v), some (.int (i + 1)), some (.int n)], [], (zm_w I 0 i.toNatClampNeg v, J))) (fun _ => rfl)
theorem zh_f_20 (ls : List (Option Value)) : zh_fV 20 ls (I, J) = some (none, (I, J)) := zh_st (T := zT_J7_fill_53178) (wl := zh_fW) (S := (20, ls, [], (I, J))) (f := fun _ => some (none, (I, J))) (fun _ => rfl)
end ZHF
theorem zh_fill5 {I0 : Nat → Nat → Int32} (J : Nat → Nat → Int64) (v : Int32) : ∀ (f x : Nat) (I : Nat → Nat → Int32), (∀ n i, ¬ (n = 0 ∧ i ≤ 9) → I n i = I0 n i) → x ≤ 10 → 10 - x < f → ∃ I', zh_fV 5 [some (.ref 0), some (.int v), some (.int (Int32.ofNat x)), some (.int 10)] (I, J) = some (none, (I', J)) ∧ ∀ n i, ¬ (n = 0 ∧ i ≤ 9) → I' n i = I0 n i := by
  intro f
  induction f with
  | zero => intro x I _ _ h; omega
  | succ f ih =>
    intro x I hI hx hf
    have eo : (Int32.ofNat x).toInt = x := zh_of (by omega)
    have e10 : (10 : Int32).toInt = 10 := by decide
    rw [zh_f_5]
    split
    · exact ⟨I, zh_f_20 I J _, hI⟩
    · next hle =>
      rw [zh_le, eo, e10] at hle
      rw [zh_f_10, if_neg (zh_in (by omega) (by omega)), zh_cl eo, zh_ofadd (k := 1) zh_p1 (by omega)]
      refine ih (x + 1) _ (fun n i hn => ?_) (by omega) (by omega)
      rw [zh_w2 I v (fun e => hn ⟨e.1, by omega⟩)]
      exact hI n i hn
theorem zh_fillV (M : zm_I) : ∃ I', zF_J7_fill_53178 [(.inr (.int, 10), [])] [.ref 0, .int 0] M = some (none, (I', M.2)) ∧ ∀ n i, ¬ (n = 0 ∧ i ≤ 9) → I' n i = M.1 n i := by
  obtain ⟨I', q1, q2⟩ := zh_fill5 (I0 := M.1) M.2 0 100 0 M.1 (fun _ _ _ => rfl) (by omega) (by omega)
  exact ⟨I', (zh_f_0 M.1 M.2 0).trans q1, q2⟩
def zh_soP (I0 I : Nat → Nat → Int32) : Prop := (∀ n i, ¬ ((n = 0 ∧ i = 0) ∨ (n = 1 ∧ i ≤ 9) ∨ (n = 2 ∧ i ≤ 9)) → I n i = I0 n i) ∧ (0 ≤ (I 0 0).toInt ∧ (I 0 0).toInt ≤ 1) ∧ ∀ i, 0 ≤ (I 1 i).toInt ∧ (I 1 i).toInt ≤ 9
section ZHO
variable {I0 I : Nat → Nat → Int32} {J : Nat → Nat → Int64}
theorem zh_soP_0 (h : zh_soP I0 I) {x : Int32} (h0 : 0 ≤ x.toInt) (h1 : x.toInt ≤ 1) : zh_soP I0 (zm_w I 0 0 x) := by
  refine ⟨fun n i hn => ?_, ?_, fun i => ?_⟩
  · rw [zh_w2 I x (by omega)]; exact h.1 n i hn
  · rw [zh_w1]; omega
  · rw [zh_w2 I x (by omega)]; exact h.2.2 i
theorem zh_soP_2 (h : zh_soP I0 I) {c : Nat} (hc : c ≤ 9) (x : Int32) : zh_soP I0 (zm_w I 2 c x) := by
  refine ⟨fun n i hn => ?_, ?_, fun i => ?_⟩
  · rw [zh_w2 I x (by omega)]; exact h.1 n i hn
  · rw [zh_w2 I x (by omega)]; exact h.2.1
  · rw [zh_w2 I x (by omega)]; exact h.2.2 i
theorem zh_soP_1 (h : zh_soP I0 I) {c : Nat} (hc : c ≤ 9) {x : Int32} (h0 : 0 ≤ x.toInt) (h1 : x.toInt ≤ 9) : zh_soP I0 (zm_w I 1 c x) := by
  refine ⟨fun n i hn => ?_, ?_, fun i => ?_⟩
  · rw [zh_w2 I x (by omega)]; exact h.1 n i hn
  · rw [zh_w2 I x (by omega)]; exact h.2.1
  · by_cases e : i = c
    · subst e; rw [zh_w1]; omega
    · rw [zh_w2 I x (by omega)]; exact h.2.2 i
theorem zh_ltc2 (l1 : Int32) : ∀ (f k : Nat), k ≤ 10 → 10 - k < f → ∃ r : Int32, zv_X5_leastToCut_PR_2 I J l1 (Int32.ofNat k) = some (some (.int r), (I, J)) ∧ -1 ≤ r.toInt ∧ r.toInt ≤ 9 := by
  intro f
  induction f with
  | zero => intro k _ h; omega
  | succ f ih =>
    intro k hk hf
    have ek : (Int32.ofNat k).toInt = k := zh_of (by omega)
    have e10 : (10 : Int32).toInt = 10 := by decide
    rw [zq_X5_leastToCut_PR_2]
    split
    · exact ⟨-1, zq_X5_leastToCut_PR_37 I J l1 _, by rw [zh_m1]; omega, by rw [zh_m1]; omega⟩
    · next h10 =>
      rw [zh_le, e10, ek] at h10
      have k31 : ∃ r : Int32, zv_X5_leastToCut_PR_31 I J l1 (Int32.ofNat k) = some (some (.int r), (I, J)) ∧ -1 ≤ r.toInt ∧ r.toInt ≤ 9 := by
        rw [zq_X5_leastToCut_PR_31, zh_ofadd (k := 1) zh_p1 (by omega)]
        exact ih (k + 1) (by omega) (by omega)
      rw [zq_X5_leastToCut_PR_8]
      split
      · rw [zq_X5_leastToCut_PR_16, if_neg (zh_in (by omega) (by omega))]
        split
        · exact ⟨_, zq_X5_leastToCut_PR_29 I J l1 _, by omega, by omega⟩
        · exact k31
      · exact k31
theorem zh_ltcV (I : Nat → Nat → Int32) (J : Nat → Nat → Int64) (l1 : Int32) : ∃ r : Int32, zF_X5_leastToCut zW_PR [.ref 0, .int l1] (I, J) = some (some (.int r), (I, J)) ∧ -1 ≤ r.toInt ∧ r.toInt ≤ 9 := by
  obtain ⟨r, q1, q2⟩ := zh_ltc2 (I := I) (J := J) l1 100 0 (by omega) (by omega)
  exact ⟨r, (zf_X5_leastToCut_PR I J l1).trans ((zq_X5_leastToCut_PR_0 I J l1).trans q1), q2⟩
theorem zh_so57 : ∀ (f k : Nat) (I : Nat → Nat → Int32) (l2 : Int32) (l4 : Option Value), zh_soP I0 I → k ≤ 10 → 10 - k < f → ∃ I', zv_X5_sort_PR_57 I J l2 (Int32.ofNat k) l4 = some (none, (I', J)) ∧ zh_soP I0 I' := by
  intro f
  induction f with
  | zero => intro k I l2 l4 _ _ h; omega
  | succ f ih =>
    intro k I l2 l4 hI hk hf
    have ek : (Int32.ofNat k).toInt = k := zh_of (by omega)
    have e10 : (10 : Int32).toInt = 10 := by decide
    have e120 : ∀ l4, zv_X5_sort_PR_120 I J l2 (Int32.ofNat k) l4 = some (none, (I, J)) := fun l4 => zq_X5_sort_PR_120 I J l2 _ l4
    rw [zq_X5_sort_PR_57]
    split
    · exact ⟨I, e120 _, hI⟩
    · next h10 =>
      rw [zh_le, e10, ek] at h10
      rw [zq_X5_sort_PR_63]
      split
      · exact ⟨I, e120 _, hI⟩
      · obtain ⟨r, q1, q2, q3⟩ := zh_ltcV I J l2
        rw [zc_X5_sort_PR_70 _ _ _ _ _ q1]
        have k114 : ∀ (I9 : Nat → Nat → Int32) (l2 : Int32), zh_soP I0 I9 → ∃ I', zv_X5_sort_PR_114 I9 J l2 (Int32.ofNat k) r = some (none, (I', J)) ∧ zh_soP I0 I' := fun I9 l2 h9 => by
          rw [zq_X5_sort_PR_114, zh_ofadd (k := 1) zh_p1 (by omega)]
          exact ih (k + 1) _ _ _ h9 (by omega) (by omega)
        rw [zq_X5_sort_PR_75]
        split
        · rw [zq_X5_sort_PR_88, zq_X5_sort_PR_89, if_pos (Or.inl rfl), zh_w1, if_pos rfl]
          exact k114 _ _ (zh_soP_0 hI (by rw [zh_z0]; omega) (by rw [zh_z0]; omega))
        · next hne =>
          have hr0 : 0 ≤ r.toInt := by
            have : r.toInt ≠ -1 := fun e => hne (Int32.toInt_inj.mp (e.trans zh_m1.symm))
            omega
          rw [zq_X5_sort_PR_84, zq_X5_sort_PR_89, if_pos (Or.inr rfl), zh_w1, if_neg (by decide), zq_X5_sort_PR_99, if_neg (zh_in (by omega) (by omega)), zh_cl ek]
          exact k114 _ _ (zh_soP_1 (zh_soP_0 hI (by rw [zh_p1]; omega) (by rw [zh_p1]; omega)) (by omega) hr0 q3)
theorem zh_so10 (hm : 0 ≤ (I0 3 1).toInt ∧ (I0 3 1).toInt ≤ 60) (h2 : (I0 3 1).toInt % 2 = 0) (hJ : ∀ j : Nat, (j : Int) < (I0 3 1).toInt → 0 ≤ (J 4 j).toInt ∧ (J 4 j).toInt ≤ 9) : ∀ (f i : Nat) (I : Nat → Nat → Int32), zh_soP I0 I → i % 2 = 0 → i ≤ 60 → 60 - i < f → ∃ I', zv_X5_sort_PR_10 I J (Int32.ofNat i) = some (none, (I', J)) ∧ zh_soP I0 I' := by
  intro f
  induction f with
  | zero => intro i I _ _ _ h; omega
  | succ f ih =>
    intro i I hI hi2 hi60 hf
    have e1 : Int32.ofNat i + 1 = Int32.ofNat (i + 1) := zh_ofadd zh_p1 (by omega)
    have e2 : Int32.ofNat i + 2 = Int32.ofNat (i + 2) := zh_ofadd zh_c2 (by omega)
    have eo : (Int32.ofNat i).toInt = i := zh_of (by omega)
    have eo1 : (Int32.ofNat (i + 1)).toInt = (i + 1 : Nat) := zh_of (by omega)
    have em : I 3 1 = I0 3 1 := hI.1 3 1 (by omega)
    rw [zq_X5_sort_PR_10, e1, em]
    split
    · rw [zq_X5_sort_PR_48]
      exact zh_so57 100 0 _ _ _ (zh_soP_0 hI (by rw [zh_p1]; omega) (by rw [zh_p1]; omega)) (by omega) (by omega)
    · next hle =>
      rw [zh_le, eo1] at hle
      have c1 := hJ i (by omega)
      have d1 := zh_l2i c1.1 c1.2 (by omega) (by omega)
      have hin := zh_in (x := Int64.toInt32 (J 4 i)) (n := 10) (by omega) (by omega)
      have hcl : (Int64.toInt32 (J 4 i)).toNatClampNeg ≤ 9 := by have := zs_clamp (i := Int64.toInt32 (J 4 i)) (by omega); omega
      rw [zc_X5_sort_PR_20 _ _ _ (zh_intAtV (zm_sub2 [(3, 2)] (I, J)) (by omega) (by omega))]
      simp only [zm_mrg_id]
      rw [zh_cl eo, zh_sub2, zq_X5_sort_PR_29, if_neg hin, zc_X5_sort_PR_31 _ _ _ _ _ (by rw [e1]; exact zh_intAtV (zm_sub2 [(3, 2)] (I, J)) (by omega) (by omega))]
      simp only [zm_mrg_id]
      rw [zq_X5_sort_PR_39, if_neg hin, e2]
      exact ih (i + 2) _ (zh_soP_2 hI hcl _) (by omega) (by omega) (by omega)
end ZHO
theorem zh_sortV (M : zm_I) (hP : zh_soP M.1 M.1) (hm : 0 ≤ (M.1 3 1).toInt ∧ (M.1 3 1).toInt ≤ 60) (h2 : (M.1 3 1).toInt % 2 = 0) (hJ : ∀ j : Nat, (j : Int) < (M.1 3 1).toInt → 0 ≤ (M.2 4 j).toInt ∧ (M.2 4 j).toInt ≤ 9) : ∃ I', zF_X5_sort zW_PR [.ref 0, .ref 3] M = some (none, (I', M.2)) ∧ zh_soP M.1 I' := by
  obtain ⟨F, f1, f2⟩ := zh_fillV (zm_sub2 [(2, 1)] M)
  have hmem : ∀ n i, (zm_mrg [(2, 1)] M (F, (zm_sub2 [(2, 1)] M).2)).2 n i = M.2 n i ∧ (¬ (n = 2 ∧ i ≤ 9) → (zm_mrg [(2, 1)] M (F, (zm_sub2 [(2, 1)] M).2)).1 n i = M.1 n i) := by
    intro n i
    have en := zm_fw_iv [(2, 1)] n
    rcases zh_mrg1 [(2, 1)] M (F, (zm_sub2 [(2, 1)] M).2) n i with ⟨c1, c2, c3⟩ | ⟨-, c2, c3⟩
    · have h0 := zh_iv_lt _ _ c1
      have h0 : zm_iv [(2, 1)] n < 1 := h0
      have h00 : zm_iv [(2, 1)] n = 0 := by omega
      rw [c2, c3]
      dsimp only
      refine ⟨?_, fun hn => ?_⟩
      · show M.2 (zm_fw [(2, 1)] (zm_iv [(2, 1)] n)) i = _
        rw [en]
      · rw [h00] at en ⊢
        have en : 2 + 0 = n := en
        rw [f2 0 i (fun e => hn ⟨by omega, e.2⟩)]
        show M.1 (zm_fw [(2, 1)] 0) i = _
        show M.1 (2 + 0) i = _
        rw [en]
    · exact ⟨c3, fun _ => c2⟩
  have hJ2 : (zm_mrg [(2, 1)] M (F, (zm_sub2 [(2, 1)] M).2)).2 = M.2 := by
    funext n i
    exact (hmem n i).1
  have hP2 : zh_soP M.1 (zm_mrg [(2, 1)] M (F, (zm_sub2 [(2, 1)] M).2)).1 := by
    refine ⟨fun n i hn => (hmem n i).2 (fun e => hn (Or.inr (Or.inr e))), ?_, fun i => ?_⟩
    · rw [(hmem 0 0).2 (by omega)]; exact hP.2.1
    · rw [(hmem 1 i).2 (by omega)]; exact hP.2.2 i
  obtain ⟨I', q1, q2⟩ := zh_so10 (I0 := M.1) (J := M.2) hm h2 hJ 100 0 _ hP2 (by omega) (by omega) (by omega)
  refine ⟨I', (zf_X5_sort_PR M.1 M.2).trans ((zc_X5_sort_PR_0 M.1 M.2 f1).trans ((zq_X5_sort_PR_8 _ _).trans ?_)), q2⟩
  rw [hJ2]
  exact q1
section ZHP
variable {I : Nat → Nat → Int32} {J : Nat → Nat → Int64} {h : Nat} {l1 : Int32}
/-- the pile behind -/
def zh_piP (I : Nat → Nat → Int32) (J : Nat → Nat → Int64) (N : zm_I) : Prop := (∀ n i, ¬ ((n = 63 ∧ i = 0) ∨ (n = 64 ∧ i ≤ 9) ∨ (n = 65 ∧ i ≤ 9)) → N.1 n i = I n i ∧ N.2 n i = J n i) ∧ (∀ n i, N.2 n i = J n i) ∧ (0 ≤ (N.1 63 0).toInt ∧ (N.1 63 0).toInt ≤ 1) ∧ ∀ i, 0 ≤ (N.1 64 i).toInt ∧ (N.1 64 i).toInt ≤ 9
theorem zh_pi44 (hh : zm_isRow h) (h0 : 0 ≤ (I 63 0).toInt ∧ (I 63 0).toInt ≤ 1) (ho : ∀ i, 0 ≤ (I 64 i).toInt ∧ (I 64 i).toInt ≤ 9) (hm : 0 ≤ (I h 1).toInt ∧ (I h 1).toInt ≤ 60) (h2 : (I h 1).toInt % 2 = 0) : ∀ (f i : Nat), i ≤ 60 → 60 - i < f → (∀ j : Nat, j < i → 0 ≤ (J (h + 1) j).toInt ∧ (J (h + 1) j).toInt ≤ 9) → ∃ x N, zv_X9_pileUp_X_44 I J h l1 (Int32.ofNat i) = some (some (.int x), N) ∧ (x = -2 ∨ x = 0) ∧ zh_piP I J N := by
  intro f
  induction f with
  | zero => intro i _ h; omega
  | succ f ih =>
    intro i hi60 hf hacc
    have eo : (Int32.ofNat i).toInt = i := zh_of (by omega)
    have hid : zh_piP I J (I, J) := ⟨fun _ _ _ => ⟨rfl, rfl⟩, fun _ _ => rfl, h0, ho⟩
    rw [zq_X9_pileUp_X_44 _ _ _ _ _ hh]
    split
    · next hle =>
      rw [zh_le, eo] at hle
      have hP : zh_soP (zm_sub2 [(63, 3), (h, 2)] (I, J)).1 (zm_sub2 [(63, 3), (h, 2)] (I, J)).1 := ⟨fun _ _ _ => rfl, h0, ho⟩
      obtain ⟨I', q1, q2⟩ := zh_sortV (zm_sub2 [(63, 3), (h, 2)] (I, J)) hP hm h2 (fun j hj => hacc j (by have hj : (j : Int) < (I h 1).toInt := hj; omega))
      rw [zc_X9_pileUp_X_72 _ _ _ _ _ hh q1, zq_X9_pileUp_X_80 _ _ _ _ _ hh]
      have hdis : zm_dis [(63, 3), (h, 2)] = true := by rcases hh with rfl | rfl | rfl | rfl <;> rfl
      refine ⟨0, _, rfl, Or.inr rfl, ?_, ?_, ?_, ?_⟩
      · intro n i9 hn
        have en := zm_fw_iv [(63, 3), (h, 2)] n
        rcases zh_mrg1 [(63, 3), (h, 2)] (I, J) (I', (zm_sub2 [(63, 3), (h, 2)] (I, J)).2) n i9 with ⟨c1, c2, c3⟩ | ⟨-, c2, c3⟩
        · rw [c2, c3]
          dsimp only
          rw [q2.1 (zm_iv [(63, 3), (h, 2)] n) i9 (fun e => hn ?_)]
          · show I (zm_fw [(63, 3), (h, 2)] (zm_iv [(63, 3), (h, 2)] n)) i9 = _ ∧ J (zm_fw [(63, 3), (h, 2)] (zm_iv [(63, 3), (h, 2)] n)) i9 = _
            rw [en]
            exact ⟨rfl, rfl⟩
          · rcases e with ⟨e, e9⟩ | ⟨e, e9⟩ | ⟨e, e9⟩
            · rw [e] at en
              have en : 63 + 0 = n := en
              exact Or.inl ⟨by omega, e9⟩
            · rw [e] at en
              have en : 63 + 1 = n := en
              exact Or.inr (Or.inl ⟨by omega, e9⟩)
            · rw [e] at en
              have en : 63 + 2 = n := en
              exact Or.inr (Or.inr ⟨by omega, e9⟩)
        · exact ⟨c2, c3⟩
      · intro n i9
        have en := zm_fw_iv [(63, 3), (h, 2)] n
        rcases zh_mrg1 [(63, 3), (h, 2)] (I, J) (I', (zm_sub2 [(63, 3), (h, 2)] (I, J)).2) n i9 with ⟨c1, c2, c3⟩ | ⟨-, c2, c3⟩
        · rw [c3]
          show J (zm_fw [(63, 3), (h, 2)] (zm_iv [(63, 3), (h, 2)] n)) i9 = _
          rw [en]
        · exact c3
      · have := zt_mrg_fw (bs := [(63, 3), (h, 2)]) hdis (k := 0) (show 0 < 3 + (2 + 0) by omega) (I, J) (I', (zm_sub2 [(63, 3), (h, 2)] (I, J)).2) 0
        have this : (zm_mrg [(63, 3), (h, 2)] (I, J) (I', (zm_sub2 [(63, 3), (h, 2)] (I, J)).2)).1 63 0 = I' 0 0 := this
        dsimp only
        rw [this]
        exact q2.2.1
      · intro i9
        have := zt_mrg_fw (bs := [(63, 3), (h, 2)]) hdis (k := 1) (show 1 < 3 + (2 + 0) by omega) (I, J) (I', (zm_sub2 [(63, 3), (h, 2)] (I, J)).2) i9
        have this : (zm_mrg [(63, 3), (h, 2)] (I, J) (I', (zm_sub2 [(63, 3), (h, 2)] (I, J)).2)).1 64 i9 = I' 1 i9 := this
        dsimp only
        rw [this]
        exact q2.2.2 i9
    · next hle =>
      rw [zh_le, eo] at hle
      rw [zc_X9_pileUp_X_52 _ _ _ _ _ hh (zh_withinV (zm_sub2 [(h, 2)] (I, J)) (by omega) (by omega) _ _)]
      simp only [zm_mrg_id]
      rw [zq_X9_pileUp_X_60 _ _ _ _ _ _ hh, zh_cl eo, zh_sub2]
      split
      · exact ⟨-2, _, zq_X9_pileUp_X_63 I J h l1 _ hh, Or.inl rfl, hid⟩
      · next hb =>
        have c := zh_inr_ne hb
        have c9 : (9 : Int32).toInt = 9 := by decide
        rw [Int32.toInt_toInt64, Int32.toInt_toInt64, c9, zh_z0] at c
        rw [zq_X9_pileUp_X_66 _ _ _ _ _ hh, zh_ofadd (k := 1) zh_p1 (by omega)]
        refine ih (i + 1) (by omega) (by omega) (fun j hj => ?_)
        by_cases hji : j < i
        · exact hacc j hji
        · have : j = i := by omega
          subst this
          exact c
theorem zh_pileV (h0 : 0 ≤ (I 63 0).toInt ∧ (I 63 0).toInt ≤ 1) (ho : ∀ i, 0 ≤ (I 64 i).toInt ∧ (I 64 i).toInt ≤ 9) (hm : ∀ h, zm_isRow h → 0 ≤ (I h 1).toInt ∧ (I h 1).toInt ≤ 60) (l1 : Int32) : ∃ (x : Int32) (N : zm_I), zF_X9_pileUp zW_X [.ref 0, .int l1] (I, J) = some (some (.int x), N) ∧ ((-6 ≤ x.toInt ∧ x.toInt ≤ -1) ∨ x = 0) ∧ zh_piP I J N := by
  have e2 : (-2 : Int32).toInt = -2 := by decide
  have e6 : (-6 : Int32).toInt = -6 := by decide
  have hid : zh_piP I J (I, J) := ⟨fun _ _ _ => ⟨rfl, rfl⟩, fun _ _ => rfl, h0, ho⟩
  rcases zh_rowAt (I := I) (J := J) l1 with ⟨h, hh, hr⟩ | hr
  · obtain ⟨r, q⟩ := zh_hasBenchV I J
    rw [zf_X9_pileUp_X, zc_X9_pileUp_X_0 _ _ _ hr, zq_X9_pileUp_X_5 _ _ _ _ hh, zc_X9_pileUp_X_10 _ _ _ _ hh q, zq_X9_pileUp_X_14 _ _ _ _ _ hh]
    split
    · exact ⟨_, _, zq_X9_pileUp_X_17 I J h l1 hh, Or.inl (by omega), hid⟩
    · obtain ⟨r2, q2⟩ := zh_isMadeV (zm_sub2 [(h, 2)] (I, J))
      rw [zc_X9_pileUp_X_20 _ _ _ _ hh q2]
      simp only [zm_mrg_id]
      rw [zq_X9_pileUp_X_24 _ _ _ _ _ hh]
      split
      · exact ⟨_, _, zq_X9_pileUp_X_27 I J h l1 hh, Or.inl (by omega), hid⟩
      · rw [zq_X9_pileUp_X_30 _ _ _ _ hh]
        split
        · next h3 =>
          rw [zq_X9_pileUp_X_42 _ _ _ _ hh]
          obtain ⟨x, N, q3, q4, q5⟩ := zh_pi44 (J := J) (l1 := l1) hh h0 ho (hm h hh) (zh_two (hm h hh).1 h3) 100 0 (by omega) (by omega) (fun j hj => by omega)
          refine ⟨x, N, q3, ?_, q5⟩
          rcases q4 with rfl | rfl
          · exact Or.inl (by omega)
          · exact Or.inr rfl
        · exact ⟨_, _, zq_X9_pileUp_X_39 I J h l1 hh, Or.inl (by omega), hid⟩
  · rw [zf_X9_pileUp_Xn, zc_X9_pileUp_Xn_0 _ _ _ hr, zq_X9_pileUp_Xn_5]
    exact ⟨_, _, zq_X9_pileUp_Xn_17 I J l1, Or.inl (by omega), hid⟩
end ZHP
theorem zh_pileUp (v : Nat) (hd : Nat × Option Nat × Bool × List (Nat × Nat)) : zt_Con zo_Om (zo_Rel v) (hd, (1, ([zjr 0, zt_top], [], []), [(63, 0, 0), (64, 0, 9), (65, 0, 9)], [(some (zj (.negSucc 5) (.negSucc 0)), [], [], []), (some (zj (.ofNat 0) (.ofNat 0)), [], [], [])])) zF_X9_pileUp :=
  zh_con (w0 := zW_X) (G := zo_g1) rfl (by decide +kernel) (fun as M hs _ _ hG => by
    obtain ⟨vs, rfl, h1⟩ := zh_ref hs
    obtain ⟨l1, vs, rfl, h2⟩ := zh_top h1
    obtain rfl := zh_nil h2
    obtain ⟨x, N, q1, q2, q3⟩ := zh_pileV (I := M.1) (J := M.2) (hG 63 _ rfl 0 (.ofNat 0, .ofNat 1) rfl) (fun i => zh_ga hG (n := 64) (b := (.ofNat 0, .ofNat 9)) rfl i) (zh_rowG hG) l1
    refine ⟨_, N, q1, zh_gsx (I' := N.1) (J' := N.2) hG (fun n i => ?_), fun n i hh => q3.1 n i (fun c => ?_), ?_⟩
    · by_cases c : (n = 63 ∧ i = 0) ∨ (n = 64 ∧ i ≤ 9) ∨ (n = 65 ∧ i ≤ 9)
      · right
        intro g b hg hb
        rcases c with ⟨rfl, rfl⟩ | ⟨rfl, c⟩ | ⟨rfl, c⟩
        · rw [show zo_g1[63]? = some (zo_g1.getD 63 []) from rfl] at hg
          cases hg
          have hb : some ((Int.ofNat 0, Int.ofNat 1) : Int × Int) = some b := hb
          cases hb
          exact q3.2.2.1
        · rw [show zo_g1[64]? = some [(Int.ofNat 0, Int.ofNat 9)] from rfl] at hg
          cases hg
          simp [Nat.mod_one] at hb
          subst hb
          exact q3.2.2.2 i
        · rw [show zo_g1[65]? = some [(Int.negSucc 2147483647, Int.ofNat 2147483647)] from rfl] at hg
          cases hg
          simp [Nat.mod_one] at hb
          subst hb
          exact zt_rgI _
      · exact Or.inl (q3.1 n i c).1
    · have : zt_hit [(63, 0, 0), (64, 0, 9), (65, 0, 9)] n i = true := by
        rcases c with ⟨rfl, rfl⟩ | ⟨rfl, c⟩ | ⟨rfl, c⟩
        · rfl
        · simp [zt_hit]; omega
        · simp [zt_hit]; omega
      rw [this] at hh
      cases hh
    · rcases q2 with q2 | rfl
      · exact ⟨_, List.mem_cons_self, zh_res q2.1 q2.2⟩
      · exact ⟨_, List.mem_of_getElem? (i := 1) rfl, zh_res (by decide) (by decide)⟩)
end
section
/-! CONTRACTS BY HAND: copyRow -/
noncomputable def zh_crV (n m pc : Nat) (a b k : Int32) (I : Nat → Nat → Int32) (J : Nat → Nat → Int64) : zm_R := zm_V zT_X10_copyRow zW_M (pc, [some (.ref n), some (.int (Int32.ofNat m)), some (.int a), some (.int b), some (.int k)], [], (I, J))
def zh_crEq (n m len : Nat) : Prop := ∀ (I : Nat → Nat → Int32) (J : Nat → Nat → Int64) (a b : Int32), zF_X10_copyRow zW_M [.ref n, .int (Int32.ofNat m), .int a, .int b] (I, J) = zh_crV n m 3 a b 0 I J ∧ ∀ k : Int32, (zh_crV n m 3 a b k I J = if Int32.ofNat m ≤ k then zh_crV n m 31 a b k I J else zh_crV n m 9 a b k I J) ∧ (zh_crV n m 9 a b k I J = if (Int32.ofNat m * a + k : Int32) < 0 ∨ len ≤ Int32.toNatClampNeg (Int32.ofNat m * a + k) then none else if (Int32.ofNat m * b + k : Int32) < 0 ∨ len ≤ Int32.toNatClampNeg (Int32.ofNat m * b + k) then none else zh_crV n m 3 a b (k + 1) (zm_w I n (Int32.toNatClampNeg (Int32.ofNat m * b + k)) (I n (Int32.toNatClampNeg (Int32.ofNat m * a + k)))) J) ∧ zh_crV n m 31 a b k I J = some (none, (I, J))
set_option maxRecDepth 20000 in
theorem zh_cr6 : zh_crEq 6 1 5 := fun _ _ _ _ => ⟨(zm_V_eq _ _ _).trans rfl, fun _ => ⟨(zm_V_eq _ _ _).trans rfl, (zm_V_eq _ _ _).trans rfl, (zm_V_eq _ _ _).trans rfl⟩⟩
set_option maxRecDepth 20000 in
theorem zh_cr7 : zh_crEq 7 7 35 := fun _ _ _ _ => ⟨(zm_V_eq _ _ _).trans rfl, fun _ => ⟨(zm_V_eq _ _ _).trans rfl, (zm_V_eq _ _ _).trans rfl, (zm_V_eq _ _ _).trans rfl⟩⟩
set_option maxRecDepth 20000 in
theorem zh_cr8 : zh_crEq 8 6 30 := fun _ _ _ _ => ⟨(zm_V_eq _ _ _).trans rfl, fun _ => ⟨(zm_V_eq _ _ _).trans rfl, (zm_V_eq _ _ _).trans rfl, (zm_V_eq _ _ _).trans rfl⟩⟩
set_option maxRecDepth 20000 in
theorem zh_cr9 : zh_crEq 9 25 125 := fun _ _ _ _ => ⟨(zm_V_eq _ _ _).trans rfl, fun _ => ⟨(zm_V_eq _ _ _).trans rfl, (zm_V_eq _ _ _).trans rfl, (zm_V_eq _ _ _).trans rfl⟩⟩
set_option maxRecDepth 20000 in
theorem zh_cr10 : zh_crEq 10 120 600 := fun _ _ _ _ => ⟨(zm_V_eq _ _ _).trans rfl, fun _ => ⟨(zm_V_eq _ _ _).trans rfl, (zm_V_eq _ _ _).trans rfl, (zm_V_eq _ _ _).trans rfl⟩⟩
theorem zh_crix {m a k len : Nat} {A : Int32} (hA : A.toInt = a) (h : m * a + k < len) (hl : len ≤ 1000) (hm : m < 1000) : ¬ ((Int32.ofNat m * A + Int32.ofNat k : Int32) < 0 ∨ len ≤ Int32.toNatClampNeg (Int32.ofNat m * A + Int32.ofNat k)) ∧ Int32.toNatClampNeg (Int32.ofNat m * A + Int32.ofNat k) = m * a + k := by
  have em : (Int32.ofNat m).toInt = m := zh_of (by omega)
  have ek : (Int32.ofNat k).toInt = k := zh_of (by omega)
  have e0 : (m : Int) * (a : Int) = ((m * a : Nat) : Int) := by rw [Int.natCast_mul]
  have e1 : (Int32.ofNat m * A).toInt = ((m * a : Nat) : Int) := by
    rw [zh_mul (by rw [em, hA, e0]; omega) (by rw [em, hA, e0]; omega), em, hA, e0]
  have e2 : (Int32.ofNat m * A + Int32.ofNat k).toInt = ((m * a + k : Nat) : Int) := by
    rw [zh_add (by rw [e1, ek]; omega) (by rw [e1, ek]; omega), e1, ek]
    omega
  refine ⟨zh_in (by rw [e2]; omega) (by rw [e2]; omega), zh_cl e2⟩
theorem zh_crL {n m len a b : Nat} (hE : zh_crEq n m len) (hab : a ≠ b) (ha : m * a + m ≤ len) (hb : m * b + m ≤ len) (hl : len ≤ 1000) (hm : 0 < m) {A B : Int32} (hA : A.toInt = a) (hB : B.toInt = b) (I : Nat → Nat → Int32) (J : Nat → Nat → Int64) : ∀ (d k : Nat) (I' : Nat → Nat → Int32), k + d = m → (∀ p q, ¬ (p = n ∧ m * b ≤ q ∧ q < m * b + m) → I' p q = I p q) → (∀ q, q < k → I' n (m * b + q) = I n (m * a + q)) → ∃ N, zh_crV n m 3 A B (Int32.ofNat k) I' J = some (none, (N, J)) ∧ (∀ p q, ¬ (p = n ∧ m * b ≤ q ∧ q < m * b + m) → N p q = I p q) ∧ ∀ q, q < m → N n (m * b + q) = I n (m * a + q) := by
  have hdis : m * a + m ≤ m * b ∨ m * b + m ≤ m * a := by
    rcases Nat.lt_or_gt_of_ne hab with h | h
    · have := Nat.mul_le_mul_left m (show a + 1 ≤ b from h)
      rw [Nat.mul_add, Nat.mul_one] at this
      exact Or.inl this
    · have := Nat.mul_le_mul_left m (show b + 1 ≤ a from h)
      rw [Nat.mul_add, Nat.mul_one] at this
      exact Or.inr this
  intro d
  induction d with
  | zero =>
    intro k I' hk h1 h2
    have e := (hE I' J A B).2 (Int32.ofNat k)
    rw [e.1, if_pos (by rw [zh_le, zh_of (by omega), zh_of (by omega)]; omega), e.2.2]
    exact ⟨I', rfl, h1, fun q hq => h2 q (by omega)⟩
  | succ d ih =>
    intro k I' hk h1 h2
    have e := (hE I' J A B).2 (Int32.ofNat k)
    have xa := zh_crix (k := k) hA (show m * a + k < len by omega) hl (by omega)
    have xb := zh_crix (k := k) hB (show m * b + k < len by omega) hl (by omega)
    rw [e.1, if_neg (by rw [zh_le, zh_of (by omega), zh_of (by omega)]; omega), e.2.1, if_neg xa.1, if_neg xb.1, xa.2, xb.2, zh_ofadd (k := 1) zh_p1 (by omega)]
    clear xa xb e
    refine ih (k + 1) _ (by omega) (fun p q hpq => ?_) (fun q hq => ?_)
    · rw [zh_w2 _ _ (fun c => hpq ⟨c.1, by omega, by omega⟩)]
      exact h1 p q hpq
    · by_cases c : q = k
      · subst c
        rw [zh_w1]
        exact h1 n _ (by omega)
      · rw [zh_w2 _ _ (by omega)]
        exact h2 q (by omega)
theorem zh_cst {ls : List (Option Value)} {M : zm_I} {s : Nat → Int} {k : Nat} {r : List zt_A} {as : List Value} (h : zt_sts ls M s (zj (.ofNat k) (.ofNat k) :: r) as) : ∃ (x : Int32) (vs : List Value), as = .int x :: vs ∧ x.toInt = k ∧ zt_sts ls M s r vs := by
  obtain ⟨x, vs, h1, h2, h3, h4⟩ := zh_int h
  have h2 : (k : Int) ≤ x.toInt := h2
  have h3 : x.toInt ≤ (k : Int) := h3
  exact ⟨x, vs, h1, by omega, h4⟩
theorem zh_cst0 {ls : List (Option Value)} {M : zm_I} {s : Nat → Int} {k : Nat} {r : List zt_A} {as : List Value} (h : zt_sts ls M s ((0, .ofNat k, .ofNat k, 0, []) :: r) as) : ∃ (x : Int32) (vs : List Value), as = .int x :: vs ∧ x.toInt = k ∧ zt_sts ls M s r vs := by
  obtain ⟨v, vs, rfl, h1, h2⟩ := zh_cons h
  obtain ⟨x, rfl, h3, -⟩ := zt_v_int h1 rfl
  have h4 : (k : Int) ≤ x.toInt := h3.1
  have h5 : x.toInt ≤ (k : Int) := h3.2.1
  exact ⟨x, vs, rfl, by omega, h2⟩
theorem zh_copyRow (n m a b len : Nat) (hE : zh_crEq n m len) (hab : a ≠ b) (ha : m * a + m ≤ len) (hb : m * b + m ≤ len) (hl : len ≤ 1000) (hm : 0 < m) {g : List (Int × Int)} (hg : zo_g22[n]? = some g) (hgl : m % g.length = 0) {pre oc : List zt_C} (hoc : oc.all (fun c => Nat.beq c.1.1 1 && Nat.beq c.1.2.1 n && Nat.ble (m * b) c.1.2.2 && Nat.ble (c.1.2.2 + 1) (m * b + m) && zt_subC pre ((1, n, c.1.2.2 - m * b + m * a), c.2)) = true) (v : Nat) (hd : Nat × Option Nat × Bool × List (Nat × Nat)) : zt_Con zo_Om (zo_Rel v) (hd, (22, ([zjr n, (0, .ofNat m, .ofNat m, 0, []), zj (.ofNat a) (.ofNat a), zj (.ofNat b) (.ofNat b)], pre, []), [(n, m * b, m * b + m - 1)], [(none, [], oc, [])])) zF_X10_copyRow :=
  zh_con (w0 := zW_M) (G := zo_g22) rfl (by decide +kernel) (fun as M hs hc _ hG => by
    obtain ⟨vs, rfl, h1⟩ := zh_ref hs
    obtain ⟨x, vs, rfl, hx, h2⟩ := zh_cst0 h1
    obtain ⟨A, vs, rfl, hA, h3⟩ := zh_cst h2
    obtain ⟨B, vs, rfl, hB, h4⟩ := zh_cst h3
    obtain rfl := zh_nil h4
    have hx' : x = Int32.ofNat m := Int32.toInt_inj.mp (by rw [hx, zh_of (by omega)])
    subst hx'
    obtain ⟨N, q1, q2, q3⟩ := zh_crL hE hab ha hb hl hm hA hB M.1 M.2 m 0 M.1 (by omega) (fun _ _ _ => rfl) (fun q hq => by omega)
    refine ⟨none, (N, M.2), ((hE M.1 M.2 A B).1).trans q1, zh_gsx hG (fun p q => ?_), fun p q hh => ⟨q2 p q (fun c => ?_), rfl⟩, _, List.mem_cons_self, ⟨rfl, zh_no, fun c hm9 => ?_, zh_no⟩⟩
    · by_cases c : p = n ∧ m * b ≤ q ∧ q < m * b + m
      · right
        intro g' b' hg' hb'
        obtain ⟨rfl, c1, c2⟩ := c
        rw [hg] at hg'
        cases hg'
        have eq : N p q = M.1 p (m * a + (q - m * b)) := by
          have := q3 (q - m * b) (by omega)
          rw [show m * b + (q - m * b) = q by omega] at this
          exact this
        rw [eq]
        refine hG p g hg _ b' ?_
        obtain ⟨t, ht⟩ := Nat.dvd_of_mod_eq_zero hgl
        have e1 : (m * a + (q - m * b)) % g.length = (q - m * b) % g.length := by rw [ht, Nat.mul_assoc, Nat.add_comm, Nat.add_mul_mod_self_left]
        have e2 : q % g.length = (q - m * b) % g.length := by
          have e3 : q = (q - m * b) + g.length * (t * b) := by rw [← Nat.mul_assoc, ← ht]; omega
          rw [e3, Nat.add_mul_mod_self_left, ← e3]
        rw [e1, ← e2]
        exact hb'
      · exact Or.inl (q2 p q c)
    · have : zt_hit [(n, m * b, m * b + m - 1)] p q = true := by
        rw [c.1]
        simp [zt_hit]
        omega
      rw [this] at hh
      cases hh
    · have h9 := List.all_eq_true.mp hoc c hm9
      simp only [Bool.and_eq_true, Nat.ble_eq] at h9
      obtain ⟨⟨⟨⟨d1, d2⟩, d3⟩, d4⟩, d5⟩ := h9
      have f1 := Nat.eq_of_beq_eq_true d1
      have f2 := Nat.eq_of_beq_eq_true d2
      clear d1 d2
      obtain ⟨⟨t, p, q⟩, lo, hi⟩ := c
      dsimp only at f1 f2 d3 d4 d5
      subst f1
      subst f2
      have h10 : lo ≤ (M.1 p (q - m * b + m * a)).toInt ∧ (M.1 p (q - m * b + m * a)).toInt ≤ hi := zt_subC_ok d5 hc
      have eq : N p q = M.1 p (m * a + (q - m * b)) := by
        have := q3 (q - m * b) (by omega)
        rw [show m * b + (q - m * b) = q by omega] at this
        exact this
      show lo ≤ (N p q).toInt ∧ (N p q).toInt ≤ hi
      rw [eq, Nat.add_comm]
      exact h10)
end
section
/-! WHAT THE METHODS KEEP, printed by program (wip/abs/ztprint.py) -/
-- X8_hasRoom T
noncomputable def zi_0_K : Nat × (List zt_A × List zt_C × List Nat) × zt_W × List zt_O := (0, ([zjr 0, zj (.ofNat 20) (.ofNat 20)], [], []), [], [(some ((0, .ofNat 0, .ofNat 0, 0, [])), [], [], []), (some ((0, .ofNat 1, .ofNat 1, 0, [])), [], [], [])])
noncomputable def zi_0_A : zt_An := [(0, [(([some (zjr 0), some (zj (.ofNat 20) (.ofNat 20))], [], [], []), .ofNat 1, [])]), (17, [(([some (zjr 0), some (zj (.ofNat 20) (.ofNat 20))], [(0, .ofNat 0, .ofNat 0, 0, [])], [((1, 0, 1), .ofNat 781, .ofNat 800)], []), .ofNat 0, []), (([some (zjr 0), some (zj (.ofNat 20) (.ofNat 20))], [(0, .ofNat 1, .ofNat 1, 0, [])], [((1, 0, 1), .ofNat 0, .ofNat 780)], []), .ofNat 0, [])])]
noncomputable def zi_0_Ks : List (Nat × List zt_K) := []
noncomputable def zi_0_H : zt_H := ((zo_w0, 0, zo_Sg), (zo_g0, zi_0_K.2.2.1, [0, 1], zo_U), [], ((some .boolean), zi_0_K.2.2.2, zi_0_K.2.1.1), zi_0_Ks)
theorem zi_0_c : zt_chk zi_0_H (zB_X8_hasRoom, [], [17]) 3 zi_0_A 2 (zo_hd, zi_0_K) = true := by decide +kernel
theorem zi_0 (v : Nat) (hd : Nat × Option Nat × Bool × List (Nat × Nat)) : zt_Con zo_Om (zo_Rel v) (hd, zi_0_K) zF_X8_hasRoom := zt_con (K := (zo_hd, zi_0_K)) (T := zT_X8_hasRoom) (w0 := zo_w0) (G := zo_g0) (zo_UR v) rfl zo_sg rfl rfl rfl (zt_ksok_of (Ks := zi_0_Ks) zt_k0) zi_0_c
-- X8_put T
noncomputable def zi_1_K : Nat × (List zt_A × List zt_C × List Nat) × zt_W × List zt_O := (0, ([zjr 0, zt_top], [], []), [(0, 1, 1), (1, 0, 799)], [(none, [], [], [])])
noncomputable def zi_1_A : zt_An := [(0, [(([some (zjr 0), some zt_top, none], [], [], []), .ofNat 34, [])]), (3, [(([some (zjr 0), some zt_top, some (zj (.negSucc 7) (.ofNat 24))], [], [], []), .ofNat 9, [(.ofNat 1, 2)])]), (49, [(([some (zjr 0), some zt_top, some (zj (.negSucc 7) (.ofNat 24))], [], [], []), .ofNat 0, [])])]
noncomputable def zi_1_Ks : List (Nat × List zt_K) := []
noncomputable def zi_1_H : zt_H := ((zo_w0, 0, zo_Sg), (zo_g0, zi_1_K.2.2.1, [0, 1], zo_U), [], (none, zi_1_K.2.2.2, zi_1_K.2.1.1), zi_1_Ks)
theorem zi_1_c : zt_chk zi_1_H (zB_X8_put, [], [3, 49]) 4 zi_1_A 3 (zo_hd, zi_1_K) = true := by decide +kernel
theorem zi_1 (v : Nat) (hd : Nat × Option Nat × Bool × List (Nat × Nat)) : zt_Con zo_Om (zo_Rel v) (hd, zi_1_K) zF_X8_put := zt_con (K := (zo_hd, zi_1_K)) (T := zT_X8_put) (w0 := zo_w0) (G := zo_g0) (zo_UR v) rfl zo_sg rfl rfl rfl (zt_ksok_of (Ks := zi_1_Ks) zt_k0) zi_1_c
-- X9_feed X
noncomputable def zi_2_K : Nat × (List zt_A × List zt_C × List Nat) × zt_W × List zt_O := (1, ([zjr 0, zt_top, zt_top, zt_top, zt_top, zt_top], [], []), [(51, 1, 1), (52, 0, 799)], [(some (zj (.negSucc 0) (.ofNat 800)), [], [], [])])
noncomputable def zi_2_A : zt_An := [(0, [(([some (zjr 0), some zt_top, some zt_top, some zt_top, some zt_top, some zt_top], [], [], []), .ofNat 0, [])])]
noncomputable def zi_2_Ks : List (Nat × List zt_K) := [(86, [((2, some 8, false, [(0, 2)]), zi_0_K)]), (90, [((2, some 8, false, [(0, 2)]), zi_1_K)])]
noncomputable def zi_2_H : zt_H := ((zo_w1, 1, zo_Sg), (zo_g1, zi_2_K.2.2.1, [0, 1, 2, 3, 4, 5], zo_U), [], ((some .int), zi_2_K.2.2.2, zi_2_K.2.1.1), zi_2_Ks)
theorem zi_2_c : zt_chk zi_2_H (zB_X9_feed, [], []) 9 zi_2_A 6 (zo_hd, zi_2_K) = true := by decide +kernel
theorem zi_2 (v : Nat) (hd : Nat × Option Nat × Bool × List (Nat × Nat)) : zt_Con zo_Om (zo_Rel v) (hd, zi_2_K) zF_X9_feed := zt_con (K := (zo_hd, zi_2_K)) (T := zT_X9_feed) (w0 := zo_w1) (G := zo_g1) (zo_UR v) rfl zo_sg rfl rfl rfl (zt_ksok_of (Ks := zi_2_Ks) (zt_k1 rfl (zt_k2 rfl (zi_0 v _) zt_k3) (zt_k1 rfl (zt_k2 rfl (zi_1 v _) zt_k3) zt_k0))) zi_2_c
-- X9_end X
noncomputable def zi_3_K : Nat × (List zt_A × List zt_C × List Nat) × zt_W × List zt_O := (1, ([zjr 0, zt_top], [], []), [(51, 1, 1)], [(some (zj (.negSucc 0) (.ofNat 800)), [], [], [])])
noncomputable def zi_3_A : zt_An := [(0, [(([some (zjr 0), some zt_top], [], [], []), .ofNat 1, [])]), (15, [(([some (zjr 0), some zt_top], [], [], []), .ofNat 0, [])])]
noncomputable def zi_3_Ks : List (Nat × List zt_K) := []
noncomputable def zi_3_H : zt_H := ((zo_w1, 1, zo_Sg), (zo_g1, zi_3_K.2.2.1, [0, 1], zo_U), [], ((some .int), zi_3_K.2.2.2, zi_3_K.2.1.1), zi_3_Ks)
theorem zi_3_c : zt_chk zi_3_H (zB_X9_end, [], [15]) 4 zi_3_A 2 (zo_hd, zi_3_K) = true := by decide +kernel
theorem zi_3 (v : Nat) (hd : Nat × Option Nat × Bool × List (Nat × Nat)) : zt_Con zo_Om (zo_Rel v) (hd, zi_3_K) zF_X9_end := zt_con (K := (zo_hd, zi_3_K)) (T := zT_X9_end) (w0 := zo_w1) (G := zo_g1) (zo_UR v) rfl zo_sg rfl rfl rfl (zt_ksok_of (Ks := zi_3_Ks) zt_k0) zi_3_c
-- X0_clear B
noncomputable def zi_4_K : Nat × (List zt_A × List zt_C × List Nat) × zt_W × List zt_O := (2, ([zjr 0], [], []), [(0, 0, 7)], [(none, [], [], [])])
noncomputable def zi_4_A : zt_An := [(0, [(([some (zjr 0)], [], [], []), .ofNat 0, [])])]
noncomputable def zi_4_Ks : List (Nat × List zt_K) := []
noncomputable def zi_4_H : zt_H := ((zo_w2, 2, zo_Sg), (zo_g2, zi_4_K.2.2.1, [0], zo_U), [], (none, zi_4_K.2.2.2, zi_4_K.2.1.1), zi_4_Ks)
theorem zi_4_c : zt_chk zi_4_H (zB_X0_clear, [], []) 2 zi_4_A 1 (zo_hd, zi_4_K) = true := by decide +kernel
theorem zi_4 (v : Nat) (hd : Nat × Option Nat × Bool × List (Nat × Nat)) : zt_Con zo_Om (zo_Rel v) (hd, zi_4_K) zF_X0_clear := zt_con (K := (zo_hd, zi_4_K)) (T := zT_X0_clear) (w0 := zo_w2) (G := zo_g2) (zo_UR v) rfl zo_sg rfl rfl rfl (zt_ksok_of (Ks := zi_4_Ks) zt_k0) zi_4_c
-- X8_isBlank T/B
noncomputable def zi_5_K : Nat × (List zt_A × List zt_C × List Nat) × zt_W × List zt_O := (3, ([zj (.ofNat 0) (.ofNat 255)], [], []), [], [(some ((0, .ofNat 0, .ofNat 0, 0, [])), [], [], []), (some ((0, .ofNat 1, .ofNat 1, 0, [])), [(0, .ofNat 10, .ofNat 32)], [], [])])
noncomputable def zi_5_A : zt_An := [(0, [(([some (zj (.ofNat 0) (.ofNat 255))], [], [], []), .ofNat 2, [])]), (12, [(([some (zj (.ofNat 10) (.ofNat 32))], [], [], []), .ofNat 1, [])]), (17, [(([some (zj (.ofNat 0) (.ofNat 255))], [(0, .ofNat 0, .ofNat 0, 0, [])], [], []), .ofNat 0, []), (([some (zj (.ofNat 10) (.ofNat 32))], [(0, .ofNat 1, .ofNat 1, 0, [])], [], []), .ofNat 0, [])])]
noncomputable def zi_5_Ks : List (Nat × List zt_K) := []
noncomputable def zi_5_H : zt_H := ((zo_w3, 3, zo_Sg), (zo_g3, zi_5_K.2.2.1, [0], zo_U), [], ((some .boolean), zi_5_K.2.2.2, zi_5_K.2.1.1), zi_5_Ks)
theorem zi_5_c : zt_chk zi_5_H (zB_X8_isBlank, [], [12, 17]) 4 zi_5_A 1 (zo_hd, zi_5_K) = true := by decide +kernel
theorem zi_5 (v : Nat) (hd : Nat × Option Nat × Bool × List (Nat × Nat)) : zt_Con zo_Om (zo_Rel v) (hd, zi_5_K) zF_X8_isBlank := zt_con (K := (zo_hd, zi_5_K)) (T := zT_X8_isBlank) (w0 := zo_w3) (G := zo_g3) (zo_UR v) rfl zo_sg rfl rfl rfl (zt_ksok_of (Ks := zi_5_Ks) zt_k0) zi_5_c
-- X8_kindOf T/B
noncomputable def zi_6_K : Nat × (List zt_A × List zt_C × List Nat) × zt_W × List zt_O := (3, ([zj (.ofNat 0) (.ofNat 255)], [], []), [], [(some ((0, .ofNat 1, .ofNat 1, 0, [])), [(0, .ofNat 97, .ofNat 122)], [], []), (some (zj (.ofNat 2) (.ofNat 4)), [], [], [])])
noncomputable def zi_6_A : zt_An := [(0, [(([some (zj (.ofNat 0) (.ofNat 255))], [], [], []), .ofNat 3, [])]), (14, [(([some (zj (.ofNat 0) (.ofNat 255))], [], [], []), .ofNat 2, [])]), (28, [(([some (zj (.ofNat 0) (.ofNat 255))], [], [], []), .ofNat 1, [])]), (39, [(([some (zj (.ofNat 0) (.ofNat 255))], [zj (.ofNat 3) (.ofNat 4)], [], []), .ofNat 0, [])])]
noncomputable def zi_6_Ks : List (Nat × List zt_K) := []
noncomputable def zi_6_H : zt_H := ((zo_w3, 3, zo_Sg), (zo_g3, zi_6_K.2.2.1, [0], zo_U), [], ((some .int), zi_6_K.2.2.2, zi_6_K.2.1.1), zi_6_Ks)
theorem zi_6_c : zt_chk zi_6_H (zB_X8_kindOf, [], [14, 28, 39]) 4 zi_6_A 1 (zo_hd, zi_6_K) = true := by decide +kernel
theorem zi_6 (v : Nat) (hd : Nat × Option Nat × Bool × List (Nat × Nat)) : zt_Con zo_Om (zo_Rel v) (hd, zi_6_K) zF_X8_kindOf := zt_con (K := (zo_hd, zi_6_K)) (T := zT_X8_kindOf) (w0 := zo_w3) (G := zo_g3) (zo_UR v) rfl zo_sg rfl rfl rfl (zt_ksok_of (Ks := zi_6_Ks) zt_k0) zi_6_c
-- X8_growsOn T/B
noncomputable def zi_7_K : Nat × (List zt_A × List zt_C × List Nat) × zt_W × List zt_O := (3, ([zjr 0], [], []), [], [(some ((0, .ofNat 0, .ofNat 0, 0, [])), [], [], []), (some ((0, .ofNat 1, .ofNat 1, 0, [])), [], [], [])])
noncomputable def zi_7_A : zt_An := [(0, [(([some (zjr 0)], [], [], []), .ofNat 2, [])]), (16, [(([some (zjr 0)], [], [((1, 0, 4), .ofNat 1, .ofNat 2)], []), .ofNat 1, [])]), (21, [(([some (zjr 0)], [(0, .ofNat 0, .ofNat 0, 0, [])], [((1, 0, 4), .ofNat 0, .ofNat 4)], []), .ofNat 0, []), (([some (zjr 0)], [(0, .ofNat 1, .ofNat 1, 0, [])], [((1, 0, 4), .ofNat 1, .ofNat 2)], []), .ofNat 0, [])])]
noncomputable def zi_7_Ks : List (Nat × List zt_K) := []
noncomputable def zi_7_H : zt_H := ((zo_w3, 3, zo_Sg), (zo_g3, zi_7_K.2.2.1, [0], zo_U), [], ((some .boolean), zi_7_K.2.2.2, zi_7_K.2.1.1), zi_7_Ks)
theorem zi_7_c : zt_chk zi_7_H (zB_X8_growsOn, [], [16, 21]) 4 zi_7_A 1 (zo_hd, zi_7_K) = true := by decide +kernel
theorem zi_7 (v : Nat) (hd : Nat × Option Nat × Bool × List (Nat × Nat)) : zt_Con zo_Om (zo_Rel v) (hd, zi_7_K) zF_X8_growsOn := zt_con (K := (zo_hd, zi_7_K)) (T := zT_X8_growsOn) (w0 := zo_w3) (G := zo_g3) (zo_UR v) rfl zo_sg rfl rfl rfl (zt_ksok_of (Ks := zi_7_Ks) zt_k0) zi_7_c
-- X8_advance T/B
noncomputable def zi_8_K : Nat × (List zt_A × List zt_C × List Nat) × zt_W × List zt_O := (3, ([zjr 0], [], []), [(0, 4, 6)], [(none, [], [], [])])
noncomputable def zi_8_A : zt_An := [(0, [(([some (zjr 0), none], [], [], []), .ofNat 1604, [])]), (5, [(([some (zjr 0), some (zj (.ofNat 0) (.ofNat 800))], [], [], []), .ofNat 1603, [(.negSucc 0, 1)])]), (31, [(([some (zjr 0), some (zj (.ofNat 0) (.ofNat 800))], [], [((1, 0, 1), .ofNat 0, .ofNat 800)], []), .ofNat 802, [])]), (65, [(([some (zjr 0), some (zj (.ofNat 0) (.ofNat 800))], [], [((1, 0, 1), .ofNat 0, .ofNat 800), ((1, 0, 4), .ofNat 0, .ofNat 4), ((1, 0, 5), .ofNat 0, .ofNat 800)], []), .ofNat 801, [(.negSucc 0, 1)])]), (102, [(([some (zjr 0), some (zj (.ofNat 0) (.ofNat 800))], [], [((1, 0, 1), .ofNat 0, .ofNat 800), ((1, 0, 4), .ofNat 0, .ofNat 4), ((1, 0, 5), .ofNat 0, .ofNat 800)], []), .ofNat 0, [])])]
noncomputable def zi_8_Ks : List (Nat × List zt_K) := [(147, [((1, none, true, []), zi_5_K)]), (151, [((1, none, true, []), zi_6_K)]), (155, [((1, some 8, true, []), zi_7_K)])]
noncomputable def zi_8_H : zt_H := ((zo_w3, 3, zo_Sg), (zo_g3, zi_8_K.2.2.1, [0], zo_U), [], (none, zi_8_K.2.2.2, zi_8_K.2.1.1), zi_8_Ks)
theorem zi_8_c : zt_chk zi_8_H (zB_X8_advance, [], [5, 31, 65, 102]) 8 zi_8_A 2 (zo_hd, zi_8_K) = true := by decide +kernel
theorem zi_8 (v : Nat) (hd : Nat × Option Nat × Bool × List (Nat × Nat)) : zt_Con zo_Om (zo_Rel v) (hd, zi_8_K) zF_X8_advance := zt_con (K := (zo_hd, zi_8_K)) (T := zT_X8_advance) (w0 := zo_w3) (G := zo_g3) (zo_UR v) rfl zo_sg rfl rfl rfl (zt_ksok_of (Ks := zi_8_Ks) (zt_k1 rfl (zt_k2 rfl (zi_5 v _) zt_k3) (zt_k1 rfl (zt_k2 rfl (zi_6 v _) zt_k3) (zt_k1 rfl (zt_k2 rfl (zi_7 v _) zt_k3) zt_k0)))) zi_8_c
-- X8_isWord T/B
noncomputable def zi_9_K : Nat × (List zt_A × List zt_C × List Nat) × zt_W × List zt_O := (3, ([zjr 0, (4, .ofNat 5, .ofNat 0, 0, [])], [], []), [], [(some (zj (.ofNat 0) (.ofNat 0)), [], [], []), (some (zj (.ofNat 1) (.ofNat 1)), [], [], [])])
theorem zi_9 (v : Nat) (hd : Nat × Option Nat × Bool × List (Nat × Nat)) : zt_Con zo_Om (zo_Rel v) (hd, zi_9_K) zF_X8_isWord := zh_isWord 5 (by decide) v hd
-- X8_isWord T/B
noncomputable def zi_10_K : Nat × (List zt_A × List zt_C × List Nat) × zt_W × List zt_O := (3, ([zjr 0, (4, .ofNat 8, .ofNat 0, 0, [])], [], []), [], [(some (zj (.ofNat 0) (.ofNat 0)), [], [], []), (some (zj (.ofNat 1) (.ofNat 1)), [], [], [])])
theorem zi_10 (v : Nat) (hd : Nat × Option Nat × Bool × List (Nat × Nat)) : zt_Con zo_Om (zo_Rel v) (hd, zi_10_K) zF_X8_isWord := zh_isWord 8 (by decide) v hd
-- X8_refuse T/B
noncomputable def zi_11_K : Nat × (List zt_A × List zt_C × List Nat) × zt_W × List zt_O := (3, ([zjr 0, zj (.ofNat 1) (.ofNat 3)], [], []), [(0, 2, 3)], [(none, [], [], [])])
noncomputable def zi_11_A : zt_An := [(0, [(([some (zjr 0), some (zj (.ofNat 1) (.ofNat 3))], [], [], []), .ofNat 1, [])]), (20, [(([some (zjr 0), some (zj (.ofNat 1) (.ofNat 3))], [], [((1, 0, 2), .ofNat 1, .ofNat 3)], []), .ofNat 0, [])])]
noncomputable def zi_11_Ks : List (Nat × List zt_K) := []
noncomputable def zi_11_H : zt_H := ((zo_w3, 3, zo_Sg), (zo_g3, zi_11_K.2.2.1, [0, 1], zo_U), [], (none, zi_11_K.2.2.2, zi_11_K.2.1.1), zi_11_Ks)
theorem zi_11_c : zt_chk zi_11_H (zB_X8_refuse, [], [20]) 3 zi_11_A 2 (zo_hd, zi_11_K) = true := by decide +kernel
theorem zi_11 (v : Nat) (hd : Nat × Option Nat × Bool × List (Nat × Nat)) : zt_Con zo_Om (zo_Rel v) (hd, zi_11_K) zF_X8_refuse := zt_con (K := (zo_hd, zi_11_K)) (T := zT_X8_refuse) (w0 := zo_w3) (G := zo_g3) (zo_UR v) rfl zo_sg rfl rfl rfl (zt_ksok_of (Ks := zi_11_Ks) zt_k0) zi_11_c
-- X8_takeWord T/B
noncomputable def zi_12_K : Nat × (List zt_A × List zt_C × List Nat) × zt_W × List zt_O := (3, ([zjr 0, (4, .ofNat 8, .ofNat 0, 0, [])], [], []), [(0, 2, 6)], [(none, [], [], [])])
noncomputable def zi_12_A : zt_An := [(0, [(([some (zjr 0), some (4, .ofNat 8, .ofNat 0, 0, [])], [], [], []), .ofNat 1, [])]), (28, [(([some (zjr 0), some (4, .ofNat 8, .ofNat 0, 0, [])], [], [], []), .ofNat 0, [])])]
noncomputable def zi_12_Ks : List (Nat × List zt_K) := [(33, [((1, some 8, true, []), zi_8_K)]), (48, [((2, some 8, true, []), zi_10_K)]), (60, [((2, some 8, true, []), zi_11_K)])]
noncomputable def zi_12_H : zt_H := ((zo_w3, 3, zo_Sg), (zo_g3, zi_12_K.2.2.1, [0, 1], zo_U), [], (none, zi_12_K.2.2.2, zi_12_K.2.1.1), zi_12_Ks)
theorem zi_12_c : zt_chk zi_12_H (zB_X8_takeWord, [], [28]) 6 zi_12_A 2 (zo_hd, zi_12_K) = true := by decide +kernel
theorem zi_12 (v : Nat) (hd : Nat × Option Nat × Bool × List (Nat × Nat)) : zt_Con zo_Om (zo_Rel v) (hd, zi_12_K) zF_X8_takeWord := zt_con (K := (zo_hd, zi_12_K)) (T := zT_X8_takeWord) (w0 := zo_w3) (G := zo_g3) (zo_UR v) rfl zo_sg rfl rfl rfl (zt_ksok_of (Ks := zi_12_Ks) (zt_k1 rfl (zt_k2 rfl (zi_8 v _) zt_k3) (zt_k1 rfl (zt_k2 rfl (zi_10 v _) zt_k3) (zt_k1 rfl (zt_k2 rfl (zi_11 v _) zt_k3) zt_k0)))) zi_12_c
-- X8_isWord T/B
noncomputable def zi_13_K : Nat × (List zt_A × List zt_C × List Nat) × zt_W × List zt_O := (3, ([zjr 0, (4, .ofNat 9, .ofNat 0, 0, [])], [], []), [], [(some (zj (.ofNat 0) (.ofNat 0)), [], [], []), (some (zj (.ofNat 1) (.ofNat 1)), [], [], [])])
theorem zi_13 (v : Nat) (hd : Nat × Option Nat × Bool × List (Nat × Nat)) : zt_Con zo_Om (zo_Rel v) (hd, zi_13_K) zF_X8_isWord := zh_isWord 9 (by decide) v hd
-- X8_takeWord T/B
noncomputable def zi_14_K : Nat × (List zt_A × List zt_C × List Nat) × zt_W × List zt_O := (3, ([zjr 0, (4, .ofNat 9, .ofNat 0, 0, [])], [], []), [(0, 2, 6)], [(none, [], [], [])])
noncomputable def zi_14_A : zt_An := [(0, [(([some (zjr 0), some (4, .ofNat 9, .ofNat 0, 0, [])], [], [], []), .ofNat 1, [])]), (28, [(([some (zjr 0), some (4, .ofNat 9, .ofNat 0, 0, [])], [], [], []), .ofNat 0, [])])]
noncomputable def zi_14_Ks : List (Nat × List zt_K) := [(33, [((1, some 8, true, []), zi_8_K)]), (48, [((2, some 8, true, []), zi_13_K)]), (60, [((2, some 8, true, []), zi_11_K)])]
noncomputable def zi_14_H : zt_H := ((zo_w3, 3, zo_Sg), (zo_g3, zi_14_K.2.2.1, [0, 1], zo_U), [], (none, zi_14_K.2.2.2, zi_14_K.2.1.1), zi_14_Ks)
theorem zi_14_c : zt_chk zi_14_H (zB_X8_takeWord, [], [28]) 6 zi_14_A 2 (zo_hd, zi_14_K) = true := by decide +kernel
theorem zi_14 (v : Nat) (hd : Nat × Option Nat × Bool × List (Nat × Nat)) : zt_Con zo_Om (zo_Rel v) (hd, zi_14_K) zF_X8_takeWord := zt_con (K := (zo_hd, zi_14_K)) (T := zT_X8_takeWord) (w0 := zo_w3) (G := zo_g3) (zo_UR v) rfl zo_sg rfl rfl rfl (zt_ksok_of (Ks := zi_14_Ks) (zt_k1 rfl (zt_k2 rfl (zi_8 v _) zt_k3) (zt_k1 rfl (zt_k2 rfl (zi_13 v _) zt_k3) (zt_k1 rfl (zt_k2 rfl (zi_11 v _) zt_k3) zt_k0)))) zi_14_c
-- X8_valueHere T/B
noncomputable def zi_15_K : Nat × (List zt_A × List zt_C × List Nat) × zt_W × List zt_O := (3, ([zjr 0], [], []), [], [(some (zj (.negSucc 2147483647) (.ofNat 1000)), [], [], [])])
noncomputable def zi_15_A : zt_An := [(0, [(([some (zjr 0), none, none], [], [], []), .ofNat 801, [])]), (7, [(([some (zjr 0), some (zj (.negSucc 2147483647) (.ofNat 1000)), some (zj (.ofNat 0) (.ofNat 800))], [], [], []), .ofNat 800, [(.negSucc 0, 2)])])]
noncomputable def zi_15_Ks : List (Nat × List zt_K) := []
noncomputable def zi_15_H : zt_H := ((zo_w3, 3, zo_Sg), (zo_g3, zi_15_K.2.2.1, [0], zo_U), [], ((some .int), zi_15_K.2.2.2, zi_15_K.2.1.1), zi_15_Ks)
theorem zi_15_c : zt_chk zi_15_H (zB_X8_valueHere, [], [7]) 3 zi_15_A 3 (zo_hd, zi_15_K) = true := by decide +kernel
theorem zi_15 (v : Nat) (hd : Nat × Option Nat × Bool × List (Nat × Nat)) : zt_Con zo_Om (zo_Rel v) (hd, zi_15_K) zF_X8_valueHere := zt_con (K := (zo_hd, zi_15_K)) (T := zT_X8_valueHere) (w0 := zo_w3) (G := zo_g3) (zo_UR v) rfl zo_sg rfl rfl rfl (zt_ksok_of (Ks := zi_15_Ks) zt_k0) zi_15_c
-- X8_takeAfter T/B
noncomputable def zi_16_K : Nat × (List zt_A × List zt_C × List Nat) × zt_W × List zt_O := (3, ([zjr 0, (4, .ofNat 9, .ofNat 0, 0, []), zj (.ofNat 0) (.ofNat 0), zj (.ofNat 99) (.ofNat 99)], [], []), [(0, 2, 6)], [(some (zj (.ofNat 0) (.ofNat 99)), [], [], []), (some ((0, .ofNat 0, .ofNat 0, 0, [])), [], [], [])])
noncomputable def zi_16_A : zt_An := [(0, [(([some (zjr 0), some (4, .ofNat 9, .ofNat 0, 0, []), some (zj (.ofNat 0) (.ofNat 0)), some (zj (.ofNat 99) (.ofNat 99)), none], [], [], []), .ofNat 1, [])]), (47, [(([some (zjr 0), some (4, .ofNat 9, .ofNat 0, 0, []), some (zj (.ofNat 0) (.ofNat 0)), some (zj (.ofNat 99) (.ofNat 99)), some (zj (.negSucc 2147483647) (.ofNat 1000))], [], [((1, 0, 2), .ofNat 0, .ofNat 0), ((1, 0, 4), .ofNat 2, .ofNat 2)], []), .ofNat 0, [])])]
noncomputable def zi_16_Ks : List (Nat × List zt_K) := [(33, [((1, some 8, true, []), zi_8_K)]), (60, [((2, some 8, true, []), zi_11_K)]), (69, [((2, some 8, true, []), zi_14_K)]), (128, [((1, some 8, true, []), zi_15_K)])]
noncomputable def zi_16_H : zt_H := ((zo_w3, 3, zo_Sg), (zo_g3, zi_16_K.2.2.1, [0, 1, 2, 3], zo_U), [], ((some .int), zi_16_K.2.2.2, zi_16_K.2.1.1), zi_16_Ks)
theorem zi_16_c : zt_chk zi_16_H (zB_X8_takeAfter, [], [47]) 9 zi_16_A 5 (zo_hd, zi_16_K) = true := by decide +kernel
theorem zi_16 (v : Nat) (hd : Nat × Option Nat × Bool × List (Nat × Nat)) : zt_Con zo_Om (zo_Rel v) (hd, zi_16_K) zF_X8_takeAfter := zt_con (K := (zo_hd, zi_16_K)) (T := zT_X8_takeAfter) (w0 := zo_w3) (G := zo_g3) (zo_UR v) rfl zo_sg rfl rfl rfl (zt_ksok_of (Ks := zi_16_Ks) (zt_k1 rfl (zt_k2 rfl (zi_8 v _) zt_k3) (zt_k1 rfl (zt_k2 rfl (zi_11 v _) zt_k3) (zt_k1 rfl (zt_k2 rfl (zi_14 v _) zt_k3) (zt_k1 rfl (zt_k2 rfl (zi_15 v _) zt_k3) zt_k0))))) zi_16_c
-- X8_isWord T/B
noncomputable def zi_17_K : Nat × (List zt_A × List zt_C × List Nat) × zt_W × List zt_O := (3, ([zjr 0, (4, .ofNat 10, .ofNat 0, 0, [])], [], []), [], [(some (zj (.ofNat 0) (.ofNat 0)), [], [], []), (some (zj (.ofNat 1) (.ofNat 1)), [], [], [])])
theorem zi_17 (v : Nat) (hd : Nat × Option Nat × Bool × List (Nat × Nat)) : zt_Con zo_Om (zo_Rel v) (hd, zi_17_K) zF_X8_isWord := zh_isWord 10 (by decide) v hd
-- X8_takeWord T/B
noncomputable def zi_18_K : Nat × (List zt_A × List zt_C × List Nat) × zt_W × List zt_O := (3, ([zjr 0, (4, .ofNat 10, .ofNat 0, 0, [])], [], []), [(0, 2, 6)], [(none, [], [], [])])
noncomputable def zi_18_A : zt_An := [(0, [(([some (zjr 0), some (4, .ofNat 10, .ofNat 0, 0, [])], [], [], []), .ofNat 1, [])]), (28, [(([some (zjr 0), some (4, .ofNat 10, .ofNat 0, 0, [])], [], [], []), .ofNat 0, [])])]
noncomputable def zi_18_Ks : List (Nat × List zt_K) := [(33, [((1, some 8, true, []), zi_8_K)]), (48, [((2, some 8, true, []), zi_17_K)]), (60, [((2, some 8, true, []), zi_11_K)])]
noncomputable def zi_18_H : zt_H := ((zo_w3, 3, zo_Sg), (zo_g3, zi_18_K.2.2.1, [0, 1], zo_U), [], (none, zi_18_K.2.2.2, zi_18_K.2.1.1), zi_18_Ks)
theorem zi_18_c : zt_chk zi_18_H (zB_X8_takeWord, [], [28]) 6 zi_18_A 2 (zo_hd, zi_18_K) = true := by decide +kernel
theorem zi_18 (v : Nat) (hd : Nat × Option Nat × Bool × List (Nat × Nat)) : zt_Con zo_Om (zo_Rel v) (hd, zi_18_K) zF_X8_takeWord := zt_con (K := (zo_hd, zi_18_K)) (T := zT_X8_takeWord) (w0 := zo_w3) (G := zo_g3) (zo_UR v) rfl zo_sg rfl rfl rfl (zt_ksok_of (Ks := zi_18_Ks) (zt_k1 rfl (zt_k2 rfl (zi_8 v _) zt_k3) (zt_k1 rfl (zt_k2 rfl (zi_17 v _) zt_k3) (zt_k1 rfl (zt_k2 rfl (zi_11 v _) zt_k3) zt_k0)))) zi_18_c
-- X8_takeAfter T/B
noncomputable def zi_19_K : Nat × (List zt_A × List zt_C × List Nat) × zt_W × List zt_O := (3, ([zjr 0, (4, .ofNat 10, .ofNat 0, 0, []), zj (.ofNat 0) (.ofNat 0), zj (.ofNat 30) (.ofNat 30)], [], []), [(0, 2, 6)], [(some (zj (.ofNat 0) (.ofNat 30)), [], [], []), (some ((0, .ofNat 0, .ofNat 0, 0, [])), [], [], [])])
noncomputable def zi_19_A : zt_An := [(0, [(([some (zjr 0), some (4, .ofNat 10, .ofNat 0, 0, []), some (zj (.ofNat 0) (.ofNat 0)), some (zj (.ofNat 30) (.ofNat 30)), none], [], [], []), .ofNat 1, [])]), (47, [(([some (zjr 0), some (4, .ofNat 10, .ofNat 0, 0, []), some (zj (.ofNat 0) (.ofNat 0)), some (zj (.ofNat 30) (.ofNat 30)), some (zj (.negSucc 2147483647) (.ofNat 1000))], [], [((1, 0, 2), .ofNat 0, .ofNat 0), ((1, 0, 4), .ofNat 2, .ofNat 2)], []), .ofNat 0, [])])]
noncomputable def zi_19_Ks : List (Nat × List zt_K) := [(33, [((1, some 8, true, []), zi_8_K)]), (60, [((2, some 8, true, []), zi_11_K)]), (69, [((2, some 8, true, []), zi_18_K)]), (128, [((1, some 8, true, []), zi_15_K)])]
noncomputable def zi_19_H : zt_H := ((zo_w3, 3, zo_Sg), (zo_g3, zi_19_K.2.2.1, [0, 1, 2, 3], zo_U), [], ((some .int), zi_19_K.2.2.2, zi_19_K.2.1.1), zi_19_Ks)
theorem zi_19_c : zt_chk zi_19_H (zB_X8_takeAfter, [], [47]) 9 zi_19_A 5 (zo_hd, zi_19_K) = true := by decide +kernel
theorem zi_19 (v : Nat) (hd : Nat × Option Nat × Bool × List (Nat × Nat)) : zt_Con zo_Om (zo_Rel v) (hd, zi_19_K) zF_X8_takeAfter := zt_con (K := (zo_hd, zi_19_K)) (T := zT_X8_takeAfter) (w0 := zo_w3) (G := zo_g3) (zo_UR v) rfl zo_sg rfl rfl rfl (zt_ksok_of (Ks := zi_19_Ks) (zt_k1 rfl (zt_k2 rfl (zi_8 v _) zt_k3) (zt_k1 rfl (zt_k2 rfl (zi_11 v _) zt_k3) (zt_k1 rfl (zt_k2 rfl (zi_18 v _) zt_k3) (zt_k1 rfl (zt_k2 rfl (zi_15 v _) zt_k3) zt_k0))))) zi_19_c
-- X8_takeWord T/B
noncomputable def zi_20_K : Nat × (List zt_A × List zt_C × List Nat) × zt_W × List zt_O := (3, ([zjr 0, (4, .ofNat 5, .ofNat 0, 0, [])], [], []), [(0, 2, 6)], [(none, [], [], [])])
noncomputable def zi_20_A : zt_An := [(0, [(([some (zjr 0), some (4, .ofNat 5, .ofNat 0, 0, [])], [], [], []), .ofNat 1, [])]), (28, [(([some (zjr 0), some (4, .ofNat 5, .ofNat 0, 0, [])], [], [], []), .ofNat 0, [])])]
noncomputable def zi_20_Ks : List (Nat × List zt_K) := [(33, [((1, some 8, true, []), zi_8_K)]), (48, [((2, some 8, true, []), zi_9_K)]), (60, [((2, some 8, true, []), zi_11_K)])]
noncomputable def zi_20_H : zt_H := ((zo_w3, 3, zo_Sg), (zo_g3, zi_20_K.2.2.1, [0, 1], zo_U), [], (none, zi_20_K.2.2.2, zi_20_K.2.1.1), zi_20_Ks)
theorem zi_20_c : zt_chk zi_20_H (zB_X8_takeWord, [], [28]) 6 zi_20_A 2 (zo_hd, zi_20_K) = true := by decide +kernel
theorem zi_20 (v : Nat) (hd : Nat × Option Nat × Bool × List (Nat × Nat)) : zt_Con zo_Om (zo_Rel v) (hd, zi_20_K) zF_X8_takeWord := zt_con (K := (zo_hd, zi_20_K)) (T := zT_X8_takeWord) (w0 := zo_w3) (G := zo_g3) (zo_UR v) rfl zo_sg rfl rfl rfl (zt_ksok_of (Ks := zi_20_Ks) (zt_k1 rfl (zt_k2 rfl (zi_8 v _) zt_k3) (zt_k1 rfl (zt_k2 rfl (zi_9 v _) zt_k3) (zt_k1 rfl (zt_k2 rfl (zi_11 v _) zt_k3) zt_k0)))) zi_20_c
-- X8_takeAfter T/B
noncomputable def zi_21_K : Nat × (List zt_A × List zt_C × List Nat) × zt_W × List zt_O := (3, ([zjr 0, (4, .ofNat 5, .ofNat 0, 0, []), zj (.ofNat 0) (.ofNat 0), zj (.negSucc 0) (.ofNat 5)], [], []), [(0, 2, 6)], [(some (zj (.ofNat 0) (.ofNat 5)), [(3, .ofNat 0, .ofNat 5)], [], []), (some ((0, .ofNat 0, .ofNat 0, 0, [])), [], [], [])])
noncomputable def zi_21_A : zt_An := [(0, [(([some (zjr 0), some (4, .ofNat 5, .ofNat 0, 0, []), some (zj (.ofNat 0) (.ofNat 0)), some (zj (.negSucc 0) (.ofNat 5)), none], [], [], []), .ofNat 1, [])]), (47, [(([some (zjr 0), some (4, .ofNat 5, .ofNat 0, 0, []), some (zj (.ofNat 0) (.ofNat 0)), some (zj (.negSucc 0) (.ofNat 5)), some (zj (.negSucc 2147483647) (.ofNat 1000))], [], [((1, 0, 2), .ofNat 0, .ofNat 0), ((1, 0, 4), .ofNat 2, .ofNat 2)], []), .ofNat 0, [])])]
noncomputable def zi_21_Ks : List (Nat × List zt_K) := [(33, [((1, some 8, true, []), zi_8_K)]), (60, [((2, some 8, true, []), zi_11_K)]), (69, [((2, some 8, true, []), zi_20_K)]), (128, [((1, some 8, true, []), zi_15_K)])]
noncomputable def zi_21_H : zt_H := ((zo_w3, 3, zo_Sg), (zo_g3, zi_21_K.2.2.1, [0, 1, 2, 3], zo_U), [], ((some .int), zi_21_K.2.2.2, zi_21_K.2.1.1), zi_21_Ks)
theorem zi_21_c : zt_chk zi_21_H (zB_X8_takeAfter, [], [47]) 9 zi_21_A 5 (zo_hd, zi_21_K) = true := by decide +kernel
theorem zi_21 (v : Nat) (hd : Nat × Option Nat × Bool × List (Nat × Nat)) : zt_Con zo_Om (zo_Rel v) (hd, zi_21_K) zF_X8_takeAfter := zt_con (K := (zo_hd, zi_21_K)) (T := zT_X8_takeAfter) (w0 := zo_w3) (G := zo_g3) (zo_UR v) rfl zo_sg rfl rfl rfl (zt_ksok_of (Ks := zi_21_Ks) (zt_k1 rfl (zt_k2 rfl (zi_8 v _) zt_k3) (zt_k1 rfl (zt_k2 rfl (zi_11 v _) zt_k3) (zt_k1 rfl (zt_k2 rfl (zi_20 v _) zt_k3) (zt_k1 rfl (zt_k2 rfl (zi_15 v _) zt_k3) zt_k0))))) zi_21_c
-- X8_isWord T/B
noncomputable def zi_22_K : Nat × (List zt_A × List zt_C × List Nat) × zt_W × List zt_O := (3, ([zjr 0, (4, .ofNat 11, .ofNat 0, 0, [])], [], []), [], [(some (zj (.ofNat 0) (.ofNat 0)), [], [], []), (some (zj (.ofNat 1) (.ofNat 1)), [], [], [])])
theorem zi_22 (v : Nat) (hd : Nat × Option Nat × Bool × List (Nat × Nat)) : zt_Con zo_Om (zo_Rel v) (hd, zi_22_K) zF_X8_isWord := zh_isWord 11 (by decide) v hd
-- X8_takeWord T/B
noncomputable def zi_23_K : Nat × (List zt_A × List zt_C × List Nat) × zt_W × List zt_O := (3, ([zjr 0, (4, .ofNat 11, .ofNat 0, 0, [])], [], []), [(0, 2, 6)], [(none, [], [], [])])
noncomputable def zi_23_A : zt_An := [(0, [(([some (zjr 0), some (4, .ofNat 11, .ofNat 0, 0, [])], [], [], []), .ofNat 1, [])]), (28, [(([some (zjr 0), some (4, .ofNat 11, .ofNat 0, 0, [])], [], [], []), .ofNat 0, [])])]
noncomputable def zi_23_Ks : List (Nat × List zt_K) := [(33, [((1, some 8, true, []), zi_8_K)]), (48, [((2, some 8, true, []), zi_22_K)]), (60, [((2, some 8, true, []), zi_11_K)])]
noncomputable def zi_23_H : zt_H := ((zo_w3, 3, zo_Sg), (zo_g3, zi_23_K.2.2.1, [0, 1], zo_U), [], (none, zi_23_K.2.2.2, zi_23_K.2.1.1), zi_23_Ks)
theorem zi_23_c : zt_chk zi_23_H (zB_X8_takeWord, [], [28]) 6 zi_23_A 2 (zo_hd, zi_23_K) = true := by decide +kernel
theorem zi_23 (v : Nat) (hd : Nat × Option Nat × Bool × List (Nat × Nat)) : zt_Con zo_Om (zo_Rel v) (hd, zi_23_K) zF_X8_takeWord := zt_con (K := (zo_hd, zi_23_K)) (T := zT_X8_takeWord) (w0 := zo_w3) (G := zo_g3) (zo_UR v) rfl zo_sg rfl rfl rfl (zt_ksok_of (Ks := zi_23_Ks) (zt_k1 rfl (zt_k2 rfl (zi_8 v _) zt_k3) (zt_k1 rfl (zt_k2 rfl (zi_22 v _) zt_k3) (zt_k1 rfl (zt_k2 rfl (zi_11 v _) zt_k3) zt_k0)))) zi_23_c
-- X8_takeAfter T/B
noncomputable def zi_24_K : Nat × (List zt_A × List zt_C × List Nat) × zt_W × List zt_O := (3, ([zjr 0, (4, .ofNat 11, .ofNat 0, 0, []), zj (.ofNat 0) (.ofNat 0), zj (.ofNat 99) (.ofNat 99)], [], []), [(0, 2, 6)], [(some (zj (.ofNat 0) (.ofNat 99)), [], [], []), (some ((0, .ofNat 0, .ofNat 0, 0, [])), [], [], [])])
noncomputable def zi_24_A : zt_An := [(0, [(([some (zjr 0), some (4, .ofNat 11, .ofNat 0, 0, []), some (zj (.ofNat 0) (.ofNat 0)), some (zj (.ofNat 99) (.ofNat 99)), none], [], [], []), .ofNat 1, [])]), (47, [(([some (zjr 0), some (4, .ofNat 11, .ofNat 0, 0, []), some (zj (.ofNat 0) (.ofNat 0)), some (zj (.ofNat 99) (.ofNat 99)), some (zj (.negSucc 2147483647) (.ofNat 1000))], [], [((1, 0, 2), .ofNat 0, .ofNat 0), ((1, 0, 4), .ofNat 2, .ofNat 2)], []), .ofNat 0, [])])]
noncomputable def zi_24_Ks : List (Nat × List zt_K) := [(33, [((1, some 8, true, []), zi_8_K)]), (60, [((2, some 8, true, []), zi_11_K)]), (69, [((2, some 8, true, []), zi_23_K)]), (128, [((1, some 8, true, []), zi_15_K)])]
noncomputable def zi_24_H : zt_H := ((zo_w3, 3, zo_Sg), (zo_g3, zi_24_K.2.2.1, [0, 1, 2, 3], zo_U), [], ((some .int), zi_24_K.2.2.2, zi_24_K.2.1.1), zi_24_Ks)
theorem zi_24_c : zt_chk zi_24_H (zB_X8_takeAfter, [], [47]) 9 zi_24_A 5 (zo_hd, zi_24_K) = true := by decide +kernel
theorem zi_24 (v : Nat) (hd : Nat × Option Nat × Bool × List (Nat × Nat)) : zt_Con zo_Om (zo_Rel v) (hd, zi_24_K) zF_X8_takeAfter := zt_con (K := (zo_hd, zi_24_K)) (T := zT_X8_takeAfter) (w0 := zo_w3) (G := zo_g3) (zo_UR v) rfl zo_sg rfl rfl rfl (zt_ksok_of (Ks := zi_24_Ks) (zt_k1 rfl (zt_k2 rfl (zi_8 v _) zt_k3) (zt_k1 rfl (zt_k2 rfl (zi_11 v _) zt_k3) (zt_k1 rfl (zt_k2 rfl (zi_23 v _) zt_k3) (zt_k1 rfl (zt_k2 rfl (zi_15 v _) zt_k3) zt_k0))))) zi_24_c
-- X8_isWord T/B
noncomputable def zi_25_K : Nat × (List zt_A × List zt_C × List Nat) × zt_W × List zt_O := (3, ([zjr 0, (4, .ofNat 12, .ofNat 0, 0, [])], [], []), [], [(some (zj (.ofNat 0) (.ofNat 0)), [], [], []), (some (zj (.ofNat 1) (.ofNat 1)), [], [], [])])
theorem zi_25 (v : Nat) (hd : Nat × Option Nat × Bool × List (Nat × Nat)) : zt_Con zo_Om (zo_Rel v) (hd, zi_25_K) zF_X8_isWord := zh_isWord 12 (by decide) v hd
-- X8_takeWord T/B
noncomputable def zi_26_K : Nat × (List zt_A × List zt_C × List Nat) × zt_W × List zt_O := (3, ([zjr 0, (4, .ofNat 12, .ofNat 0, 0, [])], [], []), [(0, 2, 6)], [(none, [], [], [])])
noncomputable def zi_26_A : zt_An := [(0, [(([some (zjr 0), some (4, .ofNat 12, .ofNat 0, 0, [])], [], [], []), .ofNat 1, [])]), (28, [(([some (zjr 0), some (4, .ofNat 12, .ofNat 0, 0, [])], [], [], []), .ofNat 0, [])])]
noncomputable def zi_26_Ks : List (Nat × List zt_K) := [(33, [((1, some 8, true, []), zi_8_K)]), (48, [((2, some 8, true, []), zi_25_K)]), (60, [((2, some 8, true, []), zi_11_K)])]
noncomputable def zi_26_H : zt_H := ((zo_w3, 3, zo_Sg), (zo_g3, zi_26_K.2.2.1, [0, 1], zo_U), [], (none, zi_26_K.2.2.2, zi_26_K.2.1.1), zi_26_Ks)
theorem zi_26_c : zt_chk zi_26_H (zB_X8_takeWord, [], [28]) 6 zi_26_A 2 (zo_hd, zi_26_K) = true := by decide +kernel
theorem zi_26 (v : Nat) (hd : Nat × Option Nat × Bool × List (Nat × Nat)) : zt_Con zo_Om (zo_Rel v) (hd, zi_26_K) zF_X8_takeWord := zt_con (K := (zo_hd, zi_26_K)) (T := zT_X8_takeWord) (w0 := zo_w3) (G := zo_g3) (zo_UR v) rfl zo_sg rfl rfl rfl (zt_ksok_of (Ks := zi_26_Ks) (zt_k1 rfl (zt_k2 rfl (zi_8 v _) zt_k3) (zt_k1 rfl (zt_k2 rfl (zi_25 v _) zt_k3) (zt_k1 rfl (zt_k2 rfl (zi_11 v _) zt_k3) zt_k0)))) zi_26_c
-- X8_takeAfter T/B
noncomputable def zi_27_K : Nat × (List zt_A × List zt_C × List Nat) × zt_W × List zt_O := (3, ([zjr 0, (4, .ofNat 12, .ofNat 0, 0, []), zj (.ofNat 0) (.ofNat 99), zj (.ofNat 99) (.ofNat 99)], [], []), [(0, 2, 6)], [(some (zj (.ofNat 0) (.ofNat 99)), [], [], []), (some ((0, .ofNat 0, .ofNat 0, 0, [])), [], [], [])])
noncomputable def zi_27_A : zt_An := [(0, [(([some (zjr 0), some (4, .ofNat 12, .ofNat 0, 0, []), some (zj (.ofNat 0) (.ofNat 99)), some (zj (.ofNat 99) (.ofNat 99)), none], [], [], []), .ofNat 1, [])]), (47, [(([some (zjr 0), some (4, .ofNat 12, .ofNat 0, 0, []), some (zj (.ofNat 0) (.ofNat 99)), some (zj (.ofNat 99) (.ofNat 99)), some (zj (.negSucc 2147483647) (.ofNat 1000))], [], [((1, 0, 2), .ofNat 0, .ofNat 0), ((1, 0, 4), .ofNat 2, .ofNat 2)], []), .ofNat 0, [])])]
noncomputable def zi_27_Ks : List (Nat × List zt_K) := [(33, [((1, some 8, true, []), zi_8_K)]), (60, [((2, some 8, true, []), zi_11_K)]), (69, [((2, some 8, true, []), zi_26_K)]), (128, [((1, some 8, true, []), zi_15_K)])]
noncomputable def zi_27_H : zt_H := ((zo_w3, 3, zo_Sg), (zo_g3, zi_27_K.2.2.1, [0, 1, 2, 3], zo_U), [], ((some .int), zi_27_K.2.2.2, zi_27_K.2.1.1), zi_27_Ks)
theorem zi_27_c : zt_chk zi_27_H (zB_X8_takeAfter, [], [47]) 9 zi_27_A 5 (zo_hd, zi_27_K) = true := by decide +kernel
theorem zi_27 (v : Nat) (hd : Nat × Option Nat × Bool × List (Nat × Nat)) : zt_Con zo_Om (zo_Rel v) (hd, zi_27_K) zF_X8_takeAfter := zt_con (K := (zo_hd, zi_27_K)) (T := zT_X8_takeAfter) (w0 := zo_w3) (G := zo_g3) (zo_UR v) rfl zo_sg rfl rfl rfl (zt_ksok_of (Ks := zi_27_Ks) (zt_k1 rfl (zt_k2 rfl (zi_8 v _) zt_k3) (zt_k1 rfl (zt_k2 rfl (zi_11 v _) zt_k3) (zt_k1 rfl (zt_k2 rfl (zi_26 v _) zt_k3) (zt_k1 rfl (zt_k2 rfl (zi_15 v _) zt_k3) zt_k0))))) zi_27_c
-- X8_readCaller T/B
noncomputable def zi_28_K : Nat × (List zt_A × List zt_C × List Nat) × zt_W × List zt_O := (3, ([zjr 0, zjr 2], [], []), [(0, 2, 6), (2, 6, 6), (4, 0, 4), (5, 0, 4), (6, 0, 4), (7, 0, 4), (8, 0, 4)], [(none, [], [], [])])
noncomputable def zi_28_A : zt_An := [(0, [(([some (zjr 0), some (zjr 2), none], [], [], []), .ofNat 0, [])])]
noncomputable def zi_28_Ks : List (Nat × List zt_K) := [(60, [((2, some 8, true, []), zi_11_K)]), (69, [((2, some 8, true, []), zi_12_K)]), (75, [((4, some 8, true, []), zi_16_K), ((4, some 8, true, []), zi_19_K), ((4, some 8, true, []), zi_24_K), ((4, some 8, true, []), zi_21_K), ((4, some 8, true, []), zi_27_K)])]
noncomputable def zi_28_H : zt_H := ((zo_w3, 3, zo_Sg), (zo_g3, zi_28_K.2.2.1, [0, 1], zo_U), [(55, .retAddr 8), (108, .retAddr 9), (112, .retAddr 10), (46, .retAddr 5), (118, .retAddr 11), (123, .retAddr 12)], (none, zi_28_K.2.2.2, zi_28_K.2.1.1), zi_28_Ks)
theorem zi_28_c : zt_chk zi_28_H (zB_X8_readCaller, [], []) 13 zi_28_A 3 (zo_hd, zi_28_K) = true := by decide +kernel
theorem zi_28 (v : Nat) (hd : Nat × Option Nat × Bool × List (Nat × Nat)) : zt_Con zo_Om (zo_Rel v) (hd, zi_28_K) zF_X8_readCaller := zt_con (K := (zo_hd, zi_28_K)) (T := zT_X8_readCaller) (w0 := zo_w3) (G := zo_g3) (zo_UR v) rfl zo_sg rfl rfl rfl (zt_ksok_of (Ks := zi_28_Ks) (zt_k1 rfl (zt_k2 rfl (zi_11 v _) zt_k3) (zt_k1 rfl (zt_k2 rfl (zi_12 v _) zt_k3) (zt_k1 rfl (zt_k2 rfl (zi_16 v _) (zt_k2 rfl (zi_19 v _) (zt_k2 rfl (zi_24 v _) (zt_k2 rfl (zi_21 v _) (zt_k2 rfl (zi_27 v _) zt_k3))))) zt_k0)))) zi_28_c
-- X8_isWord T/B
noncomputable def zi_29_K : Nat × (List zt_A × List zt_C × List Nat) × zt_W × List zt_O := (3, ([zjr 0, (4, .ofNat 6, .ofNat 0, 0, [])], [], []), [], [(some (zj (.ofNat 0) (.ofNat 0)), [], [], []), (some (zj (.ofNat 1) (.ofNat 1)), [], [], [])])
theorem zi_29 (v : Nat) (hd : Nat × Option Nat × Bool × List (Nat × Nat)) : zt_Con zo_Om (zo_Rel v) (hd, zi_29_K) zF_X8_isWord := zh_isWord 6 (by decide) v hd
-- X8_isWord T/B
noncomputable def zi_30_K : Nat × (List zt_A × List zt_C × List Nat) × zt_W × List zt_O := (3, ([zjr 0, (4, .ofNat 7, .ofNat 0, 0, [])], [], []), [], [(some (zj (.ofNat 0) (.ofNat 0)), [], [], []), (some (zj (.ofNat 1) (.ofNat 1)), [], [], [])])
theorem zi_30 (v : Nat) (hd : Nat × Option Nat × Bool × List (Nat × Nat)) : zt_Con zo_Om (zo_Rel v) (hd, zi_30_K) zF_X8_isWord := zh_isWord 7 (by decide) v hd
-- X8_takeWord T/B
noncomputable def zi_31_K : Nat × (List zt_A × List zt_C × List Nat) × zt_W × List zt_O := (3, ([zjr 0, (4, .ofNat 7, .ofNat 0, 0, [])], [], []), [(0, 2, 6)], [(none, [], [], [])])
noncomputable def zi_31_A : zt_An := [(0, [(([some (zjr 0), some (4, .ofNat 7, .ofNat 0, 0, [])], [], [], []), .ofNat 1, [])]), (28, [(([some (zjr 0), some (4, .ofNat 7, .ofNat 0, 0, [])], [], [], []), .ofNat 0, [])])]
noncomputable def zi_31_Ks : List (Nat × List zt_K) := [(33, [((1, some 8, true, []), zi_8_K)]), (48, [((2, some 8, true, []), zi_30_K)]), (60, [((2, some 8, true, []), zi_11_K)])]
noncomputable def zi_31_H : zt_H := ((zo_w3, 3, zo_Sg), (zo_g3, zi_31_K.2.2.1, [0, 1], zo_U), [], (none, zi_31_K.2.2.2, zi_31_K.2.1.1), zi_31_Ks)
theorem zi_31_c : zt_chk zi_31_H (zB_X8_takeWord, [], [28]) 6 zi_31_A 2 (zo_hd, zi_31_K) = true := by decide +kernel
theorem zi_31 (v : Nat) (hd : Nat × Option Nat × Bool × List (Nat × Nat)) : zt_Con zo_Om (zo_Rel v) (hd, zi_31_K) zF_X8_takeWord := zt_con (K := (zo_hd, zi_31_K)) (T := zT_X8_takeWord) (w0 := zo_w3) (G := zo_g3) (zo_UR v) rfl zo_sg rfl rfl rfl (zt_ksok_of (Ks := zi_31_Ks) (zt_k1 rfl (zt_k2 rfl (zi_8 v _) zt_k3) (zt_k1 rfl (zt_k2 rfl (zi_30 v _) zt_k3) (zt_k1 rfl (zt_k2 rfl (zi_11 v _) zt_k3) zt_k0)))) zi_31_c
-- X8_takeAfter T/B
noncomputable def zi_32_K : Nat × (List zt_A × List zt_C × List Nat) × zt_W × List zt_O := (3, ([zjr 0, (4, .ofNat 7, .ofNat 0, 0, []), zj (.ofNat 0) (.ofNat 0), zj (.ofNat 9) (.ofNat 9)], [], []), [(0, 2, 6)], [(some (zj (.ofNat 0) (.ofNat 9)), [], [], []), (some ((0, .ofNat 0, .ofNat 0, 0, [])), [], [], [])])
noncomputable def zi_32_A : zt_An := [(0, [(([some (zjr 0), some (4, .ofNat 7, .ofNat 0, 0, []), some (zj (.ofNat 0) (.ofNat 0)), some (zj (.ofNat 9) (.ofNat 9)), none], [], [], []), .ofNat 1, [])]), (47, [(([some (zjr 0), some (4, .ofNat 7, .ofNat 0, 0, []), some (zj (.ofNat 0) (.ofNat 0)), some (zj (.ofNat 9) (.ofNat 9)), some (zj (.negSucc 2147483647) (.ofNat 1000))], [], [((1, 0, 2), .ofNat 0, .ofNat 0), ((1, 0, 4), .ofNat 2, .ofNat 2)], []), .ofNat 0, [])])]
noncomputable def zi_32_Ks : List (Nat × List zt_K) := [(33, [((1, some 8, true, []), zi_8_K)]), (60, [((2, some 8, true, []), zi_11_K)]), (69, [((2, some 8, true, []), zi_31_K)]), (128, [((1, some 8, true, []), zi_15_K)])]
noncomputable def zi_32_H : zt_H := ((zo_w3, 3, zo_Sg), (zo_g3, zi_32_K.2.2.1, [0, 1, 2, 3], zo_U), [], ((some .int), zi_32_K.2.2.2, zi_32_K.2.1.1), zi_32_Ks)
theorem zi_32_c : zt_chk zi_32_H (zB_X8_takeAfter, [], [47]) 9 zi_32_A 5 (zo_hd, zi_32_K) = true := by decide +kernel
theorem zi_32 (v : Nat) (hd : Nat × Option Nat × Bool × List (Nat × Nat)) : zt_Con zo_Om (zo_Rel v) (hd, zi_32_K) zF_X8_takeAfter := zt_con (K := (zo_hd, zi_32_K)) (T := zT_X8_takeAfter) (w0 := zo_w3) (G := zo_g3) (zo_UR v) rfl zo_sg rfl rfl rfl (zt_ksok_of (Ks := zi_32_Ks) (zt_k1 rfl (zt_k2 rfl (zi_8 v _) zt_k3) (zt_k1 rfl (zt_k2 rfl (zi_11 v _) zt_k3) (zt_k1 rfl (zt_k2 rfl (zi_31 v _) zt_k3) (zt_k1 rfl (zt_k2 rfl (zi_15 v _) zt_k3) zt_k0))))) zi_32_c
-- X8_takeWord T/B
noncomputable def zi_33_K : Nat × (List zt_A × List zt_C × List Nat) × zt_W × List zt_O := (3, ([zjr 0, (4, .ofNat 6, .ofNat 0, 0, [])], [], []), [(0, 2, 6)], [(none, [], [], [])])
noncomputable def zi_33_A : zt_An := [(0, [(([some (zjr 0), some (4, .ofNat 6, .ofNat 0, 0, [])], [], [], []), .ofNat 1, [])]), (28, [(([some (zjr 0), some (4, .ofNat 6, .ofNat 0, 0, [])], [], [], []), .ofNat 0, [])])]
noncomputable def zi_33_Ks : List (Nat × List zt_K) := [(33, [((1, some 8, true, []), zi_8_K)]), (48, [((2, some 8, true, []), zi_29_K)]), (60, [((2, some 8, true, []), zi_11_K)])]
noncomputable def zi_33_H : zt_H := ((zo_w3, 3, zo_Sg), (zo_g3, zi_33_K.2.2.1, [0, 1], zo_U), [], (none, zi_33_K.2.2.2, zi_33_K.2.1.1), zi_33_Ks)
theorem zi_33_c : zt_chk zi_33_H (zB_X8_takeWord, [], [28]) 6 zi_33_A 2 (zo_hd, zi_33_K) = true := by decide +kernel
theorem zi_33 (v : Nat) (hd : Nat × Option Nat × Bool × List (Nat × Nat)) : zt_Con zo_Om (zo_Rel v) (hd, zi_33_K) zF_X8_takeWord := zt_con (K := (zo_hd, zi_33_K)) (T := zT_X8_takeWord) (w0 := zo_w3) (G := zo_g3) (zo_UR v) rfl zo_sg rfl rfl rfl (zt_ksok_of (Ks := zi_33_Ks) (zt_k1 rfl (zt_k2 rfl (zi_8 v _) zt_k3) (zt_k1 rfl (zt_k2 rfl (zi_29 v _) zt_k3) (zt_k1 rfl (zt_k2 rfl (zi_11 v _) zt_k3) zt_k0)))) zi_33_c
-- X8_takeAfter T/B
noncomputable def zi_34_K : Nat × (List zt_A × List zt_C × List Nat) × zt_W × List zt_O := (3, ([zjr 0, (4, .ofNat 6, .ofNat 0, 0, []), zj (.ofNat 0) (.ofNat 0), zj (.ofNat 9) (.ofNat 9)], [], []), [(0, 2, 6)], [(some (zj (.ofNat 0) (.ofNat 9)), [], [], []), (some ((0, .ofNat 0, .ofNat 0, 0, [])), [], [], [])])
noncomputable def zi_34_A : zt_An := [(0, [(([some (zjr 0), some (4, .ofNat 6, .ofNat 0, 0, []), some (zj (.ofNat 0) (.ofNat 0)), some (zj (.ofNat 9) (.ofNat 9)), none], [], [], []), .ofNat 1, [])]), (47, [(([some (zjr 0), some (4, .ofNat 6, .ofNat 0, 0, []), some (zj (.ofNat 0) (.ofNat 0)), some (zj (.ofNat 9) (.ofNat 9)), some (zj (.negSucc 2147483647) (.ofNat 1000))], [], [((1, 0, 2), .ofNat 0, .ofNat 0), ((1, 0, 4), .ofNat 2, .ofNat 2)], []), .ofNat 0, [])])]
noncomputable def zi_34_Ks : List (Nat × List zt_K) := [(33, [((1, some 8, true, []), zi_8_K)]), (60, [((2, some 8, true, []), zi_11_K)]), (69, [((2, some 8, true, []), zi_33_K)]), (128, [((1, some 8, true, []), zi_15_K)])]
noncomputable def zi_34_H : zt_H := ((zo_w3, 3, zo_Sg), (zo_g3, zi_34_K.2.2.1, [0, 1, 2, 3], zo_U), [], ((some .int), zi_34_K.2.2.2, zi_34_K.2.1.1), zi_34_Ks)
theorem zi_34_c : zt_chk zi_34_H (zB_X8_takeAfter, [], [47]) 9 zi_34_A 5 (zo_hd, zi_34_K) = true := by decide +kernel
theorem zi_34 (v : Nat) (hd : Nat × Option Nat × Bool × List (Nat × Nat)) : zt_Con zo_Om (zo_Rel v) (hd, zi_34_K) zF_X8_takeAfter := zt_con (K := (zo_hd, zi_34_K)) (T := zT_X8_takeAfter) (w0 := zo_w3) (G := zo_g3) (zo_UR v) rfl zo_sg rfl rfl rfl (zt_ksok_of (Ks := zi_34_Ks) (zt_k1 rfl (zt_k2 rfl (zi_8 v _) zt_k3) (zt_k1 rfl (zt_k2 rfl (zi_11 v _) zt_k3) (zt_k1 rfl (zt_k2 rfl (zi_33 v _) zt_k3) (zt_k1 rfl (zt_k2 rfl (zi_15 v _) zt_k3) zt_k0))))) zi_34_c
-- X8_readSeat T/B
noncomputable def zi_35_K : Nat × (List zt_A × List zt_C × List Nat) × zt_W × List zt_O := (3, ([zjr 0, zjr 2], [], []), [(0, 2, 6), (2, 5, 5), (3, 0, 5)], [(none, [], [], [])])
noncomputable def zi_35_A : zt_An := [(0, [(([some (zjr 0), some (zjr 2), none], [], [], []), .ofNat 1, [])]), (66, [(([some (zjr 0), some (zjr 2), some (0, .ofNat 0, .ofNat 5, 1, [(1, 2, 5, .ofNat 0)])], [], [((1, 2, 5), .ofNat 0, .ofNat 5), ((2, 3, 2), .negSucc 8, .ofNat 9)], []), .ofNat 0, [])])]
noncomputable def zi_35_Ks : List (Nat × List zt_K) := [(48, [((2, some 8, true, []), zi_29_K)]), (60, [((2, some 8, true, []), zi_11_K)]), (69, [((2, some 8, true, []), zi_20_K)]), (75, [((4, some 8, true, []), zi_32_K), ((4, some 8, true, []), zi_34_K)])]
noncomputable def zi_35_H : zt_H := ((zo_w3, 3, zo_Sg), (zo_g3, zi_35_K.2.2.1, [0, 1], zo_U), [(46, .retAddr 5), (96, .retAddr 6), (101, .retAddr 7)], (none, zi_35_K.2.2.2, zi_35_K.2.1.1), zi_35_Ks)
theorem zi_35_c : zt_chk zi_35_H (zB_X8_readSeat, [], [66]) 7 zi_35_A 3 (zo_hd, zi_35_K) = true := by decide +kernel
theorem zi_35 (v : Nat) (hd : Nat × Option Nat × Bool × List (Nat × Nat)) : zt_Con zo_Om (zo_Rel v) (hd, zi_35_K) zF_X8_readSeat := zt_con (K := (zo_hd, zi_35_K)) (T := zT_X8_readSeat) (w0 := zo_w3) (G := zo_g3) (zo_UR v) rfl zo_sg rfl rfl rfl (zt_ksok_of (Ks := zi_35_Ks) (zt_k1 rfl (zt_k2 rfl (zi_29 v _) zt_k3) (zt_k1 rfl (zt_k2 rfl (zi_11 v _) zt_k3) (zt_k1 rfl (zt_k2 rfl (zi_20 v _) zt_k3) (zt_k1 rfl (zt_k2 rfl (zi_32 v _) (zt_k2 rfl (zi_34 v _) zt_k3)) zt_k0))))) zi_35_c
-- X8_isWord T/B
noncomputable def zi_36_K : Nat × (List zt_A × List zt_C × List Nat) × zt_W × List zt_O := (3, ([zjr 0, (4, .ofNat 0, .ofNat 0, 0, [])], [], []), [], [(some (zj (.ofNat 0) (.ofNat 0)), [], [], []), (some (zj (.ofNat 1) (.ofNat 1)), [], [], [])])
theorem zi_36 (v : Nat) (hd : Nat × Option Nat × Bool × List (Nat × Nat)) : zt_Con zo_Om (zo_Rel v) (hd, zi_36_K) zF_X8_isWord := zh_isWord 0 (by decide) v hd
-- X8_takeWord T/B
noncomputable def zi_37_K : Nat × (List zt_A × List zt_C × List Nat) × zt_W × List zt_O := (3, ([zjr 0, (4, .ofNat 0, .ofNat 0, 0, [])], [], []), [(0, 2, 6)], [(none, [], [], [])])
noncomputable def zi_37_A : zt_An := [(0, [(([some (zjr 0), some (4, .ofNat 0, .ofNat 0, 0, [])], [], [], []), .ofNat 1, [])]), (28, [(([some (zjr 0), some (4, .ofNat 0, .ofNat 0, 0, [])], [], [], []), .ofNat 0, [])])]
noncomputable def zi_37_Ks : List (Nat × List zt_K) := [(33, [((1, some 8, true, []), zi_8_K)]), (48, [((2, some 8, true, []), zi_36_K)]), (60, [((2, some 8, true, []), zi_11_K)])]
noncomputable def zi_37_H : zt_H := ((zo_w3, 3, zo_Sg), (zo_g3, zi_37_K.2.2.1, [0, 1], zo_U), [], (none, zi_37_K.2.2.2, zi_37_K.2.1.1), zi_37_Ks)
theorem zi_37_c : zt_chk zi_37_H (zB_X8_takeWord, [], [28]) 6 zi_37_A 2 (zo_hd, zi_37_K) = true := by decide +kernel
theorem zi_37 (v : Nat) (hd : Nat × Option Nat × Bool × List (Nat × Nat)) : zt_Con zo_Om (zo_Rel v) (hd, zi_37_K) zF_X8_takeWord := zt_con (K := (zo_hd, zi_37_K)) (T := zT_X8_takeWord) (w0 := zo_w3) (G := zo_g3) (zo_UR v) rfl zo_sg rfl rfl rfl (zt_ksok_of (Ks := zi_37_Ks) (zt_k1 rfl (zt_k2 rfl (zi_8 v _) zt_k3) (zt_k1 rfl (zt_k2 rfl (zi_36 v _) zt_k3) (zt_k1 rfl (zt_k2 rfl (zi_11 v _) zt_k3) zt_k0)))) zi_37_c
-- X8_isWord T/B
noncomputable def zi_38_K : Nat × (List zt_A × List zt_C × List Nat) × zt_W × List zt_O := (3, ([zjr 0, (4, .ofNat 1, .ofNat 0, 0, [])], [], []), [], [(some (zj (.ofNat 0) (.ofNat 0)), [], [], []), (some (zj (.ofNat 1) (.ofNat 1)), [], [], [])])
theorem zi_38 (v : Nat) (hd : Nat × Option Nat × Bool × List (Nat × Nat)) : zt_Con zo_Om (zo_Rel v) (hd, zi_38_K) zF_X8_isWord := zh_isWord 1 (by decide) v hd
-- X8_takeWord T/B
noncomputable def zi_39_K : Nat × (List zt_A × List zt_C × List Nat) × zt_W × List zt_O := (3, ([zjr 0, (4, .ofNat 1, .ofNat 0, 0, [])], [], []), [(0, 2, 6)], [(none, [], [], [])])
noncomputable def zi_39_A : zt_An := [(0, [(([some (zjr 0), some (4, .ofNat 1, .ofNat 0, 0, [])], [], [], []), .ofNat 1, [])]), (28, [(([some (zjr 0), some (4, .ofNat 1, .ofNat 0, 0, [])], [], [], []), .ofNat 0, [])])]
noncomputable def zi_39_Ks : List (Nat × List zt_K) := [(33, [((1, some 8, true, []), zi_8_K)]), (48, [((2, some 8, true, []), zi_38_K)]), (60, [((2, some 8, true, []), zi_11_K)])]
noncomputable def zi_39_H : zt_H := ((zo_w3, 3, zo_Sg), (zo_g3, zi_39_K.2.2.1, [0, 1], zo_U), [], (none, zi_39_K.2.2.2, zi_39_K.2.1.1), zi_39_Ks)
theorem zi_39_c : zt_chk zi_39_H (zB_X8_takeWord, [], [28]) 6 zi_39_A 2 (zo_hd, zi_39_K) = true := by decide +kernel
theorem zi_39 (v : Nat) (hd : Nat × Option Nat × Bool × List (Nat × Nat)) : zt_Con zo_Om (zo_Rel v) (hd, zi_39_K) zF_X8_takeWord := zt_con (K := (zo_hd, zi_39_K)) (T := zT_X8_takeWord) (w0 := zo_w3) (G := zo_g3) (zo_UR v) rfl zo_sg rfl rfl rfl (zt_ksok_of (Ks := zi_39_Ks) (zt_k1 rfl (zt_k2 rfl (zi_8 v _) zt_k3) (zt_k1 rfl (zt_k2 rfl (zi_38 v _) zt_k3) (zt_k1 rfl (zt_k2 rfl (zi_11 v _) zt_k3) zt_k0)))) zi_39_c
end
section
/-! WHAT THE METHODS KEEP, printed by program (wip/abs/ztprint.py) -/
-- X8_takeAfter T/B
noncomputable def zi_40_K : Nat × (List zt_A × List zt_C × List Nat) × zt_W × List zt_O := (3, ([zjr 0, (4, .ofNat 1, .ofNat 0, 0, []), zj (.ofNat 0) (.ofNat 0), zj (.ofNat 3) (.ofNat 3)], [], []), [(0, 2, 6)], [(some (zj (.ofNat 0) (.ofNat 3)), [], [], []), (some ((0, .ofNat 0, .ofNat 0, 0, [])), [], [], [])])
noncomputable def zi_40_A : zt_An := [(0, [(([some (zjr 0), some (4, .ofNat 1, .ofNat 0, 0, []), some (zj (.ofNat 0) (.ofNat 0)), some (zj (.ofNat 3) (.ofNat 3)), none], [], [], []), .ofNat 1, [])]), (47, [(([some (zjr 0), some (4, .ofNat 1, .ofNat 0, 0, []), some (zj (.ofNat 0) (.ofNat 0)), some (zj (.ofNat 3) (.ofNat 3)), some (zj (.negSucc 2147483647) (.ofNat 1000))], [], [((1, 0, 2), .ofNat 0, .ofNat 0), ((1, 0, 4), .ofNat 2, .ofNat 2)], []), .ofNat 0, [])])]
noncomputable def zi_40_Ks : List (Nat × List zt_K) := [(33, [((1, some 8, true, []), zi_8_K)]), (60, [((2, some 8, true, []), zi_11_K)]), (69, [((2, some 8, true, []), zi_39_K)]), (128, [((1, some 8, true, []), zi_15_K)])]
noncomputable def zi_40_H : zt_H := ((zo_w3, 3, zo_Sg), (zo_g3, zi_40_K.2.2.1, [0, 1, 2, 3], zo_U), [], ((some .int), zi_40_K.2.2.2, zi_40_K.2.1.1), zi_40_Ks)
theorem zi_40_c : zt_chk zi_40_H (zB_X8_takeAfter, [], [47]) 9 zi_40_A 5 (zo_hd, zi_40_K) = true := by decide +kernel
theorem zi_40 (v : Nat) (hd : Nat × Option Nat × Bool × List (Nat × Nat)) : zt_Con zo_Om (zo_Rel v) (hd, zi_40_K) zF_X8_takeAfter := zt_con (K := (zo_hd, zi_40_K)) (T := zT_X8_takeAfter) (w0 := zo_w3) (G := zo_g3) (zo_UR v) rfl zo_sg rfl rfl rfl (zt_ksok_of (Ks := zi_40_Ks) (zt_k1 rfl (zt_k2 rfl (zi_8 v _) zt_k3) (zt_k1 rfl (zt_k2 rfl (zi_11 v _) zt_k3) (zt_k1 rfl (zt_k2 rfl (zi_39 v _) zt_k3) (zt_k1 rfl (zt_k2 rfl (zi_15 v _) zt_k3) zt_k0))))) zi_40_c
-- X8_isWord T/B
noncomputable def zi_41_K : Nat × (List zt_A × List zt_C × List Nat) × zt_W × List zt_O := (3, ([zjr 0, (4, .ofNat 2, .ofNat 0, 0, [])], [], []), [], [(some (zj (.ofNat 0) (.ofNat 0)), [], [], []), (some (zj (.ofNat 1) (.ofNat 1)), [], [], [])])
theorem zi_41 (v : Nat) (hd : Nat × Option Nat × Bool × List (Nat × Nat)) : zt_Con zo_Om (zo_Rel v) (hd, zi_41_K) zF_X8_isWord := zh_isWord 2 (by decide) v hd
-- X8_takeWord T/B
noncomputable def zi_42_K : Nat × (List zt_A × List zt_C × List Nat) × zt_W × List zt_O := (3, ([zjr 0, (4, .ofNat 2, .ofNat 0, 0, [])], [], []), [(0, 2, 6)], [(none, [], [], [])])
noncomputable def zi_42_A : zt_An := [(0, [(([some (zjr 0), some (4, .ofNat 2, .ofNat 0, 0, [])], [], [], []), .ofNat 1, [])]), (28, [(([some (zjr 0), some (4, .ofNat 2, .ofNat 0, 0, [])], [], [], []), .ofNat 0, [])])]
noncomputable def zi_42_Ks : List (Nat × List zt_K) := [(33, [((1, some 8, true, []), zi_8_K)]), (48, [((2, some 8, true, []), zi_41_K)]), (60, [((2, some 8, true, []), zi_11_K)])]
noncomputable def zi_42_H : zt_H := ((zo_w3, 3, zo_Sg), (zo_g3, zi_42_K.2.2.1, [0, 1], zo_U), [], (none, zi_42_K.2.2.2, zi_42_K.2.1.1), zi_42_Ks)
theorem zi_42_c : zt_chk zi_42_H (zB_X8_takeWord, [], [28]) 6 zi_42_A 2 (zo_hd, zi_42_K) = true := by decide +kernel
theorem zi_42 (v : Nat) (hd : Nat × Option Nat × Bool × List (Nat × Nat)) : zt_Con zo_Om (zo_Rel v) (hd, zi_42_K) zF_X8_takeWord := zt_con (K := (zo_hd, zi_42_K)) (T := zT_X8_takeWord) (w0 := zo_w3) (G := zo_g3) (zo_UR v) rfl zo_sg rfl rfl rfl (zt_ksok_of (Ks := zi_42_Ks) (zt_k1 rfl (zt_k2 rfl (zi_8 v _) zt_k3) (zt_k1 rfl (zt_k2 rfl (zi_41 v _) zt_k3) (zt_k1 rfl (zt_k2 rfl (zi_11 v _) zt_k3) zt_k0)))) zi_42_c
-- X8_takeAfter T/B
noncomputable def zi_43_K : Nat × (List zt_A × List zt_C × List Nat) × zt_W × List zt_O := (3, ([zjr 0, (4, .ofNat 2, .ofNat 0, 0, []), zj (.ofNat 0) (.ofNat 0), zj (.ofNat 99) (.ofNat 99)], [], []), [(0, 2, 6)], [(some (zj (.ofNat 0) (.ofNat 99)), [], [], []), (some ((0, .ofNat 0, .ofNat 0, 0, [])), [], [], [])])
noncomputable def zi_43_A : zt_An := [(0, [(([some (zjr 0), some (4, .ofNat 2, .ofNat 0, 0, []), some (zj (.ofNat 0) (.ofNat 0)), some (zj (.ofNat 99) (.ofNat 99)), none], [], [], []), .ofNat 1, [])]), (47, [(([some (zjr 0), some (4, .ofNat 2, .ofNat 0, 0, []), some (zj (.ofNat 0) (.ofNat 0)), some (zj (.ofNat 99) (.ofNat 99)), some (zj (.negSucc 2147483647) (.ofNat 1000))], [], [((1, 0, 2), .ofNat 0, .ofNat 0), ((1, 0, 4), .ofNat 2, .ofNat 2)], []), .ofNat 0, [])])]
noncomputable def zi_43_Ks : List (Nat × List zt_K) := [(33, [((1, some 8, true, []), zi_8_K)]), (60, [((2, some 8, true, []), zi_11_K)]), (69, [((2, some 8, true, []), zi_42_K)]), (128, [((1, some 8, true, []), zi_15_K)])]
noncomputable def zi_43_H : zt_H := ((zo_w3, 3, zo_Sg), (zo_g3, zi_43_K.2.2.1, [0, 1, 2, 3], zo_U), [], ((some .int), zi_43_K.2.2.2, zi_43_K.2.1.1), zi_43_Ks)
theorem zi_43_c : zt_chk zi_43_H (zB_X8_takeAfter, [], [47]) 9 zi_43_A 5 (zo_hd, zi_43_K) = true := by decide +kernel
theorem zi_43 (v : Nat) (hd : Nat × Option Nat × Bool × List (Nat × Nat)) : zt_Con zo_Om (zo_Rel v) (hd, zi_43_K) zF_X8_takeAfter := zt_con (K := (zo_hd, zi_43_K)) (T := zT_X8_takeAfter) (w0 := zo_w3) (G := zo_g3) (zo_UR v) rfl zo_sg rfl rfl rfl (zt_ksok_of (Ks := zi_43_Ks) (zt_k1 rfl (zt_k2 rfl (zi_8 v _) zt_k3) (zt_k1 rfl (zt_k2 rfl (zi_11 v _) zt_k3) (zt_k1 rfl (zt_k2 rfl (zi_42 v _) zt_k3) (zt_k1 rfl (zt_k2 rfl (zi_15 v _) zt_k3) zt_k0))))) zi_43_c
-- X8_isWord T/B
noncomputable def zi_44_K : Nat × (List zt_A × List zt_C × List Nat) × zt_W × List zt_O := (3, ([zjr 0, (4, .ofNat 3, .ofNat 0, 0, [])], [], []), [], [(some (zj (.ofNat 0) (.ofNat 0)), [], [], []), (some (zj (.ofNat 1) (.ofNat 1)), [], [], [])])
theorem zi_44 (v : Nat) (hd : Nat × Option Nat × Bool × List (Nat × Nat)) : zt_Con zo_Om (zo_Rel v) (hd, zi_44_K) zF_X8_isWord := zh_isWord 3 (by decide) v hd
-- X8_takeWord T/B
noncomputable def zi_45_K : Nat × (List zt_A × List zt_C × List Nat) × zt_W × List zt_O := (3, ([zjr 0, (4, .ofNat 3, .ofNat 0, 0, [])], [], []), [(0, 2, 6)], [(none, [], [], [])])
noncomputable def zi_45_A : zt_An := [(0, [(([some (zjr 0), some (4, .ofNat 3, .ofNat 0, 0, [])], [], [], []), .ofNat 1, [])]), (28, [(([some (zjr 0), some (4, .ofNat 3, .ofNat 0, 0, [])], [], [], []), .ofNat 0, [])])]
noncomputable def zi_45_Ks : List (Nat × List zt_K) := [(33, [((1, some 8, true, []), zi_8_K)]), (48, [((2, some 8, true, []), zi_44_K)]), (60, [((2, some 8, true, []), zi_11_K)])]
noncomputable def zi_45_H : zt_H := ((zo_w3, 3, zo_Sg), (zo_g3, zi_45_K.2.2.1, [0, 1], zo_U), [], (none, zi_45_K.2.2.2, zi_45_K.2.1.1), zi_45_Ks)
theorem zi_45_c : zt_chk zi_45_H (zB_X8_takeWord, [], [28]) 6 zi_45_A 2 (zo_hd, zi_45_K) = true := by decide +kernel
theorem zi_45 (v : Nat) (hd : Nat × Option Nat × Bool × List (Nat × Nat)) : zt_Con zo_Om (zo_Rel v) (hd, zi_45_K) zF_X8_takeWord := zt_con (K := (zo_hd, zi_45_K)) (T := zT_X8_takeWord) (w0 := zo_w3) (G := zo_g3) (zo_UR v) rfl zo_sg rfl rfl rfl (zt_ksok_of (Ks := zi_45_Ks) (zt_k1 rfl (zt_k2 rfl (zi_8 v _) zt_k3) (zt_k1 rfl (zt_k2 rfl (zi_44 v _) zt_k3) (zt_k1 rfl (zt_k2 rfl (zi_11 v _) zt_k3) zt_k0)))) zi_45_c
-- X8_takeAfter T/B
noncomputable def zi_46_K : Nat × (List zt_A × List zt_C × List Nat) × zt_W × List zt_O := (3, ([zjr 0, (4, .ofNat 3, .ofNat 0, 0, []), zj (.ofNat 1) (.ofNat 1), zj (.ofNat 30) (.ofNat 30)], [], []), [(0, 2, 6)], [(some (zj (.ofNat 1) (.ofNat 30)), [], [], []), (some ((0, .ofNat 0, .ofNat 0, 0, [])), [], [], [])])
noncomputable def zi_46_A : zt_An := [(0, [(([some (zjr 0), some (4, .ofNat 3, .ofNat 0, 0, []), some (zj (.ofNat 1) (.ofNat 1)), some (zj (.ofNat 30) (.ofNat 30)), none], [], [], []), .ofNat 1, [])]), (47, [(([some (zjr 0), some (4, .ofNat 3, .ofNat 0, 0, []), some (zj (.ofNat 1) (.ofNat 1)), some (zj (.ofNat 30) (.ofNat 30)), some (zj (.negSucc 2147483647) (.ofNat 1000))], [], [((1, 0, 2), .ofNat 0, .ofNat 0), ((1, 0, 4), .ofNat 2, .ofNat 2)], []), .ofNat 0, [])])]
noncomputable def zi_46_Ks : List (Nat × List zt_K) := [(33, [((1, some 8, true, []), zi_8_K)]), (60, [((2, some 8, true, []), zi_11_K)]), (69, [((2, some 8, true, []), zi_45_K)]), (128, [((1, some 8, true, []), zi_15_K)])]
noncomputable def zi_46_H : zt_H := ((zo_w3, 3, zo_Sg), (zo_g3, zi_46_K.2.2.1, [0, 1, 2, 3], zo_U), [], ((some .int), zi_46_K.2.2.2, zi_46_K.2.1.1), zi_46_Ks)
theorem zi_46_c : zt_chk zi_46_H (zB_X8_takeAfter, [], [47]) 9 zi_46_A 5 (zo_hd, zi_46_K) = true := by decide +kernel
theorem zi_46 (v : Nat) (hd : Nat × Option Nat × Bool × List (Nat × Nat)) : zt_Con zo_Om (zo_Rel v) (hd, zi_46_K) zF_X8_takeAfter := zt_con (K := (zo_hd, zi_46_K)) (T := zT_X8_takeAfter) (w0 := zo_w3) (G := zo_g3) (zo_UR v) rfl zo_sg rfl rfl rfl (zt_ksok_of (Ks := zi_46_Ks) (zt_k1 rfl (zt_k2 rfl (zi_8 v _) zt_k3) (zt_k1 rfl (zt_k2 rfl (zi_11 v _) zt_k3) (zt_k1 rfl (zt_k2 rfl (zi_45 v _) zt_k3) (zt_k1 rfl (zt_k2 rfl (zi_15 v _) zt_k3) zt_k0))))) zi_46_c
-- X8_isWord T/B
noncomputable def zi_47_K : Nat × (List zt_A × List zt_C × List Nat) × zt_W × List zt_O := (3, ([zjr 0, (4, .ofNat 4, .ofNat 0, 0, [])], [], []), [], [(some (zj (.ofNat 0) (.ofNat 0)), [], [], []), (some (zj (.ofNat 1) (.ofNat 1)), [], [], [])])
theorem zi_47 (v : Nat) (hd : Nat × Option Nat × Bool × List (Nat × Nat)) : zt_Con zo_Om (zo_Rel v) (hd, zi_47_K) zF_X8_isWord := zh_isWord 4 (by decide) v hd
-- X8_takeWord T/B
noncomputable def zi_48_K : Nat × (List zt_A × List zt_C × List Nat) × zt_W × List zt_O := (3, ([zjr 0, (4, .ofNat 4, .ofNat 0, 0, [])], [], []), [(0, 2, 6)], [(none, [], [], [])])
noncomputable def zi_48_A : zt_An := [(0, [(([some (zjr 0), some (4, .ofNat 4, .ofNat 0, 0, [])], [], [], []), .ofNat 1, [])]), (28, [(([some (zjr 0), some (4, .ofNat 4, .ofNat 0, 0, [])], [], [], []), .ofNat 0, [])])]
noncomputable def zi_48_Ks : List (Nat × List zt_K) := [(33, [((1, some 8, true, []), zi_8_K)]), (48, [((2, some 8, true, []), zi_47_K)]), (60, [((2, some 8, true, []), zi_11_K)])]
noncomputable def zi_48_H : zt_H := ((zo_w3, 3, zo_Sg), (zo_g3, zi_48_K.2.2.1, [0, 1], zo_U), [], (none, zi_48_K.2.2.2, zi_48_K.2.1.1), zi_48_Ks)
theorem zi_48_c : zt_chk zi_48_H (zB_X8_takeWord, [], [28]) 6 zi_48_A 2 (zo_hd, zi_48_K) = true := by decide +kernel
theorem zi_48 (v : Nat) (hd : Nat × Option Nat × Bool × List (Nat × Nat)) : zt_Con zo_Om (zo_Rel v) (hd, zi_48_K) zF_X8_takeWord := zt_con (K := (zo_hd, zi_48_K)) (T := zT_X8_takeWord) (w0 := zo_w3) (G := zo_g3) (zo_UR v) rfl zo_sg rfl rfl rfl (zt_ksok_of (Ks := zi_48_Ks) (zt_k1 rfl (zt_k2 rfl (zi_8 v _) zt_k3) (zt_k1 rfl (zt_k2 rfl (zi_47 v _) zt_k3) (zt_k1 rfl (zt_k2 rfl (zi_11 v _) zt_k3) zt_k0)))) zi_48_c
-- X8_takeAfter T/B
noncomputable def zi_49_K : Nat × (List zt_A × List zt_C × List Nat) × zt_W × List zt_O := (3, ([zjr 0, (4, .ofNat 4, .ofNat 0, 0, []), zj (.ofNat 0) (.ofNat 0), zj (.ofNat 10) (.ofNat 10)], [], []), [(0, 2, 6)], [(some (zj (.ofNat 0) (.ofNat 10)), [], [], []), (some ((0, .ofNat 0, .ofNat 0, 0, [])), [], [], [])])
noncomputable def zi_49_A : zt_An := [(0, [(([some (zjr 0), some (4, .ofNat 4, .ofNat 0, 0, []), some (zj (.ofNat 0) (.ofNat 0)), some (zj (.ofNat 10) (.ofNat 10)), none], [], [], []), .ofNat 1, [])]), (47, [(([some (zjr 0), some (4, .ofNat 4, .ofNat 0, 0, []), some (zj (.ofNat 0) (.ofNat 0)), some (zj (.ofNat 10) (.ofNat 10)), some (zj (.negSucc 2147483647) (.ofNat 1000))], [], [((1, 0, 2), .ofNat 0, .ofNat 0), ((1, 0, 4), .ofNat 2, .ofNat 2)], []), .ofNat 0, [])])]
noncomputable def zi_49_Ks : List (Nat × List zt_K) := [(33, [((1, some 8, true, []), zi_8_K)]), (60, [((2, some 8, true, []), zi_11_K)]), (69, [((2, some 8, true, []), zi_48_K)]), (128, [((1, some 8, true, []), zi_15_K)])]
noncomputable def zi_49_H : zt_H := ((zo_w3, 3, zo_Sg), (zo_g3, zi_49_K.2.2.1, [0, 1, 2, 3], zo_U), [], ((some .int), zi_49_K.2.2.2, zi_49_K.2.1.1), zi_49_Ks)
theorem zi_49_c : zt_chk zi_49_H (zB_X8_takeAfter, [], [47]) 9 zi_49_A 5 (zo_hd, zi_49_K) = true := by decide +kernel
theorem zi_49 (v : Nat) (hd : Nat × Option Nat × Bool × List (Nat × Nat)) : zt_Con zo_Om (zo_Rel v) (hd, zi_49_K) zF_X8_takeAfter := zt_con (K := (zo_hd, zi_49_K)) (T := zT_X8_takeAfter) (w0 := zo_w3) (G := zo_g3) (zo_UR v) rfl zo_sg rfl rfl rfl (zt_ksok_of (Ks := zi_49_Ks) (zt_k1 rfl (zt_k2 rfl (zi_8 v _) zt_k3) (zt_k1 rfl (zt_k2 rfl (zi_11 v _) zt_k3) (zt_k1 rfl (zt_k2 rfl (zi_48 v _) zt_k3) (zt_k1 rfl (zt_k2 rfl (zi_15 v _) zt_k3) zt_k0))))) zi_49_c
-- X8_readFirst T/B
noncomputable def zi_50_K : Nat × (List zt_A × List zt_C × List Nat) × zt_W × List zt_O := (3, ([zjr 0, zjr 2], [], []), [(0, 2, 6), (2, 1, 4)], [(none, [], [], [])])
noncomputable def zi_50_A : zt_An := [(0, [(([some (zjr 0), some (zjr 2)], [], [], []), .ofNat 0, [])])]
noncomputable def zi_50_Ks : List (Nat × List zt_K) := [(69, [((2, some 8, true, []), zi_37_K)]), (75, [((4, some 8, true, []), zi_40_K), ((4, some 8, true, []), zi_43_K), ((4, some 8, true, []), zi_46_K), ((4, some 8, true, []), zi_49_K)])]
noncomputable def zi_50_H : zt_H := ((zo_w3, 3, zo_Sg), (zo_g3, zi_50_K.2.2.1, [0, 1], zo_U), [(67, .retAddr 0), (73, .retAddr 1), (81, .retAddr 2), (85, .retAddr 3), (89, .retAddr 4)], (none, zi_50_K.2.2.2, zi_50_K.2.1.1), zi_50_Ks)
theorem zi_50_c : zt_chk zi_50_H (zB_X8_readFirst, [], []) 7 zi_50_A 2 (zo_hd, zi_50_K) = true := by decide +kernel
theorem zi_50 (v : Nat) (hd : Nat × Option Nat × Bool × List (Nat × Nat)) : zt_Con zo_Om (zo_Rel v) (hd, zi_50_K) zF_X8_readFirst := zt_con (K := (zo_hd, zi_50_K)) (T := zT_X8_readFirst) (w0 := zo_w3) (G := zo_g3) (zo_UR v) rfl zo_sg rfl rfl rfl (zt_ksok_of (Ks := zi_50_Ks) (zt_k1 rfl (zt_k2 rfl (zi_37 v _) zt_k3) (zt_k1 rfl (zt_k2 rfl (zi_40 v _) (zt_k2 rfl (zi_43 v _) (zt_k2 rfl (zi_46 v _) (zt_k2 rfl (zi_49 v _) zt_k3)))) zt_k0))) zi_50_c
-- X8_takeSign T/B
noncomputable def zi_51_K : Nat × (List zt_A × List zt_C × List Nat) × zt_W × List zt_O := (3, ([zjr 0], [], []), [(0, 2, 6)], [(none, [], [], [])])
noncomputable def zi_51_A : zt_An := [(0, [(([some (zjr 0)], [], [], []), .ofNat 1, [])]), (28, [(([some (zjr 0)], [], [], []), .ofNat 0, [])])]
noncomputable def zi_51_Ks : List (Nat × List zt_K) := [(33, [((1, some 8, true, []), zi_8_K)]), (60, [((2, some 8, true, []), zi_11_K)])]
noncomputable def zi_51_H : zt_H := ((zo_w3, 3, zo_Sg), (zo_g3, zi_51_K.2.2.1, [0], zo_U), [], (none, zi_51_K.2.2.2, zi_51_K.2.1.1), zi_51_Ks)
theorem zi_51_c : zt_chk zi_51_H (zB_X8_takeSign, [], [28]) 5 zi_51_A 1 (zo_hd, zi_51_K) = true := by decide +kernel
theorem zi_51 (v : Nat) (hd : Nat × Option Nat × Bool × List (Nat × Nat)) : zt_Con zo_Om (zo_Rel v) (hd, zi_51_K) zF_X8_takeSign := zt_con (K := (zo_hd, zi_51_K)) (T := zT_X8_takeSign) (w0 := zo_w3) (G := zo_g3) (zo_UR v) rfl zo_sg rfl rfl rfl (zt_ksok_of (Ks := zi_51_Ks) (zt_k1 rfl (zt_k2 rfl (zi_8 v _) zt_k3) (zt_k1 rfl (zt_k2 rfl (zi_11 v _) zt_k3) zt_k0))) zi_51_c
-- X8_read T/B
noncomputable def zi_52_K : Nat × (List zt_A × List zt_C × List Nat) × zt_W × List zt_O := (3, ([zjr 0, zjr 2], [], []), [(0, 2, 6), (2, 0, 7), (3, 0, 5), (4, 0, 4), (5, 0, 4), (6, 0, 4), (7, 0, 4), (8, 0, 4)], [(some ((0, .ofNat 0, .ofNat 0, 0, [])), [], [], []), (some ((0, .ofNat 1, .ofNat 1, 0, [])), [], [], [])])
noncomputable def zi_52_A : zt_An := [(0, [(([some (zjr 0), some (zjr 2), none], [], [], []), .ofNat 1604, [])]), (25, [(([some (zjr 0), some (zjr 2), some (zj (.ofNat 0) (.ofNat 800))], [], [], []), .ofNat 1603, [(.negSucc 1, 2)])]), (100, [(([some (zjr 0), some (zjr 2), some (zj (.ofNat 0) (.ofNat 799))], [], [((1, 2, 0), .negSucc 2147483647, .ofNat 2147483647)], []), .ofNat 1602, [(.negSucc 1, 2)])]), (120, [(([some (zjr 0), some (zjr 2), some (zj (.ofNat 0) (.ofNat 800))], [], [], []), .ofNat 1, [])]), (132, [(([some (zjr 0), some (zjr 2), some (zj (.ofNat 0) (.ofNat 800))], [(0, .ofNat 0, .ofNat 0, 0, [])], [((1, 0, 2), .ofNat 1, .ofNat 3)], []), .ofNat 0, []), (([some (zjr 0), some (zjr 2), some (zj (.ofNat 0) (.ofNat 800))], [(0, .ofNat 1, .ofNat 1, 0, [])], [((1, 0, 2), .ofNat 0, .ofNat 0)], []), .ofNat 0, [])])]
noncomputable def zi_52_Ks : List (Nat × List zt_K) := [(28, [((1, some 0, false, [(0, 10)]), zi_4_K)]), (33, [((1, some 8, true, []), zi_8_K)]), (42, [((2, some 8, true, []), zi_50_K)]), (48, [((2, some 8, true, []), zi_9_K), ((2, some 8, true, []), zi_10_K)]), (52, [((2, some 8, true, []), zi_35_K)]), (57, [((2, some 8, true, []), zi_28_K)]), (60, [((2, some 8, true, []), zi_11_K)]), (64, [((1, some 8, true, []), zi_51_K)])]
noncomputable def zi_52_H : zt_H := ((zo_w3, 3, zo_Sg), (zo_g3, zi_52_K.2.2.1, [0, 1], zo_U), [(46, .retAddr 5), (55, .retAddr 8)], ((some .boolean), zi_52_K.2.2.2, zi_52_K.2.1.1), zi_52_Ks)
theorem zi_52_c : zt_chk zi_52_H (zB_X8_read, [], [25, 100, 120, 132]) 11 zi_52_A 3 (zo_hd, zi_52_K) = true := by decide +kernel
theorem zi_52 (v : Nat) (hd : Nat × Option Nat × Bool × List (Nat × Nat)) : zt_Con zo_Om (zo_Rel v) (hd, zi_52_K) zF_X8_read := zt_con (K := (zo_hd, zi_52_K)) (T := zT_X8_read) (w0 := zo_w3) (G := zo_g3) (zo_UR v) rfl zo_sg rfl rfl rfl (zt_ksok_of (Ks := zi_52_Ks) (zt_k1 rfl (zt_k2 rfl (zi_4 v _) zt_k3) (zt_k1 rfl (zt_k2 rfl (zi_8 v _) zt_k3) (zt_k1 rfl (zt_k2 rfl (zi_50 v _) zt_k3) (zt_k1 rfl (zt_k2 rfl (zi_9 v _) (zt_k2 rfl (zi_10 v _) zt_k3)) (zt_k1 rfl (zt_k2 rfl (zi_35 v _) zt_k3) (zt_k1 rfl (zt_k2 rfl (zi_28 v _) zt_k3) (zt_k1 rfl (zt_k2 rfl (zi_11 v _) zt_k3) (zt_k1 rfl (zt_k2 rfl (zi_51 v _) zt_k3) zt_k0))))))))) zi_52_c
-- X0_copyFrom B/B
noncomputable def zi_53_K : Nat × (List zt_A × List zt_C × List Nat) × zt_W × List zt_O := (4, ([zjr 0, zjr 10], [], []), [(0, 0, 7), (1, 0, 5), (2, 0, 4), (3, 0, 4), (4, 0, 4), (5, 0, 4), (6, 0, 4), (7, 0, 40), (8, 0, 40), (9, 0, 40)], [(none, [], [], [])])
noncomputable def zi_53_A : zt_An := [(0, [(([some (zjr 0), some (zjr 10), none], [], [], []), .ofNat 56, [])]), (66, [(([some (zjr 0), some (zjr 10), some (zj (.ofNat 0) (.ofNat 6))], [], [((1, 0, 0), .negSucc 2147483647, .ofNat 2147483647), ((1, 0, 1), .ofNat 0, .ofNat 3), ((1, 0, 2), .ofNat 0, .ofNat 99), ((1, 0, 3), .ofNat 0, .ofNat 30), ((1, 0, 4), .ofNat 0, .ofNat 10), ((1, 0, 5), .ofNat 0, .ofNat 6), ((1, 0, 6), .ofNat 0, .ofNat 5), ((1, 0, 7), .ofNat 0, .ofNat 41)], []), .ofNat 55, [(.negSucc 0, 2)])]), (92, [(([some (zjr 0), some (zjr 10), some (zj (.ofNat 0) (.ofNat 5))], [], [((1, 0, 0), .negSucc 2147483647, .ofNat 2147483647), ((1, 0, 1), .ofNat 0, .ofNat 3), ((1, 0, 2), .ofNat 0, .ofNat 99), ((1, 0, 3), .ofNat 0, .ofNat 30), ((1, 0, 4), .ofNat 0, .ofNat 10), ((1, 0, 5), .ofNat 0, .ofNat 6), ((1, 0, 6), .ofNat 0, .ofNat 5), ((1, 0, 7), .ofNat 0, .ofNat 41)], []), .ofNat 48, [(.negSucc 0, 2)])]), (165, [(([some (zjr 0), some (zjr 10), some (zj (.ofNat 0) (.ofNat 41))], [], [((1, 0, 0), .negSucc 2147483647, .ofNat 2147483647), ((1, 0, 1), .ofNat 0, .ofNat 3), ((1, 0, 2), .ofNat 0, .ofNat 99), ((1, 0, 3), .ofNat 0, .ofNat 30), ((1, 0, 4), .ofNat 0, .ofNat 10), ((1, 0, 5), .ofNat 0, .ofNat 6), ((1, 0, 6), .ofNat 0, .ofNat 5), ((1, 0, 7), .ofNat 0, .ofNat 41)], []), .ofNat 42, [(.negSucc 0, 2)])]), (221, [(([some (zjr 0), some (zjr 10), some (zj (.ofNat 0) (.ofNat 41))], [], [((1, 0, 0), .negSucc 2147483647, .ofNat 2147483647), ((1, 0, 1), .ofNat 0, .ofNat 3), ((1, 0, 2), .ofNat 0, .ofNat 99), ((1, 0, 3), .ofNat 0, .ofNat 30), ((1, 0, 4), .ofNat 0, .ofNat 10), ((1, 0, 5), .ofNat 0, .ofNat 6), ((1, 0, 6), .ofNat 0, .ofNat 5), ((1, 0, 7), .ofNat 0, .ofNat 41)], []), .ofNat 0, [])])]
noncomputable def zi_53_Ks : List (Nat × List zt_K) := []
noncomputable def zi_53_H : zt_H := ((zo_w4, 4, zo_Sg), (zo_g4, zi_53_K.2.2.1, [0, 1], zo_U), [], (none, zi_53_K.2.2.2, zi_53_K.2.1.1), zi_53_Ks)
theorem zi_53_c : zt_chk zi_53_H (zB_X0_copyFrom, [], [66, 92, 165, 221]) 4 zi_53_A 3 (zo_hd, zi_53_K) = true := by decide +kernel
theorem zi_53 (v : Nat) (hd : Nat × Option Nat × Bool × List (Nat × Nat)) : zt_Con zo_Om (zo_Rel v) (hd, zi_53_K) zF_X0_copyFrom := zt_con (K := (zo_hd, zi_53_K)) (T := zT_X0_copyFrom) (w0 := zo_w4) (G := zo_g4) (zo_UR v) rfl zo_sg rfl rfl rfl (zt_ksok_of (Ks := zi_53_Ks) zt_k0) zi_53_c
-- X9_forgetAnswers X
noncomputable def zi_54_K : Nat × (List zt_A × List zt_C × List Nat) × zt_W × List zt_O := (1, ([zjr 0], [], []), [(21, 1, 1), (68, 0, 0), (72, 0, 0)], [(none, [], [], [])])
noncomputable def zi_54_A : zt_An := [(0, [(([some (zjr 0)], [], [], []), .ofNat 0, [])])]
noncomputable def zi_54_Ks : List (Nat × List zt_K) := []
noncomputable def zi_54_H : zt_H := ((zo_w1, 1, zo_Sg), (zo_g1, zi_54_K.2.2.1, [0], zo_U), [], (none, zi_54_K.2.2.2, zi_54_K.2.1.1), zi_54_Ks)
theorem zi_54_c : zt_chk zi_54_H (zB_X9_forgetAnswers, [], []) 2 zi_54_A 1 (zo_hd, zi_54_K) = true := by decide +kernel
theorem zi_54 (v : Nat) (hd : Nat × Option Nat × Bool × List (Nat × Nat)) : zt_Con zo_Om (zo_Rel v) (hd, zi_54_K) zF_X9_forgetAnswers := zt_con (K := (zo_hd, zi_54_K)) (T := zT_X9_forgetAnswers) (w0 := zo_w1) (G := zo_g1) (zo_UR v) rfl zo_sg rfl rfl rfl (zt_ksok_of (Ks := zi_54_Ks) zt_k0) zi_54_c
-- X9_bench X
noncomputable def zi_55_K : Nat × (List zt_A × List zt_C × List Nat) × zt_W × List zt_O := (1, ([zjr 0], [], []), [(1, 0, 7), (2, 0, 5), (3, 0, 4), (4, 0, 4), (5, 0, 4), (6, 0, 4), (7, 0, 4), (8, 0, 40), (9, 0, 40), (10, 0, 40), (11, 0, 7), (12, 0, 5), (13, 0, 4), (14, 0, 4), (15, 0, 4), (16, 0, 4), (17, 0, 4), (21, 1, 1), (51, 1, 6), (68, 0, 0), (72, 0, 0)], [(some (zt_top), [], [], [])])
noncomputable def zi_55_A : zt_An := [(0, [(([some (zjr 0), none], [], [], []), .ofNat 0, [])])]
noncomputable def zi_55_Ks : List (Nat × List zt_K) := [(98, [((2, some 8, false, [(0, 2), (1, 10)]), zi_52_K)]), (102, [((2, some 0, false, [(0, 10), (1, 10)]), zi_53_K)]), (106, [((1, some 9, true, []), zi_54_K)])]
noncomputable def zi_55_H : zt_H := ((zo_w1, 1, zo_Sg), (zo_g1, zi_55_K.2.2.1, [0], zo_U), [], ((some .int), zi_55_K.2.2.2, zi_55_K.2.1.1), zi_55_Ks)
theorem zi_55_c : zt_chk zi_55_H (zB_X9_bench, [], []) 6 zi_55_A 2 (zo_hd, zi_55_K) = true := by decide +kernel
theorem zi_55 (v : Nat) (hd : Nat × Option Nat × Bool × List (Nat × Nat)) : zt_Con zo_Om (zo_Rel v) (hd, zi_55_K) zF_X9_bench := zt_con (K := (zo_hd, zi_55_K)) (T := zT_X9_bench) (w0 := zo_w1) (G := zo_g1) (zo_UR v) rfl zo_sg rfl rfl rfl (zt_ksok_of (Ks := zi_55_Ks) (zt_k1 rfl (zt_k2 rfl (zi_52 v _) zt_k3) (zt_k1 rfl (zt_k2 rfl (zi_53 v _) zt_k3) (zt_k1 rfl (zt_k2 rfl (zi_54 v _) zt_k3) zt_k0)))) zi_55_c
-- X9_fault X
noncomputable def zi_56_K : Nat × (List zt_A × List zt_C × List Nat) × zt_W × List zt_O := (1, ([zjr 0, zt_top], [], []), [], [(some (zj (.negSucc 0) (.ofNat 800)), [], [], [])])
noncomputable def zi_56_A : zt_An := [(0, [(([some (zjr 0), some zt_top], [], [], []), .ofNat 1, [])]), (28, [(([some (zjr 0), some zt_top], [zj (.negSucc 0) (.ofNat 800)], [], []), .ofNat 0, [])])]
noncomputable def zi_56_Ks : List (Nat × List zt_K) := []
noncomputable def zi_56_H : zt_H := ((zo_w1, 1, zo_Sg), (zo_g1, zi_56_K.2.2.1, [0, 1], zo_U), [], ((some .int), zi_56_K.2.2.2, zi_56_K.2.1.1), zi_56_Ks)
theorem zi_56_c : zt_chk zi_56_H (zB_X9_fault, [], [28]) 4 zi_56_A 2 (zo_hd, zi_56_K) = true := by decide +kernel
theorem zi_56 (v : Nat) (hd : Nat × Option Nat × Bool × List (Nat × Nat)) : zt_Con zo_Om (zo_Rel v) (hd, zi_56_K) zF_X9_fault := zt_con (K := (zo_hd, zi_56_K)) (T := zT_X9_fault) (w0 := zo_w1) (G := zo_g1) (zo_UR v) rfl zo_sg rfl rfl rfl (zt_ksok_of (Ks := zi_56_Ks) zt_k0) zi_56_c
-- X0_hasSeat B
noncomputable def zi_57_K : Nat × (List zt_A × List zt_C × List Nat) × zt_W × List zt_O := (2, ([zjr 0, zt_top], [], []), [], [(some ((0, .ofNat 1, .ofNat 1, 0, [])), [(1, .ofNat 0, .ofNat 5)], [], []), (some ((0, .ofNat 0, .ofNat 0, 0, [])), [], [], [])])
noncomputable def zi_57_A : zt_An := [(0, [(([some (zjr 0), some zt_top], [], [], []), .ofNat 2, [])]), (16, [(([some (zjr 0), some zt_top], [], [], []), .ofNat 1, [])]), (17, [(([some (zjr 0), some (zj (.ofNat 0) (.ofNat 5))], [(0, .ofNat 1, .ofNat 1, 0, [])], [((1, 0, 5), .ofNat 1, .ofNat 6)], []), .ofNat 0, []), (([some (zjr 0), some zt_top], [(0, .ofNat 0, .ofNat 0, 0, [])], [], []), .ofNat 0, [])])]
noncomputable def zi_57_Ks : List (Nat × List zt_K) := []
noncomputable def zi_57_H : zt_H := ((zo_w2, 2, zo_Sg), (zo_g2, zi_57_K.2.2.1, [0, 1], zo_U), [], ((some .boolean), zi_57_K.2.2.2, zi_57_K.2.1.1), zi_57_Ks)
theorem zi_57_c : zt_chk zi_57_H (zB_X0_hasSeat, [], [16, 17]) 4 zi_57_A 2 (zo_hd, zi_57_K) = true := by decide +kernel
theorem zi_57 (v : Nat) (hd : Nat × Option Nat × Bool × List (Nat × Nat)) : zt_Con zo_Om (zo_Rel v) (hd, zi_57_K) zF_X0_hasSeat := zt_con (K := (zo_hd, zi_57_K)) (T := zT_X0_hasSeat) (w0 := zo_w2) (G := zo_g2) (zo_UR v) rfl zo_sg rfl rfl rfl (zt_ksok_of (Ks := zi_57_Ks) zt_k0) zi_57_c
-- X9_seat X
noncomputable def zi_58_K : Nat × (List zt_A × List zt_C × List Nat) × zt_W × List zt_O := (1, ([zjr 0, zt_top], [], []), [], [(some (zj (.negSucc 99) (.ofNat 9)), [], [], [])])
noncomputable def zi_58_A : zt_An := [(0, [(([some (zjr 0), some zt_top], [], [], []), .ofNat 1, [])]), (25, [(([some (zjr 0), some zt_top], [zj (.negSucc 99) (.ofNat 9)], [], []), .ofNat 0, [])])]
noncomputable def zi_58_Ks : List (Nat × List zt_K) := [(118, [((2, some 0, false, [(0, 10)]), zi_57_K)])]
noncomputable def zi_58_H : zt_H := ((zo_w1, 1, zo_Sg), (zo_g1, zi_58_K.2.2.1, [0, 1], zo_U), [], ((some .int), zi_58_K.2.2.2, zi_58_K.2.1.1), zi_58_Ks)
theorem zi_58_c : zt_chk zi_58_H (zB_X9_seat, [], [25]) 4 zi_58_A 2 (zo_hd, zi_58_K) = true := by decide +kernel
theorem zi_58 (v : Nat) (hd : Nat × Option Nat × Bool × List (Nat × Nat)) : zt_Con zo_Om (zo_Rel v) (hd, zi_58_K) zF_X9_seat := zt_con (K := (zo_hd, zi_58_K)) (T := zT_X9_seat) (w0 := zo_w1) (G := zo_g1) (zo_UR v) rfl zo_sg rfl rfl rfl (zt_ksok_of (Ks := zi_58_Ks) (zt_k1 rfl (zt_k2 rfl (zi_57 v _) zt_k3) zt_k0)) zi_58_c
-- X0_hasCaller B
noncomputable def zi_59_K : Nat × (List zt_A × List zt_C × List Nat) × zt_W × List zt_O := (2, ([zjr 0, zt_top], [], []), [], [(some ((0, .ofNat 1, .ofNat 1, 0, [])), [(1, .ofNat 0, .ofNat 4)], [], []), (some ((0, .ofNat 0, .ofNat 0, 0, [])), [], [], [])])
noncomputable def zi_59_A : zt_An := [(0, [(([some (zjr 0), some zt_top], [], [], []), .ofNat 2, [])]), (16, [(([some (zjr 0), some zt_top], [], [], []), .ofNat 1, [])]), (17, [(([some (zjr 0), some (zj (.ofNat 0) (.ofNat 4))], [(0, .ofNat 1, .ofNat 1, 0, [])], [((1, 0, 6), .ofNat 1, .ofNat 5)], []), .ofNat 0, []), (([some (zjr 0), some zt_top], [(0, .ofNat 0, .ofNat 0, 0, [])], [], []), .ofNat 0, [])])]
noncomputable def zi_59_Ks : List (Nat × List zt_K) := []
noncomputable def zi_59_H : zt_H := ((zo_w2, 2, zo_Sg), (zo_g2, zi_59_K.2.2.1, [0, 1], zo_U), [], ((some .boolean), zi_59_K.2.2.2, zi_59_K.2.1.1), zi_59_Ks)
theorem zi_59_c : zt_chk zi_59_H (zB_X0_hasCaller, [], [16, 17]) 4 zi_59_A 2 (zo_hd, zi_59_K) = true := by decide +kernel
theorem zi_59 (v : Nat) (hd : Nat × Option Nat × Bool × List (Nat × Nat)) : zt_Con zo_Om (zo_Rel v) (hd, zi_59_K) zF_X0_hasCaller := zt_con (K := (zo_hd, zi_59_K)) (T := zT_X0_hasCaller) (w0 := zo_w2) (G := zo_g2) (zo_UR v) rfl zo_sg rfl rfl rfl (zt_ksok_of (Ks := zi_59_Ks) zt_k0) zi_59_c
-- X9_caller X
noncomputable def zi_60_K : Nat × (List zt_A × List zt_C × List Nat) × zt_W × List zt_O := (1, ([zjr 0, zt_top, zt_top], [], []), [], [(some (zj (.negSucc 1) (.ofNat 99)), [], [], [])])
noncomputable def zi_60_A : zt_An := [(0, [(([some (zjr 0), some zt_top, some zt_top], [], [], []), .ofNat 0, [])])]
noncomputable def zi_60_Ks : List (Nat × List zt_K) := [(124, [((2, some 0, false, [(0, 10)]), zi_59_K)])]
noncomputable def zi_60_H : zt_H := ((zo_w1, 1, zo_Sg), (zo_g1, zi_60_K.2.2.1, [0, 1, 2], zo_U), [], ((some .int), zi_60_K.2.2.2, zi_60_K.2.1.1), zi_60_Ks)
theorem zi_60_c : zt_chk zi_60_H (zB_X9_caller, [], []) 5 zi_60_A 3 (zo_hd, zi_60_K) = true := by decide +kernel
theorem zi_60 (v : Nat) (hd : Nat × Option Nat × Bool × List (Nat × Nat)) : zt_Con zo_Om (zo_Rel v) (hd, zi_60_K) zF_X9_caller := zt_con (K := (zo_hd, zi_60_K)) (T := zT_X9_caller) (w0 := zo_w1) (G := zo_g1) (zo_UR v) rfl zo_sg rfl rfl rfl (zt_ksok_of (Ks := zi_60_Ks) (zt_k1 rfl (zt_k2 rfl (zi_59 v _) zt_k3) zt_k0)) zi_60_c
-- X9_isMinute X
noncomputable def zi_61_K : Nat × (List zt_A × List zt_C × List Nat) × zt_W × List zt_O := (1, ([zt_top], [], []), [], [(some ((0, .ofNat 1, .ofNat 1, 0, [])), [(0, .ofNat 0, .ofNat 60)], [], []), (some ((0, .ofNat 0, .ofNat 0, 0, [])), [], [], [])])
noncomputable def zi_61_A : zt_An := [(0, [(([some zt_top], [], [], []), .ofNat 2, [])]), (14, [(([some zt_top], [], [], []), .ofNat 1, [])]), (15, [(([some (zj (.ofNat 0) (.ofNat 60))], [(0, .ofNat 1, .ofNat 1, 0, [])], [], []), .ofNat 0, []), (([some zt_top], [(0, .ofNat 0, .ofNat 0, 0, [])], [], []), .ofNat 0, [])])]
noncomputable def zi_61_Ks : List (Nat × List zt_K) := []
noncomputable def zi_61_H : zt_H := ((zo_w1, 1, zo_Sg), (zo_g1, zi_61_K.2.2.1, [0], zo_U), [], ((some .boolean), zi_61_K.2.2.2, zi_61_K.2.1.1), zi_61_Ks)
theorem zi_61_c : zt_chk zi_61_H (zB_X9_isMinute, [], [14, 15]) 4 zi_61_A 1 (zo_hd, zi_61_K) = true := by decide +kernel
theorem zi_61 (v : Nat) (hd : Nat × Option Nat × Bool × List (Nat × Nat)) : zt_Con zo_Om (zo_Rel v) (hd, zi_61_K) zF_X9_isMinute := zt_con (K := (zo_hd, zi_61_K)) (T := zT_X9_isMinute) (w0 := zo_w1) (G := zo_g1) (zo_UR v) rfl zo_sg rfl rfl rfl (zt_ksok_of (Ks := zi_61_Ks) zt_k0) zi_61_c
-- J7_fill_53178 a_int305_-1_99
noncomputable def zi_62_K : Nat × (List zt_A × List zt_C × List Nat) × zt_W × List zt_O := (5, ([zjr 0, zj (.negSucc 0) (.negSucc 0)], [], []), [(0, 0, 304)], [(none, [], [], [])])
noncomputable def zi_62_A : zt_An := [(0, [(([some (zjr 0), some (zj (.negSucc 0) (.negSucc 0)), none, none], [], [], []), .ofNat 306, [])]), (5, [(([some (zjr 0), some (zj (.negSucc 0) (.negSucc 0)), some (zj (.ofNat 0) (.ofNat 305)), some (0, .ofNat 305, .ofNat 305, 0, [])], [], [], []), .ofNat 305, [(.negSucc 0, 2)])])]
noncomputable def zi_62_Ks : List (Nat × List zt_K) := []
noncomputable def zi_62_H : zt_H := ((zo_w5, 5, zo_Sg), (zo_g5, zi_62_K.2.2.1, [0, 1], zo_U), [], (none, zi_62_K.2.2.2, zi_62_K.2.1.1), zi_62_Ks)
theorem zi_62_c : zt_chk zi_62_H (zB_J7_fill_53178, [], [5]) 3 zi_62_A 4 (zo_hd, zi_62_K) = true := by decide +kernel
theorem zi_62 (v : Nat) (hd : Nat × Option Nat × Bool × List (Nat × Nat)) : zt_Con zo_Om (zo_Rel v) (hd, zi_62_K) zF_J7_fill_53178 := zt_con (K := (zo_hd, zi_62_K)) (T := zT_J7_fill_53178) (w0 := zo_w5) (G := zo_g5) (zo_UR v) rfl zo_sg rfl rfl rfl (zt_ksok_of (Ks := zi_62_Ks) zt_k0) zi_62_c
-- J7_fill_53178 a_int305_-1_5
noncomputable def zi_63_K : Nat × (List zt_A × List zt_C × List Nat) × zt_W × List zt_O := (6, ([zjr 0, zj (.negSucc 0) (.negSucc 0)], [], []), [(0, 0, 304)], [(none, [], [], [])])
noncomputable def zi_63_A : zt_An := [(0, [(([some (zjr 0), some (zj (.negSucc 0) (.negSucc 0)), none, none], [], [], []), .ofNat 306, [])]), (5, [(([some (zjr 0), some (zj (.negSucc 0) (.negSucc 0)), some (zj (.ofNat 0) (.ofNat 305)), some (0, .ofNat 305, .ofNat 305, 0, [])], [], [], []), .ofNat 305, [(.negSucc 0, 2)])])]
noncomputable def zi_63_Ks : List (Nat × List zt_K) := []
noncomputable def zi_63_H : zt_H := ((zo_w6, 6, zo_Sg), (zo_g6, zi_63_K.2.2.1, [0, 1], zo_U), [], (none, zi_63_K.2.2.2, zi_63_K.2.1.1), zi_63_Ks)
theorem zi_63_c : zt_chk zi_63_H (zB_J7_fill_53178, [], [5]) 3 zi_63_A 4 (zo_hd, zi_63_K) = true := by decide +kernel
theorem zi_63 (v : Nat) (hd : Nat × Option Nat × Bool × List (Nat × Nat)) : zt_Con zo_Om (zo_Rel v) (hd, zi_63_K) zF_J7_fill_53178 := zt_con (K := (zo_hd, zi_63_K)) (T := zT_J7_fill_53178) (w0 := zo_w6) (G := zo_g6) (zo_UR v) rfl zo_sg rfl rfl rfl (zt_ksok_of (Ks := zi_63_Ks) zt_k0) zi_63_c
-- X2_dawn D/B
noncomputable def zi_64_K : Nat × (List zt_A × List zt_C × List Nat) × zt_W × List zt_O := (7, ([zjr 0, zjr 8], [], []), [(0, 7, 9), (1, 0, 4), (2, 0, 4), (3, 0, 4), (4, 0, 4), (5, 0, 4), (6, 0, 4), (7, 0, 5)], [(none, [], [], [])])
noncomputable def zi_64_A : zt_An := [(0, [(([some (zjr 0), some (zjr 8), none], [], [], []), .ofNat 55, [])]), (2, [(([some (zjr 0), some (zjr 8), some (zj (.ofNat 0) (.ofNat 5))], [], [], []), .ofNat 54, [(.negSucc 0, 2)])]), (63, [(([some (zjr 0), some (zjr 8), some (zj (.ofNat 0) (.ofNat 6))], [], [], []), .ofNat 48, [(.negSucc 0, 2)])]), (99, [(([some (zjr 0), some (zjr 8), some (zj (.ofNat 0) (.ofNat 41))], [], [((1, 0, 7), .ofNat 0, .ofNat 0)], []), .ofNat 41, [(.negSucc 0, 2)])])]
noncomputable def zi_64_Ks : List (Nat × List zt_K) := []
noncomputable def zi_64_H : zt_H := ((zo_w7, 7, zo_Sg), (zo_g7, zi_64_K.2.2.1, [0, 1], zo_U), [], (none, zi_64_K.2.2.2, zi_64_K.2.1.1), zi_64_Ks)
theorem zi_64_c : zt_chk zi_64_H (zB_X2_dawn, [], [2, 63, 99]) 3 zi_64_A 3 (zo_hd, zi_64_K) = true := by decide +kernel
theorem zi_64 (v : Nat) (hd : Nat × Option Nat × Bool × List (Nat × Nat)) : zt_Con zo_Om (zo_Rel v) (hd, zi_64_K) zF_X2_dawn := zt_con (K := (zo_hd, zi_64_K)) (T := zT_X2_dawn) (w0 := zo_w7) (G := zo_g7) (zo_UR v) rfl zo_sg rfl rfl rfl (zt_ksok_of (Ks := zi_64_Ks) zt_k0) zi_64_c
-- X2_leaveSeat D/B
noncomputable def zi_65_K : Nat × (List zt_A × List zt_C × List Nat) × zt_W × List zt_O := (7, ([zjr 0, zj (.ofNat 0) (.ofNat 4)], [], []), [(7, 0, 5)], [(none, [], [], [])])
noncomputable def zi_65_A : zt_An := [(0, [(([some (zjr 0), some (zj (.ofNat 0) (.ofNat 4))], [], [], []), .ofNat 1, [])]), (21, [(([some (zjr 0), some (zj (.ofNat 0) (.ofNat 4))], [], [((2, 1, 1), .negSucc 2, .ofNat 5)], []), .ofNat 0, [])])]
noncomputable def zi_65_Ks : List (Nat × List zt_K) := []
noncomputable def zi_65_H : zt_H := ((zo_w7, 7, zo_Sg), (zo_g7, zi_65_K.2.2.1, [0, 1], zo_U), [], (none, zi_65_K.2.2.2, zi_65_K.2.1.1), zi_65_Ks)
theorem zi_65_c : zt_chk zi_65_H (zB_X2_leaveSeat, [], [21]) 3 zi_65_A 2 (zo_hd, zi_65_K) = true := by decide +kernel
theorem zi_65 (v : Nat) (hd : Nat × Option Nat × Bool × List (Nat × Nat)) : zt_Con zo_Om (zo_Rel v) (hd, zi_65_K) zF_X2_leaveSeat := zt_con (K := (zo_hd, zi_65_K)) (T := zT_X2_leaveSeat) (w0 := zo_w7) (G := zo_g7) (zo_UR v) rfl zo_sg rfl rfl rfl (zt_ksok_of (Ks := zi_65_Ks) zt_k0) zi_65_c
-- X2_moveAll D/B
noncomputable def zi_66_K : Nat × (List zt_A × List zt_C × List Nat) × zt_W × List zt_O := (7, ([zjr 0, zjr 8, zj (.ofNat 0) (.ofNat 60)], [], []), [(0, 9, 9), (1, 0, 4), (7, 0, 5)], [(none, [], [], [])])
noncomputable def zi_66_A : zt_An := [(0, [(([some (zjr 0), some (zjr 8), some (zj (.ofNat 0) (.ofNat 60)), none, none, none], [], [], []), .ofNat 84, [])]), (2, [(([some (zjr 0), some (zjr 8), some (zj (.ofNat 0) (.ofNat 60)), some (zj (.ofNat 0) (.ofNat 41)), none, none], [], [], []), .ofNat 83, [(.negSucc 1, 3)])]), (94, [(([some (zjr 0), some (zjr 8), some (zj (.ofNat 0) (.ofNat 60)), some (zj (.ofNat 0) (.ofNat 40)), some (0, .ofNat 0, .ofNat 4, 1, [(2, 15, 3, .ofNat 0)]), some (0, .ofNat 0, .ofNat 5, 1, [(2, 16, 3, .ofNat 0)])], [], [((1, 8, 7), .ofNat 1, .ofNat 41), ((2, 17, 3), .ofNat 0, .ofNat 60)], []), .ofNat 82, [(.negSucc 1, 3)])])]
noncomputable def zi_66_Ks : List (Nat × List zt_K) := [(103, [((2, some 2, true, []), zi_65_K)])]
noncomputable def zi_66_H : zt_H := ((zo_w7, 7, zo_Sg), (zo_g7, zi_66_K.2.2.1, [0, 1, 2], zo_U), [], (none, zi_66_K.2.2.2, zi_66_K.2.1.1), zi_66_Ks)
theorem zi_66_c : zt_chk zi_66_H (zB_X2_moveAll, [], [2, 94]) 7 zi_66_A 6 (zo_hd, zi_66_K) = true := by decide +kernel
theorem zi_66 (v : Nat) (hd : Nat × Option Nat × Bool × List (Nat × Nat)) : zt_Con zo_Om (zo_Rel v) (hd, zi_66_K) zF_X2_moveAll := zt_con (K := (zo_hd, zi_66_K)) (T := zT_X2_moveAll) (w0 := zo_w7) (G := zo_g7) (zo_UR v) rfl zo_sg rfl rfl rfl (zt_ksok_of (Ks := zi_66_Ks) (zt_k1 rfl (zt_k2 rfl (zi_65 v _) zt_k3) zt_k0)) zi_66_c
-- X2_sitDown D/B
noncomputable def zi_67_K : Nat × (List zt_A × List zt_C × List Nat) × zt_W × List zt_O := (7, ([zjr 0, zjr 8, zj (.ofNat 0) (.ofNat 4)], [], []), [(1, 0, 4), (7, 0, 5)], [(none, [], [], [])])
noncomputable def zi_67_A : zt_An := [(0, [(([some (zjr 0), some (zjr 8), some (zj (.ofNat 0) (.ofNat 4)), none, none], [], [], []), .ofNat 14, [])]), (17, [(([some (zjr 0), some (zjr 8), some (zj (.ofNat 0) (.ofNat 4)), some (zj (.ofNat 0) (.ofNat 5)), some (zj (.ofNat 0) (.ofNat 6))], [], [((2, 1, 2), .negSucc 0, .negSucc 0)], []), .ofNat 13, [(.negSucc 1, 4)])]), (68, [(([some (zjr 0), some (zjr 8), some (zj (.ofNat 0) (.ofNat 4)), some (zj (.ofNat 0) (.ofNat 5)), some (zj (.ofNat 0) (.ofNat 5))], [(0, .ofNat 0, .ofNat 0, 0, [])], [((1, 8, 5), .ofNat 1, .ofNat 6), ((2, 1, 2), .negSucc 0, .negSucc 0), ((2, 7, 3), .ofNat 0, .ofNat 4)], []), .ofNat 12, [(.negSucc 1, 4)]), (([some (zjr 0), some (zjr 8), some (zj (.ofNat 0) (.ofNat 4)), some (zj (.ofNat 0) (.ofNat 4)), some (zj (.ofNat 0) (.ofNat 5))], [(0, .ofNat 1, .ofNat 5, 1, [(0, 3, 0, .ofNat 1)])], [((1, 8, 5), .ofNat 2, .ofNat 6), ((2, 1, 2), .negSucc 0, .negSucc 0), ((2, 7, 3), .ofNat 0, .ofNat 4)], []), .ofNat 12, [(.negSucc 1, 4)])])]
noncomputable def zi_67_Ks : List (Nat × List zt_K) := []
noncomputable def zi_67_H : zt_H := ((zo_w7, 7, zo_Sg), (zo_g7, zi_67_K.2.2.1, [0, 1, 2], zo_U), [], (none, zi_67_K.2.2.2, zi_67_K.2.1.1), zi_67_Ks)
theorem zi_67_c : zt_chk zi_67_H (zB_X2_sitDown, [], [17, 68]) 5 zi_67_A 5 (zo_hd, zi_67_K) = true := by decide +kernel
theorem zi_67 (v : Nat) (hd : Nat × Option Nat × Bool × List (Nat × Nat)) : zt_Con zo_Om (zo_Rel v) (hd, zi_67_K) zF_X2_sitDown := zt_con (K := (zo_hd, zi_67_K)) (T := zT_X2_sitDown) (w0 := zo_w7) (G := zo_g7) (zo_UR v) rfl zo_sg rfl rfl rfl (zt_ksok_of (Ks := zi_67_Ks) zt_k0) zi_67_c
-- X2_settle D/B
noncomputable def zi_68_K : Nat × (List zt_A × List zt_C × List Nat) × zt_W × List zt_O := (7, ([zjr 0, zjr 8, zj (.ofNat 0) (.ofNat 60)], [], []), [(0, 9, 9), (1, 0, 4), (7, 0, 5)], [(none, [], [], [])])
noncomputable def zi_68_A : zt_An := [(0, [(([some (zjr 0), some (zjr 8), some (zj (.ofNat 0) (.ofNat 60)), none], [], [], []), .ofNat 25, [])]), (19, [(([some (zjr 0), some (zjr 8), some (zj (.ofNat 0) (.ofNat 60)), none], [], [], []), .ofNat 24, [])]), (21, [(([some (zjr 0), some (zjr 8), some (zj (.ofNat 0) (.ofNat 60)), some (zj (.ofNat 0) (.ofNat 5))], [], [], []), .ofNat 23, [(.negSucc 1, 3)])]), (45, [(([some (zjr 0), some (zjr 8), some (zj (.ofNat 0) (.ofNat 60)), some (zj (.ofNat 0) (.ofNat 4))], [], [((1, 8, 6), .ofNat 1, .ofNat 5)], []), .ofNat 22, [(.negSucc 1, 3)])]), (53, [(([some (zjr 0), some (zjr 8), some (zj (.ofNat 0) (.ofNat 60)), some (zj (.ofNat 0) (.ofNat 5))], [], [((1, 8, 6), .ofNat 0, .ofNat 5)], []), .ofNat 11, [(.negSucc 1, 3)])]), (77, [(([some (zjr 0), some (zjr 8), some (zj (.ofNat 0) (.ofNat 60)), some (zj (.ofNat 0) (.ofNat 4))], [], [((1, 8, 6), .ofNat 1, .ofNat 5), ((2, 11, 3), .ofNat 0, .ofNat 61)], []), .ofNat 10, [(.negSucc 1, 3)])])]
noncomputable def zi_68_Ks : List (Nat × List zt_K) := [(70, [((3, some 2, true, []), zi_66_K)]), (73, [((3, some 2, true, []), zi_67_K)])]
noncomputable def zi_68_H : zt_H := ((zo_w7, 7, zo_Sg), (zo_g7, zi_68_K.2.2.1, [0, 1, 2], zo_U), [], (none, zi_68_K.2.2.2, zi_68_K.2.1.1), zi_68_Ks)
theorem zi_68_c : zt_chk zi_68_H (zB_X2_settle, [], [19, 21, 45, 53, 77]) 4 zi_68_A 4 (zo_hd, zi_68_K) = true := by decide +kernel
theorem zi_68 (v : Nat) (hd : Nat × Option Nat × Bool × List (Nat × Nat)) : zt_Con zo_Om (zo_Rel v) (hd, zi_68_K) zF_X2_settle := zt_con (K := (zo_hd, zi_68_K)) (T := zT_X2_settle) (w0 := zo_w7) (G := zo_g7) (zo_UR v) rfl zo_sg rfl rfl rfl (zt_ksok_of (Ks := zi_68_Ks) (zt_k1 rfl (zt_k2 rfl (zi_66 v _) zt_k3) (zt_k1 rfl (zt_k2 rfl (zi_67 v _) zt_k3) zt_k0))) zi_68_c
-- X3_note Y/B
noncomputable def zi_69_K : Nat × (List zt_A × List zt_C × List Nat) × zt_W × List zt_O := (8, ([zjr 0, zjr 11, zj (.ofNat 0) (.ofNat 60)], [], []), [(9, 0, 304), (10, 0, 304)], [(none, [], [], [])])
noncomputable def zi_69_A : zt_An := [(0, [(([some (zjr 0), some (zjr 11), some (zj (.ofNat 0) (.ofNat 60)), none], [], [], []), .ofNat 18, [])]), (2, [(([some (zjr 0), some (zjr 11), some (zj (.ofNat 0) (.ofNat 60)), some (zj (.ofNat 0) (.ofNat 5))], [], [], []), .ofNat 17, [(.negSucc 2, 3)])]), (76, [(([some (zjr 0), some (zjr 11), some (zj (.ofNat 0) (.ofNat 60)), some (zj (.ofNat 0) (.ofNat 4))], [zj (.negSucc 0) (.ofNat 5), zj (.ofNat 0) (.ofNat 304), zjr 10], [((1, 11, 6), .ofNat 1, .ofNat 5), ((2, 2, 3), .negSucc 0, .ofNat 5)], []), .ofNat 16, [(.negSucc 2, 3)])]), (77, [(([some (zjr 0), some (zjr 11), some (zj (.ofNat 0) (.ofNat 60)), some (zj (.ofNat 0) (.ofNat 4))], [], [((1, 11, 6), .ofNat 1, .ofNat 5), ((2, 2, 3), .negSucc 2, .ofNat 5)], []), .ofNat 15, [(.negSucc 2, 3)])])]
noncomputable def zi_69_Ks : List (Nat × List zt_K) := []
noncomputable def zi_69_H : zt_H := ((zo_w8, 8, zo_Sg), (zo_g8, zi_69_K.2.2.1, [0, 1, 2], zo_U), [], (none, zi_69_K.2.2.2, zi_69_K.2.1.1), zi_69_Ks)
theorem zi_69_c : zt_chk zi_69_H (zB_X3_note, [], [2, 76, 77]) 5 zi_69_A 4 (zo_hd, zi_69_K) = true := by decide +kernel
theorem zi_69 (v : Nat) (hd : Nat × Option Nat × Bool × List (Nat × Nat)) : zt_Con zo_Om (zo_Rel v) (hd, zi_69_K) zF_X3_note := zt_con (K := (zo_hd, zi_69_K)) (T := zT_X3_note) (w0 := zo_w8) (G := zo_g8) (zo_UR v) rfl zo_sg rfl rfl rfl (zt_ksok_of (Ks := zi_69_Ks) zt_k0) zi_69_c
-- X0_callsTill B
noncomputable def zi_70_K : Nat × (List zt_A × List zt_C × List Nat) × zt_W × List zt_O := (2, ([zjr 0, zj (.ofNat 0) (.ofNat 60)], [], []), [], [(some ((0, .ofNat 0, .ofNat 0, 0, [])), [], [], []), (some (zj (.ofNat 0) (.ofNat 60)), [], [], [])])
noncomputable def zi_70_A : zt_An := [(0, [(([some (zjr 0), some (zj (.ofNat 0) (.ofNat 60))], [], [], []), .ofNat 1, [])]), (17, [(([some (zjr 0), some (zj (.ofNat 0) (.ofNat 60))], [(0, .ofNat 0, .ofNat 0, 0, [])], [((1, 0, 3), .ofNat 0, .ofNat 0)], []), .ofNat 0, []), (([some (zjr 0), some (zj (.ofNat 0) (.ofNat 60))], [zj (.ofNat 0) (.ofNat 60)], [((1, 0, 3), .ofNat 1, .ofNat 30)], []), .ofNat 0, [])])]
noncomputable def zi_70_Ks : List (Nat × List zt_K) := []
noncomputable def zi_70_H : zt_H := ((zo_w2, 2, zo_Sg), (zo_g2, zi_70_K.2.2.1, [0, 1], zo_U), [], ((some .int), zi_70_K.2.2.2, zi_70_K.2.1.1), zi_70_Ks)
theorem zi_70_c : zt_chk zi_70_H (zB_X0_callsTill, [], [17]) 3 zi_70_A 2 (zo_hd, zi_70_K) = true := by decide +kernel
theorem zi_70 (v : Nat) (hd : Nat × Option Nat × Bool × List (Nat × Nat)) : zt_Con zo_Om (zo_Rel v) (hd, zi_70_K) zF_X0_callsTill := zt_con (K := (zo_hd, zi_70_K)) (T := zT_X0_callsTill) (w0 := zo_w2) (G := zo_g2) (zo_UR v) rfl zo_sg rfl rfl rfl (zt_ksok_of (Ks := zi_70_Ks) zt_k0) zi_70_c
-- X2_firstThere D/B
noncomputable def zi_71_K : Nat × (List zt_A × List zt_C × List Nat) × zt_W × List zt_O := (7, ([zjr 0, zjr 8], [], []), [], [(some (zj (.negSucc 0) (.ofNat 4)), [], [], [])])
noncomputable def zi_71_A : zt_An := [(0, [(([some (zjr 0), some (zjr 8), none, none], [], [], []), .ofNat 18, [])]), (4, [(([some (zjr 0), some (zjr 8), some (zj (.negSucc 0) (.ofNat 4)), some (zj (.ofNat 0) (.ofNat 5))], [], [], []), .ofNat 17, [(.negSucc 2, 3)])]), (42, [(([some (zjr 0), some (zjr 8), some (zj (.negSucc 0) (.ofNat 4)), some (zj (.ofNat 0) (.ofNat 4))], [], [((1, 8, 6), .ofNat 1, .ofNat 5), ((2, 1, 3), .negSucc 0, .ofNat 5)], []), .ofNat 16, [(.negSucc 2, 3)])]), (44, [(([some (zjr 0), some (zjr 8), some (zj (.negSucc 0) (.ofNat 4)), some (zj (.ofNat 0) (.ofNat 4))], [], [((1, 8, 6), .ofNat 1, .ofNat 5), ((2, 1, 3), .negSucc 2, .ofNat 5)], []), .ofNat 15, [(.negSucc 2, 3)])])]
noncomputable def zi_71_Ks : List (Nat × List zt_K) := []
noncomputable def zi_71_H : zt_H := ((zo_w7, 7, zo_Sg), (zo_g7, zi_71_K.2.2.1, [0, 1], zo_U), [], ((some .int), zi_71_K.2.2.2, zi_71_K.2.1.1), zi_71_Ks)
theorem zi_71_c : zt_chk zi_71_H (zB_X2_firstThere, [], [4, 42, 44]) 5 zi_71_A 4 (zo_hd, zi_71_K) = true := by decide +kernel
theorem zi_71 (v : Nat) (hd : Nat × Option Nat × Bool × List (Nat × Nat)) : zt_Con zo_Om (zo_Rel v) (hd, zi_71_K) zF_X2_firstThere := zt_con (K := (zo_hd, zi_71_K)) (T := zT_X2_firstThere) (w0 := zo_w7) (G := zo_g7) (zo_UR v) rfl zo_sg rfl rfl rfl (zt_ksok_of (Ks := zi_71_Ks) zt_k0) zi_71_c
-- X2_admit D/B
noncomputable def zi_72_K : Nat × (List zt_A × List zt_C × List Nat) × zt_W × List zt_O := (7, ([zjr 0, zj (.negSucc 0) (.ofNat 4), zj (.ofNat 0) (.ofNat 60)], [], []), [(0, 7, 7), (1, 0, 4), (5, 0, 4), (6, 0, 4), (7, 0, 5)], [(none, [], [], [])])
noncomputable def zi_72_A : zt_An := [(0, [(([some (zjr 0), some (zj (.negSucc 0) (.ofNat 4)), some (zj (.ofNat 0) (.ofNat 60))], [], [], []), .ofNat 0, [])])]
noncomputable def zi_72_Ks : List (Nat × List zt_K) := [(103, [((2, some 2, true, []), zi_65_K)])]
noncomputable def zi_72_H : zt_H := ((zo_w7, 7, zo_Sg), (zo_g7, zi_72_K.2.2.1, [0, 1, 2], zo_U), [], (none, zi_72_K.2.2.2, zi_72_K.2.1.1), zi_72_Ks)
theorem zi_72_c : zt_chk zi_72_H (zB_X2_admit, [], []) 4 zi_72_A 3 (zo_hd, zi_72_K) = true := by decide +kernel
theorem zi_72 (v : Nat) (hd : Nat × Option Nat × Bool × List (Nat × Nat)) : zt_Con zo_Om (zo_Rel v) (hd, zi_72_K) zF_X2_admit := zt_con (K := (zo_hd, zi_72_K)) (T := zT_X2_admit) (w0 := zo_w7) (G := zo_g7) (zo_UR v) rfl zo_sg rfl rfl rfl (zt_ksok_of (Ks := zi_72_Ks) (zt_k1 rfl (zt_k2 rfl (zi_65 v _) zt_k3) zt_k0)) zi_72_c
-- X2_neighbours D/B
noncomputable def zi_73_K : Nat × (List zt_A × List zt_C × List Nat) × zt_W × List zt_O := (7, ([zjr 0, zjr 8, zj (.ofNat 0) (.ofNat 5)], [], []), [], [(some (zj (.ofNat 0) (.ofNat 2)), [], [], [])])
noncomputable def zi_73_A : zt_An := [(0, [(([some (zjr 0), some (zjr 8), some (zj (.ofNat 0) (.ofNat 5)), none, none], [], [], []), .ofNat 4, [])]), (20, [(([some (zjr 0), some (zjr 8), some (zj (.ofNat 0) (.ofNat 5)), none, none], [], [], []), .ofNat 3, [])]), (21, [(([some (zjr 0), some (zjr 8), some (zj (.ofNat 1) (.ofNat 5)), none, none], [(0, .ofNat 1, .ofNat 1, 0, [])], [], []), .ofNat 2, []), (([some (zjr 0), some (zjr 8), some (zj (.ofNat 0) (.ofNat 5)), none, none], [(0, .ofNat 0, .ofNat 0, 0, [])], [], []), .ofNat 2, [])]), (48, [(([some (zjr 0), some (zjr 8), some (zj (.ofNat 0) (.ofNat 5)), some (zj (.ofNat 0) (.ofNat 1)), none], [], [((1, 8, 5), .ofNat 0, .ofNat 6)], []), .ofNat 1, [])]), (49, [(([some (zjr 0), some (zjr 8), some (zj (.ofNat 0) (.ofNat 4)), some (zj (.ofNat 0) (.ofNat 1)), none], [(0, .ofNat 1, .ofNat 1, 0, [])], [((1, 8, 5), .ofNat 2, .ofNat 6)], []), .ofNat 0, []), (([some (zjr 0), some (zjr 8), some (zj (.ofNat 0) (.ofNat 5)), some (zj (.ofNat 0) (.ofNat 1)), none], [(0, .ofNat 0, .ofNat 0, 0, [])], [((1, 8, 5), .ofNat 0, .ofNat 6)], []), .ofNat 0, [])])]
noncomputable def zi_73_Ks : List (Nat × List zt_K) := []
noncomputable def zi_73_H : zt_H := ((zo_w7, 7, zo_Sg), (zo_g7, zi_73_K.2.2.1, [0, 1, 2], zo_U), [], ((some .int), zi_73_K.2.2.2, zi_73_K.2.1.1), zi_73_Ks)
theorem zi_73_c : zt_chk zi_73_H (zB_X2_neighbours, [], [20, 21, 48, 49]) 4 zi_73_A 5 (zo_hd, zi_73_K) = true := by decide +kernel
theorem zi_73 (v : Nat) (hd : Nat × Option Nat × Bool × List (Nat × Nat)) : zt_Con zo_Om (zo_Rel v) (hd, zi_73_K) zF_X2_neighbours := zt_con (K := (zo_hd, zi_73_K)) (T := zT_X2_neighbours) (w0 := zo_w7) (G := zo_g7) (zo_UR v) rfl zo_sg rfl rfl rfl (zt_ksok_of (Ks := zi_73_Ks) zt_k0) zi_73_c
-- X2_ageBehind D/B
noncomputable def zi_74_K : Nat × (List zt_A × List zt_C × List Nat) × zt_W × List zt_O := (7, ([zjr 0, zjr 8, zj (.ofNat 0) (.ofNat 4), zj (.ofNat 0) (.ofNat 5)], [], []), [], [(some (zj (.negSucc 8) (.ofNat 110)), [], [], [])])
noncomputable def zi_74_A : zt_An := [(0, [(([some (zjr 0), some (zjr 8), some (zj (.ofNat 0) (.ofNat 4)), some (zj (.ofNat 0) (.ofNat 5)), none, none, none], [], [], []), .ofNat 1, [])]), (88, [(([some (zjr 0), some (zjr 8), some (zj (.ofNat 0) (.ofNat 4)), some (zj (.ofNat 0) (.ofNat 5)), some (0, .ofNat 0, .ofNat 99, 1, [(2, 2, 2, .ofNat 0)]), some (0, .negSucc 8, .ofNat 9, 1, [(2, 9, 3, .ofNat 0)]), some (zj (.ofNat 0) (.ofNat 9))], [zj (.ofNat 0) (.ofNat 99)], [((1, 8, 1), .ofNat 1, .ofNat 1), ((1, 8, 2), .ofNat 0, .ofNat 99), ((2, 2, 2), .ofNat 0, .ofNat 99)], []), .ofNat 0, [])]), (110, [(([some (zjr 0), some (zjr 8), some (zj (.ofNat 0) (.ofNat 4)), some (zj (.ofNat 0) (.ofNat 5)), some (0, .ofNat 0, .ofNat 99, 1, [(2, 2, 2, .ofNat 0)]), some (0, .negSucc 8, .ofNat 9, 1, [(2, 9, 3, .ofNat 0)]), some (zj (.ofNat 0) (.ofNat 9))], [zj (.negSucc 8) (.ofNat 108)], [((1, 8, 1), .ofNat 2, .ofNat 2)], []), .ofNat 0, [])])]
noncomputable def zi_74_Ks : List (Nat × List zt_K) := [(138, [((3, some 2, true, []), zi_73_K)])]
noncomputable def zi_74_H : zt_H := ((zo_w7, 7, zo_Sg), (zo_g7, zi_74_K.2.2.1, [0, 1, 2, 3], zo_U), [], ((some .int), zi_74_K.2.2.2, zi_74_K.2.1.1), zi_74_Ks)
theorem zi_74_c : zt_chk zi_74_H (zB_X2_ageBehind, [], [88, 110]) 4 zi_74_A 7 (zo_hd, zi_74_K) = true := by decide +kernel
theorem zi_74 (v : Nat) (hd : Nat × Option Nat × Bool × List (Nat × Nat)) : zt_Con zo_Om (zo_Rel v) (hd, zi_74_K) zF_X2_ageBehind := zt_con (K := (zo_hd, zi_74_K)) (T := zT_X2_ageBehind) (w0 := zo_w7) (G := zo_g7) (zo_UR v) rfl zo_sg rfl rfl rfl (zt_ksok_of (Ks := zi_74_Ks) (zt_k1 rfl (zt_k2 rfl (zi_73 v _) zt_k3) zt_k0)) zi_74_c
-- X2_growAll D/B
noncomputable def zi_75_K : Nat × (List zt_A × List zt_C × List Nat) × zt_W × List zt_O := (7, ([zjr 0, zjr 8], [], []), [(2, 0, 4), (3, 0, 4), (4, 0, 4)], [(none, [], [], [])])
noncomputable def zi_75_A : zt_An := [(0, [(([some (zjr 0), some (zjr 8), none, none], [], [], []), .ofNat 18, [])]), (2, [(([some (zjr 0), some (zjr 8), some (zj (.ofNat 0) (.ofNat 5)), none], [], [], []), .ofNat 17, [(.negSucc 2, 2)])]), (48, [(([some (zjr 0), some (zjr 8), some (zj (.ofNat 0) (.ofNat 4)), some (0, .ofNat 0, .ofNat 5, 1, [(2, 1, 2, .ofNat 0)])], [(0, .ofNat 0, .ofNat 0, 0, []), (0, .ofNat 0, .ofNat 4, 1, [(0, 2, 0, .ofNat 0)]), zjr 4], [((1, 8, 6), .ofNat 1, .ofNat 5), ((2, 1, 2), .ofNat 0, .ofNat 5), ((2, 3, 2), .negSucc 0, .ofNat 5)], []), .ofNat 16, [(.negSucc 2, 2)]), (([some (zjr 0), some (zjr 8), some (zj (.ofNat 0) (.ofNat 4)), some (0, .ofNat 0, .ofNat 5, 1, [(2, 1, 2, .ofNat 0)])], [zt_top, (0, .ofNat 0, .ofNat 4, 1, [(0, 2, 0, .ofNat 0)]), zjr 4], [((1, 8, 6), .ofNat 1, .ofNat 5), ((2, 1, 2), .ofNat 0, .ofNat 5), ((2, 3, 2), .ofNat 0, .ofNat 5)], []), .ofNat 16, [(.negSucc 2, 2)])]), (78, [(([some (zjr 0), some (zjr 8), some (zj (.ofNat 0) (.ofNat 4)), some (0, .negSucc 2, .ofNat 5, 1, [(2, 1, 2, .ofNat 0)])], [], [((1, 8, 6), .ofNat 1, .ofNat 5), ((2, 1, 2), .negSucc 2, .ofNat 5)], []), .ofNat 15, [(.negSucc 2, 2)])])]
noncomputable def zi_75_Ks : List (Nat × List zt_K) := [(113, [((4, some 2, true, []), zi_74_K)])]
noncomputable def zi_75_H : zt_H := ((zo_w7, 7, zo_Sg), (zo_g7, zi_75_K.2.2.1, [0, 1], zo_U), [], (none, zi_75_K.2.2.2, zi_75_K.2.1.1), zi_75_Ks)
theorem zi_75_c : zt_chk zi_75_H (zB_X2_growAll, [], [2, 48, 78]) 5 zi_75_A 4 (zo_hd, zi_75_K) = true := by decide +kernel
theorem zi_75 (v : Nat) (hd : Nat × Option Nat × Bool × List (Nat × Nat)) : zt_Con zo_Om (zo_Rel v) (hd, zi_75_K) zF_X2_growAll := zt_con (K := (zo_hd, zi_75_K)) (T := zT_X2_growAll) (w0 := zo_w7) (G := zo_g7) (zo_UR v) rfl zo_sg rfl rfl rfl (zt_ksok_of (Ks := zi_75_Ks) (zt_k1 rfl (zt_k2 rfl (zi_74 v _) zt_k3) zt_k0)) zi_75_c
-- X2_finish D/B
noncomputable def zi_76_K : Nat × (List zt_A × List zt_C × List Nat) × zt_W × List zt_O := (7, ([zjr 0, zjr 8, zj (.ofNat 0) (.ofNat 60), zt_ltop], [], []), [(0, 7, 7), (1, 0, 4), (2, 0, 4), (3, 0, 4), (4, 0, 4), (5, 0, 4), (6, 0, 4), (7, 0, 5)], [(none, [], [], [])])
noncomputable def zi_76_A : zt_An := [(0, [(([some (zjr 0), some (zjr 8), some (zj (.ofNat 0) (.ofNat 60)), some zt_ltop, none, none, none], [], [], []), .ofNat 3, [])]), (27, [(([some (zjr 0), some (zjr 8), some (zj (.ofNat 0) (.ofNat 60)), some zt_ltop, none, some (zj (.ofNat 0) (.ofNat 60)), none], [], [], []), .ofNat 2, [])]), (28, [(([some (zjr 0), some (zjr 8), some (zj (.ofNat 0) (.ofNat 60)), some zt_ltop, none, some (zj (.ofNat 1) (.ofNat 60)), none], [(0, .ofNat 1, .ofNat 1, 0, [])], [], []), .ofNat 1, []), (([some (zjr 0), some (zjr 8), some (zj (.ofNat 0) (.ofNat 60)), some zt_ltop, none, some (zj (.ofNat 0) (.ofNat 60)), none], [(0, .ofNat 0, .ofNat 0, 0, [])], [], []), .ofNat 1, [])]), (58, [(([some (zjr 0), some (zjr 8), some (zj (.ofNat 0) (.ofNat 60)), some zt_ltop, none, some (zj (.ofNat 0) (.ofNat 60)), some (zj (.ofNat 0) (.ofNat 1))], [], [], []), .ofNat 0, [])])]
noncomputable def zi_76_Ks : List (Nat × List zt_K) := [(79, [((2, some 0, false, [(0, 10)]), zi_70_K)]), (86, [((2, some 2, true, []), zi_71_K)]), (90, [((3, some 2, true, []), zi_72_K)]), (94, [((2, some 2, true, []), zi_75_K)])]
noncomputable def zi_76_H : zt_H := ((zo_w7, 7, zo_Sg), (zo_g7, zi_76_K.2.2.1, [0, 1, 2, 3], zo_U), [], (none, zi_76_K.2.2.2, zi_76_K.2.1.1), zi_76_Ks)
theorem zi_76_c : zt_chk zi_76_H (zB_X2_finish, [], [27, 28, 58]) 5 zi_76_A 7 (zo_hd, zi_76_K) = true := by decide +kernel
theorem zi_76 (v : Nat) (hd : Nat × Option Nat × Bool × List (Nat × Nat)) : zt_Con zo_Om (zo_Rel v) (hd, zi_76_K) zF_X2_finish := zt_con (K := (zo_hd, zi_76_K)) (T := zT_X2_finish) (w0 := zo_w7) (G := zo_g7) (zo_UR v) rfl zo_sg rfl rfl rfl (zt_ksok_of (Ks := zi_76_Ks) (zt_k1 rfl (zt_k2 rfl (zi_70 v _) zt_k3) (zt_k1 rfl (zt_k2 rfl (zi_71 v _) zt_k3) (zt_k1 rfl (zt_k2 rfl (zi_72 v _) zt_k3) (zt_k1 rfl (zt_k2 rfl (zi_75 v _) zt_k3) zt_k0))))) zi_76_c
-- X3_keep Y/B
noncomputable def zi_77_K : Nat × (List zt_A × List zt_C × List Nat) × zt_W × List zt_O := (8, ([zjr 0, zjr 11], [], []), [(0, 1, 1), (1, 7, 9), (2, 0, 4), (3, 0, 4), (4, 0, 4), (5, 0, 4), (6, 0, 4), (7, 0, 4), (8, 0, 5), (9, 0, 304), (10, 0, 304)], [(none, [], [], [])])
noncomputable def zi_77_A : zt_An := [(0, [(([some (zjr 0), some (zjr 11), none], [], [], []), .ofNat 63, [])]), (26, [(([some (zjr 0), some (zjr 11), some (zj (.ofNat 0) (.ofNat 61))], [], [], []), .ofNat 62, [(.negSucc 0, 2)])]), (77, [(([some (zjr 0), some (zjr 11), some (zj (.ofNat 0) (.ofNat 61))], [], [], []), .ofNat 0, [])])]
noncomputable def zi_77_Ks : List (Nat × List zt_K) := [(25, [((2, none, false, [(0, 1)]), zi_62_K), ((2, none, false, [(0, 1)]), zi_63_K)]), (31, [((2, some 2, false, [(0, 8), (1, 10)]), zi_64_K)]), (44, [((3, some 2, false, [(0, 8), (1, 10)]), zi_68_K)]), (48, [((3, some 3, true, []), zi_69_K)]), (51, [((4, some 2, false, [(0, 8), (1, 10)]), zi_76_K)])]
noncomputable def zi_77_H : zt_H := ((zo_w8, 8, zo_Sg), (zo_g8, zi_77_K.2.2.1, [0, 1], zo_U), [], (none, zi_77_K.2.2.2, zi_77_K.2.1.1), zi_77_Ks)
theorem zi_77_c : zt_chk zi_77_H (zB_X3_keep, [], [26, 77]) 7 zi_77_A 3 (zo_hd, zi_77_K) = true := by decide +kernel
theorem zi_77 (v : Nat) (hd : Nat × Option Nat × Bool × List (Nat × Nat)) : zt_Con zo_Om (zo_Rel v) (hd, zi_77_K) zF_X3_keep := zt_con (K := (zo_hd, zi_77_K)) (T := zT_X3_keep) (w0 := zo_w8) (G := zo_g8) (zo_UR v) rfl zo_sg rfl rfl rfl (zt_ksok_of (Ks := zi_77_Ks) (zt_k1 rfl (zt_k2 rfl (zi_62 v _) (zt_k2 rfl (zi_63 v _) zt_k3)) (zt_k1 rfl (zt_k2 rfl (zi_64 v _) zt_k3) (zt_k1 rfl (zt_k2 rfl (zi_68 v _) zt_k3) (zt_k1 rfl (zt_k2 rfl (zi_69 v _) zt_k3) (zt_k1 rfl (zt_k2 rfl (zi_76 v _) zt_k3) zt_k0)))))) zi_77_c
-- X9_livedToday X
noncomputable def zi_78_K : Nat × (List zt_A × List zt_C × List Nat) × zt_W × List zt_O := (1, ([zjr 0], [], []), [(21, 1, 1), (22, 7, 9), (23, 0, 4), (24, 0, 4), (25, 0, 4), (26, 0, 4), (27, 0, 4), (28, 0, 4), (29, 0, 5), (30, 0, 304), (31, 0, 304)], [(some (zjr 21), [], [], [])])
noncomputable def zi_78_A : zt_An := [(0, [(([some (zjr 0)], [], [], []), .ofNat 1, [])]), (21, [(([some (zjr 0)], [], [], []), .ofNat 0, [])])]
noncomputable def zi_78_Ks : List (Nat × List zt_K) := [(390, [((2, some 3, false, [(0, 11), (1, 10)]), zi_77_K)])]
noncomputable def zi_78_H : zt_H := ((zo_w1, 1, zo_Sg), (zo_g1, zi_78_K.2.2.1, [0], zo_U), [], ((some (.object "WearingBench$Diary")), zi_78_K.2.2.2, zi_78_K.2.1.1), zi_78_Ks)
theorem zi_78_c : zt_chk zi_78_H (zB_X9_livedToday, [], [21]) 3 zi_78_A 1 (zo_hd, zi_78_K) = true := by decide +kernel
theorem zi_78 (v : Nat) (hd : Nat × Option Nat × Bool × List (Nat × Nat)) : zt_Con zo_Om (zo_Rel v) (hd, zi_78_K) zF_X9_livedToday := zt_con (K := (zo_hd, zi_78_K)) (T := zT_X9_livedToday) (w0 := zo_w1) (G := zo_g1) (zo_UR v) rfl zo_sg rfl rfl rfl (zt_ksok_of (Ks := zi_78_Ks) (zt_k1 rfl (zt_k2 rfl (zi_77 v _) zt_k3) zt_k0)) zi_78_c
-- X3_ageAt Y
noncomputable def zi_79_K : Nat × (List zt_A × List zt_C × List Nat) × zt_W × List zt_O := (9, ([zjr 0, zj (.ofNat 0) (.ofNat 4), zj (.ofNat 0) (.ofNat 60)], [], []), [], [(some (zj (.negSucc 0) (.ofNat 99)), [], [], [])])
noncomputable def zi_79_A : zt_An := [(0, [(([some (zjr 0), some (zj (.ofNat 0) (.ofNat 4)), some (zj (.ofNat 0) (.ofNat 60))], [], [], []), .ofNat 0, [])])]
noncomputable def zi_79_Ks : List (Nat × List zt_K) := []
noncomputable def zi_79_H : zt_H := ((zo_w9, 9, zo_Sg), (zo_g9, zi_79_K.2.2.1, [0, 1, 2], zo_U), [], ((some .int), zi_79_K.2.2.2, zi_79_K.2.1.1), zi_79_Ks)
theorem zi_79_c : zt_chk zi_79_H (zB_X3_ageAt, [], []) 2 zi_79_A 3 (zo_hd, zi_79_K) = true := by decide +kernel
theorem zi_79 (v : Nat) (hd : Nat × Option Nat × Bool × List (Nat × Nat)) : zt_Con zo_Om (zo_Rel v) (hd, zi_79_K) zF_X3_ageAt := zt_con (K := (zo_hd, zi_79_K)) (T := zT_X3_ageAt) (w0 := zo_w9) (G := zo_g9) (zo_UR v) rfl zo_sg rfl rfl rfl (zt_ksok_of (Ks := zi_79_Ks) zt_k0) zi_79_c
end
section
/-! WHAT THE METHODS KEEP, printed by program (wip/abs/ztprint.py) -/
-- X9_age X
noncomputable def zi_80_K : Nat × (List zt_A × List zt_C × List Nat) × zt_W × List zt_O := (1, ([zjr 0, zt_top, zt_top], [], []), [(21, 1, 1), (22, 7, 9), (23, 0, 4), (24, 0, 4), (25, 0, 4), (26, 0, 4), (27, 0, 4), (28, 0, 4), (29, 0, 5), (30, 0, 304), (31, 0, 304)], [(some (zj (.negSucc 1) (.ofNat 99)), [], [], [])])
noncomputable def zi_80_A : zt_An := [(0, [(([some (zjr 0), some zt_top, some zt_top], [], [], []), .ofNat 1, [])]), (18, [(([some (zjr 0), some zt_top, some zt_top], [], [], []), .ofNat 0, [])])]
noncomputable def zi_80_Ks : List (Nat × List zt_K) := [(124, [((2, some 0, false, [(0, 10)]), zi_59_K)]), (142, [((1, none, true, []), zi_61_K)]), (145, [((1, some 9, true, []), zi_78_K)]), (149, [((3, some 3, false, [(0, 11)]), zi_79_K)])]
noncomputable def zi_80_H : zt_H := ((zo_w1, 1, zo_Sg), (zo_g1, zi_80_K.2.2.1, [0, 1, 2], zo_U), [], ((some .int), zi_80_K.2.2.2, zi_80_K.2.1.1), zi_80_Ks)
theorem zi_80_c : zt_chk zi_80_H (zB_X9_age, [], [18]) 8 zi_80_A 3 (zo_hd, zi_80_K) = true := by decide +kernel
theorem zi_80 (v : Nat) (hd : Nat × Option Nat × Bool × List (Nat × Nat)) : zt_Con zo_Om (zo_Rel v) (hd, zi_80_K) zF_X9_age := zt_con (K := (zo_hd, zi_80_K)) (T := zT_X9_age) (w0 := zo_w1) (G := zo_g1) (zo_UR v) rfl zo_sg rfl rfl rfl (zt_ksok_of (Ks := zi_80_Ks) (zt_k1 rfl (zt_k2 rfl (zi_59 v _) zt_k3) (zt_k1 rfl (zt_k2 rfl (zi_61 v _) zt_k3) (zt_k1 rfl (zt_k2 rfl (zi_78 v _) zt_k3) (zt_k1 rfl (zt_k2 rfl (zi_79 v _) zt_k3) zt_k0))))) zi_80_c
-- X3_seatAt Y
noncomputable def zi_81_K : Nat × (List zt_A × List zt_C × List Nat) × zt_W × List zt_O := (9, ([zjr 0, zj (.ofNat 0) (.ofNat 4), zj (.ofNat 0) (.ofNat 60)], [], []), [], [(some (zj (.negSucc 0) (.ofNat 5)), [], [], [])])
noncomputable def zi_81_A : zt_An := [(0, [(([some (zjr 0), some (zj (.ofNat 0) (.ofNat 4)), some (zj (.ofNat 0) (.ofNat 60))], [], [], []), .ofNat 0, [])])]
noncomputable def zi_81_Ks : List (Nat × List zt_K) := []
noncomputable def zi_81_H : zt_H := ((zo_w9, 9, zo_Sg), (zo_g9, zi_81_K.2.2.1, [0, 1, 2], zo_U), [], ((some .int), zi_81_K.2.2.2, zi_81_K.2.1.1), zi_81_Ks)
theorem zi_81_c : zt_chk zi_81_H (zB_X3_seatAt, [], []) 2 zi_81_A 3 (zo_hd, zi_81_K) = true := by decide +kernel
theorem zi_81 (v : Nat) (hd : Nat × Option Nat × Bool × List (Nat × Nat)) : zt_Con zo_Om (zo_Rel v) (hd, zi_81_K) zF_X3_seatAt := zt_con (K := (zo_hd, zi_81_K)) (T := zT_X3_seatAt) (w0 := zo_w9) (G := zo_g9) (zo_UR v) rfl zo_sg rfl rfl rfl (zt_ksok_of (Ks := zi_81_Ks) zt_k0) zi_81_c
-- X9_sits X
noncomputable def zi_82_K : Nat × (List zt_A × List zt_C × List Nat) × zt_W × List zt_O := (1, ([zjr 0, zt_top, zt_top], [], []), [(21, 1, 1), (22, 7, 9), (23, 0, 4), (24, 0, 4), (25, 0, 4), (26, 0, 4), (27, 0, 4), (28, 0, 4), (29, 0, 5), (30, 0, 304), (31, 0, 304)], [(some (zj (.negSucc 1) (.ofNat 5)), [], [], [])])
noncomputable def zi_82_A : zt_An := [(0, [(([some (zjr 0), some zt_top, some zt_top], [], [], []), .ofNat 1, [])]), (18, [(([some (zjr 0), some zt_top, some zt_top], [], [], []), .ofNat 0, [])])]
noncomputable def zi_82_Ks : List (Nat × List zt_K) := [(124, [((2, some 0, false, [(0, 10)]), zi_59_K)]), (142, [((1, none, true, []), zi_61_K)]), (145, [((1, some 9, true, []), zi_78_K)]), (153, [((3, some 3, false, [(0, 11)]), zi_81_K)])]
noncomputable def zi_82_H : zt_H := ((zo_w1, 1, zo_Sg), (zo_g1, zi_82_K.2.2.1, [0, 1, 2], zo_U), [], ((some .int), zi_82_K.2.2.2, zi_82_K.2.1.1), zi_82_Ks)
theorem zi_82_c : zt_chk zi_82_H (zB_X9_sits, [], [18]) 8 zi_82_A 3 (zo_hd, zi_82_K) = true := by decide +kernel
theorem zi_82 (v : Nat) (hd : Nat × Option Nat × Bool × List (Nat × Nat)) : zt_Con zo_Om (zo_Rel v) (hd, zi_82_K) zF_X9_sits := zt_con (K := (zo_hd, zi_82_K)) (T := zT_X9_sits) (w0 := zo_w1) (G := zo_g1) (zo_UR v) rfl zo_sg rfl rfl rfl (zt_ksok_of (Ks := zi_82_Ks) (zt_k1 rfl (zt_k2 rfl (zi_59 v _) zt_k3) (zt_k1 rfl (zt_k2 rfl (zi_61 v _) zt_k3) (zt_k1 rfl (zt_k2 rfl (zi_78 v _) zt_k3) (zt_k1 rfl (zt_k2 rfl (zi_81 v _) zt_k3) zt_k0))))) zi_82_c
-- X9_hasBench X
noncomputable def zi_83_K : Nat × (List zt_A × List zt_C × List Nat) × zt_W × List zt_O := (1, ([zjr 0], [], []), [], [(some ((0, .ofNat 0, .ofNat 0, 0, [])), [], [((1, 1, 0), .negSucc 2147483647, .ofNat 0)], []), (some ((0, .ofNat 1, .ofNat 1, 0, [])), [], [((1, 1, 0), .ofNat 1, .ofNat 2147483647)], [])])
noncomputable def zi_83_A : zt_An := [(0, [(([some (zjr 0)], [], [], []), .ofNat 1, [])]), (15, [(([some (zjr 0)], [(0, .ofNat 0, .ofNat 0, 0, [])], [((1, 1, 0), .negSucc 2147483647, .ofNat 0)], []), .ofNat 0, []), (([some (zjr 0)], [(0, .ofNat 1, .ofNat 1, 0, [])], [((1, 1, 0), .ofNat 1, .ofNat 2147483647)], []), .ofNat 0, [])])]
noncomputable def zi_83_Ks : List (Nat × List zt_K) := []
noncomputable def zi_83_H : zt_H := ((zo_w1, 1, zo_Sg), (zo_g1, zi_83_K.2.2.1, [0], zo_U), [], ((some .boolean), zi_83_K.2.2.2, zi_83_K.2.1.1), zi_83_Ks)
theorem zi_83_c : zt_chk zi_83_H (zB_X9_hasBench, [], [15]) 3 zi_83_A 1 (zo_hd, zi_83_K) = true := by decide +kernel
theorem zi_83 (v : Nat) (hd : Nat × Option Nat × Bool × List (Nat × Nat)) : zt_Con zo_Om (zo_Rel v) (hd, zi_83_K) zF_X9_hasBench := zt_con (K := (zo_hd, zi_83_K)) (T := zT_X9_hasBench) (w0 := zo_w1) (G := zo_g1) (zo_UR v) rfl zo_sg rfl rfl rfl (zt_ksok_of (Ks := zi_83_Ks) zt_k0) zi_83_c
-- X9_isMinute X
noncomputable def zi_84_K : Nat × (List zt_A × List zt_C × List Nat) × zt_W × List zt_O := (1, ([zt_top], [((1, 1, 0), .ofNat 1, .ofNat 2147483647)], []), [], [(some ((0, .ofNat 1, .ofNat 1, 0, [])), [(0, .ofNat 0, .ofNat 60)], [((1, 1, 0), .ofNat 1, .ofNat 2147483647)], []), (some ((0, .ofNat 0, .ofNat 0, 0, [])), [], [((1, 1, 0), .ofNat 1, .ofNat 2147483647)], [])])
noncomputable def zi_84_A : zt_An := [(0, [(([some zt_top], [], [((1, 1, 0), .ofNat 1, .ofNat 2147483647)], []), .ofNat 2, [])]), (14, [(([some zt_top], [], [((1, 1, 0), .ofNat 1, .ofNat 2147483647)], []), .ofNat 1, [])]), (15, [(([some (zj (.ofNat 0) (.ofNat 60))], [(0, .ofNat 1, .ofNat 1, 0, [])], [((1, 1, 0), .ofNat 1, .ofNat 2147483647)], []), .ofNat 0, []), (([some zt_top], [(0, .ofNat 0, .ofNat 0, 0, [])], [((1, 1, 0), .ofNat 1, .ofNat 2147483647)], []), .ofNat 0, [])])]
noncomputable def zi_84_Ks : List (Nat × List zt_K) := []
noncomputable def zi_84_H : zt_H := ((zo_w1, 1, zo_Sg), (zo_g1, zi_84_K.2.2.1, [0], zo_U), [], ((some .boolean), zi_84_K.2.2.2, zi_84_K.2.1.1), zi_84_Ks)
theorem zi_84_c : zt_chk zi_84_H (zB_X9_isMinute, [], [14, 15]) 4 zi_84_A 1 (zo_hd, zi_84_K) = true := by decide +kernel
theorem zi_84 (v : Nat) (hd : Nat × Option Nat × Bool × List (Nat × Nat)) : zt_Con zo_Om (zo_Rel v) (hd, zi_84_K) zF_X9_isMinute := zt_con (K := (zo_hd, zi_84_K)) (T := zT_X9_isMinute) (w0 := zo_w1) (G := zo_g1) (zo_UR v) rfl zo_sg rfl rfl rfl (zt_ksok_of (Ks := zi_84_Ks) zt_k0) zi_84_c
-- X9_livedToday X
noncomputable def zi_85_K : Nat × (List zt_A × List zt_C × List Nat) × zt_W × List zt_O := (1, ([zjr 0], [((1, 1, 0), .ofNat 1, .ofNat 2147483647)], []), [(21, 1, 1), (22, 7, 9), (23, 0, 4), (24, 0, 4), (25, 0, 4), (26, 0, 4), (27, 0, 4), (28, 0, 4), (29, 0, 5), (30, 0, 304), (31, 0, 304)], [(some (zjr 21), [], [((1, 1, 0), .ofNat 1, .ofNat 2147483647)], [])])
noncomputable def zi_85_A : zt_An := [(0, [(([some (zjr 0)], [], [((1, 1, 0), .ofNat 1, .ofNat 2147483647)], []), .ofNat 1, [])]), (21, [(([some (zjr 0)], [], [((1, 1, 0), .ofNat 1, .ofNat 2147483647)], []), .ofNat 0, [])])]
noncomputable def zi_85_Ks : List (Nat × List zt_K) := [(390, [((2, some 3, false, [(0, 11), (1, 10)]), zi_77_K)])]
noncomputable def zi_85_H : zt_H := ((zo_w1, 1, zo_Sg), (zo_g1, zi_85_K.2.2.1, [0], zo_U), [], ((some (.object "WearingBench$Diary")), zi_85_K.2.2.2, zi_85_K.2.1.1), zi_85_Ks)
theorem zi_85_c : zt_chk zi_85_H (zB_X9_livedToday, [], [21]) 3 zi_85_A 1 (zo_hd, zi_85_K) = true := by decide +kernel
theorem zi_85 (v : Nat) (hd : Nat × Option Nat × Bool × List (Nat × Nat)) : zt_Con zo_Om (zo_Rel v) (hd, zi_85_K) zF_X9_livedToday := zt_con (K := (zo_hd, zi_85_K)) (T := zT_X9_livedToday) (w0 := zo_w1) (G := zo_g1) (zo_UR v) rfl zo_sg rfl rfl rfl (zt_ksok_of (Ks := zi_85_Ks) (zt_k1 rfl (zt_k2 rfl (zi_77 v _) zt_k3) zt_k0)) zi_85_c
-- X3_isThere Y
noncomputable def zi_86_K : Nat × (List zt_A × List zt_C × List Nat) × zt_W × List zt_O := (9, ([zjr 0, zj (.ofNat 0) (.ofNat 4), zj (.ofNat 0) (.ofNat 60)], [], []), [], [(some ((0, .ofNat 0, .ofNat 0, 0, [])), [], [], []), (some ((0, .ofNat 1, .ofNat 1, 0, [])), [], [], [])])
noncomputable def zi_86_A : zt_An := [(0, [(([some (zjr 0), some (zj (.ofNat 0) (.ofNat 4)), some (zj (.ofNat 0) (.ofNat 60))], [], [], []), .ofNat 1, [])]), (15, [(([some (zjr 0), some (zj (.ofNat 0) (.ofNat 4)), some (zj (.ofNat 0) (.ofNat 60))], [(0, .ofNat 0, .ofNat 0, 0, [])], [], []), .ofNat 0, []), (([some (zjr 0), some (zj (.ofNat 0) (.ofNat 4)), some (zj (.ofNat 0) (.ofNat 60))], [(0, .ofNat 1, .ofNat 1, 0, [])], [], []), .ofNat 0, [])])]
noncomputable def zi_86_Ks : List (Nat × List zt_K) := [(65, [((3, some 3, true, []), zi_79_K)])]
noncomputable def zi_86_H : zt_H := ((zo_w9, 9, zo_Sg), (zo_g9, zi_86_K.2.2.1, [0, 1, 2], zo_U), [], ((some .boolean), zi_86_K.2.2.2, zi_86_K.2.1.1), zi_86_Ks)
theorem zi_86_c : zt_chk zi_86_H (zB_X3_isThere, [], [15]) 4 zi_86_A 3 (zo_hd, zi_86_K) = true := by decide +kernel
theorem zi_86 (v : Nat) (hd : Nat × Option Nat × Bool × List (Nat × Nat)) : zt_Con zo_Om (zo_Rel v) (hd, zi_86_K) zF_X3_isThere := zt_con (K := (zo_hd, zi_86_K)) (T := zT_X3_isThere) (w0 := zo_w9) (G := zo_g9) (zo_UR v) rfl zo_sg rfl rfl rfl (zt_ksok_of (Ks := zi_86_Ks) (zt_k1 rfl (zt_k2 rfl (zi_79 v _) zt_k3) zt_k0)) zi_86_c
-- X9_stands X
noncomputable def zi_87_K : Nat × (List zt_A × List zt_C × List Nat) × zt_W × List zt_O := (1, ([zjr 0, zt_top], [], []), [(21, 1, 1), (22, 7, 9), (23, 0, 4), (24, 0, 4), (25, 0, 4), (26, 0, 4), (27, 0, 4), (28, 0, 4), (29, 0, 5), (30, 0, 304), (31, 0, 304)], [(some (zt_top), [], [], [])])
noncomputable def zi_87_A : zt_An := [(0, [(([some (zjr 0), some zt_top, none, none, none], [], [], []), .ofNat 12, [])]), (14, [(([some (zjr 0), some zt_top, none, none, none], [], [((1, 1, 0), .negSucc 2147483647, .ofNat 2147483647)], []), .ofNat 0, [])]), (27, [(([some (zjr 0), some (zj (.ofNat 0) (.ofNat 60)), some (zjr 21), some zt_top, some (zj (.ofNat 0) (.ofNat 5))], [], [((1, 1, 0), .ofNat 1, .ofNat 2147483647)], []), .ofNat 11, [(.negSucc 1, 4)])]), (67, [(([some (zjr 0), some (zj (.ofNat 0) (.ofNat 60)), some (zjr 21), some zt_top, some (zj (.ofNat 0) (.ofNat 4))], [], [((1, 1, 0), .ofNat 1, .ofNat 2147483647), ((1, 1, 6), .ofNat 1, .ofNat 5)], []), .ofNat 10, [(.negSucc 1, 4)])])]
noncomputable def zi_87_Ks : List (Nat × List zt_K) := [(142, [((1, none, true, []), zi_84_K)]), (145, [((1, some 9, true, []), zi_85_K)]), (153, [((3, some 3, false, [(0, 11)]), zi_81_K)]), (156, [((1, some 9, true, []), zi_83_K)]), (163, [((3, some 3, false, [(0, 11)]), zi_86_K)])]
noncomputable def zi_87_H : zt_H := ((zo_w1, 1, zo_Sg), (zo_g1, zi_87_K.2.2.1, [0, 1], zo_U), [], ((some .int), zi_87_K.2.2.2, zi_87_K.2.1.1), zi_87_Ks)
theorem zi_87_c : zt_chk zi_87_H (zB_X9_stands, [], [14, 27, 67]) 7 zi_87_A 5 (zo_hd, zi_87_K) = true := by decide +kernel
theorem zi_87 (v : Nat) (hd : Nat × Option Nat × Bool × List (Nat × Nat)) : zt_Con zo_Om (zo_Rel v) (hd, zi_87_K) zF_X9_stands := zt_con (K := (zo_hd, zi_87_K)) (T := zT_X9_stands) (w0 := zo_w1) (G := zo_g1) (zo_UR v) rfl zo_sg rfl rfl rfl (zt_ksok_of (Ks := zi_87_Ks) (zt_k1 rfl (zt_k2 rfl (zi_84 v _) zt_k3) (zt_k1 rfl (zt_k2 rfl (zi_85 v _) zt_k3) (zt_k1 rfl (zt_k2 rfl (zi_81 v _) zt_k3) (zt_k1 rfl (zt_k2 rfl (zi_83 v _) zt_k3) (zt_k1 rfl (zt_k2 rfl (zi_86 v _) zt_k3) zt_k0)))))) zi_87_c
-- X9_free X
noncomputable def zi_88_K : Nat × (List zt_A × List zt_C × List Nat) × zt_W × List zt_O := (1, ([zjr 0, zt_top], [], []), [(21, 1, 1), (22, 7, 9), (23, 0, 4), (24, 0, 4), (25, 0, 4), (26, 0, 4), (27, 0, 4), (28, 0, 4), (29, 0, 5), (30, 0, 304), (31, 0, 304)], [(some (zj (.negSucc 1) (.ofNat 63)), [], [], [])])
noncomputable def zi_88_A : zt_An := [(0, [(([some (zjr 0), some zt_top, none, none, none, none], [], [], []), .ofNat 12, [])]), (14, [(([some (zjr 0), some zt_top, none, none, none, none], [], [((1, 1, 0), .negSucc 2147483647, .ofNat 2147483647)], []), .ofNat 0, [])]), (37, [(([some (zjr 0), some (zj (.ofNat 0) (.ofNat 60)), some (zjr 21), some (zj (.ofNat 0) (.ofNat 63)), some (zj (.ofNat 0) (.ofNat 5)), none], [], [((1, 1, 0), .ofNat 1, .ofNat 2147483647)], []), .ofNat 11, [(.negSucc 1, 4)])]), (73, [(([some (zjr 0), some (zj (.ofNat 0) (.ofNat 60)), some (zjr 21), some (zj (.ofNat 0) (.ofNat 63)), some (zj (.ofNat 0) (.ofNat 4)), some (zj (.negSucc 0) (.ofNat 5))], [], [((1, 1, 0), .ofNat 1, .ofNat 2147483647), ((1, 1, 6), .ofNat 1, .ofNat 5)], []), .ofNat 10, [(.negSucc 1, 4)])])]
noncomputable def zi_88_Ks : List (Nat × List zt_K) := [(142, [((1, none, true, []), zi_84_K)]), (145, [((1, some 9, true, []), zi_85_K)]), (153, [((3, some 3, false, [(0, 11)]), zi_81_K)]), (156, [((1, some 9, true, []), zi_83_K)])]
noncomputable def zi_88_H : zt_H := ((zo_w1, 1, zo_Sg), (zo_g1, zi_88_K.2.2.1, [0, 1], zo_U), [], ((some .int), zi_88_K.2.2.2, zi_88_K.2.1.1), zi_88_Ks)
theorem zi_88_c : zt_chk zi_88_H (zB_X9_free, [], [14, 37, 73]) 7 zi_88_A 6 (zo_hd, zi_88_K) = true := by decide +kernel
theorem zi_88 (v : Nat) (hd : Nat × Option Nat × Bool × List (Nat × Nat)) : zt_Con zo_Om (zo_Rel v) (hd, zi_88_K) zF_X9_free := zt_con (K := (zo_hd, zi_88_K)) (T := zT_X9_free) (w0 := zo_w1) (G := zo_g1) (zo_UR v) rfl zo_sg rfl rfl rfl (zt_ksok_of (Ks := zi_88_Ks) (zt_k1 rfl (zt_k2 rfl (zi_84 v _) zt_k3) (zt_k1 rfl (zt_k2 rfl (zi_85 v _) zt_k3) (zt_k1 rfl (zt_k2 rfl (zi_81 v _) zt_k3) (zt_k1 rfl (zt_k2 rfl (zi_83 v _) zt_k3) zt_k0))))) zi_88_c
-- X9_goes X
noncomputable def zi_89_K : Nat × (List zt_A × List zt_C × List Nat) × zt_W × List zt_O := (1, ([zjr 0, zt_top], [], []), [(21, 1, 1), (22, 7, 9), (23, 0, 4), (24, 0, 4), (25, 0, 4), (26, 0, 4), (27, 0, 4), (28, 0, 4), (29, 0, 5), (30, 0, 304), (31, 0, 304)], [(some (zj (.negSucc 1) (.ofNat 4)), [], [], [])])
noncomputable def zi_89_A : zt_An := [(0, [(([some (zjr 0), some zt_top, none, none], [], [], []), .ofNat 6, [])]), (14, [(([some (zjr 0), some zt_top, none, none], [], [((1, 1, 0), .negSucc 2147483647, .ofNat 2147483647)], []), .ofNat 0, [])]), (27, [(([some (zjr 0), some (zj (.ofNat 0) (.ofNat 60)), some (zjr 22), some (zj (.ofNat 0) (.ofNat 5))], [], [((1, 1, 0), .ofNat 1, .ofNat 2147483647)], []), .ofNat 5, [(.negSucc 0, 3)])])]
noncomputable def zi_89_Ks : List (Nat × List zt_K) := [(142, [((1, none, true, []), zi_84_K)]), (145, [((1, some 9, true, []), zi_85_K)]), (156, [((1, some 9, true, []), zi_83_K)])]
noncomputable def zi_89_H : zt_H := ((zo_w1, 1, zo_Sg), (zo_g1, zi_89_K.2.2.1, [0, 1], zo_U), [], ((some .int), zi_89_K.2.2.2, zi_89_K.2.1.1), zi_89_Ks)
theorem zi_89_c : zt_chk zi_89_H (zB_X9_goes, [], [14, 27]) 7 zi_89_A 4 (zo_hd, zi_89_K) = true := by decide +kernel
theorem zi_89 (v : Nat) (hd : Nat × Option Nat × Bool × List (Nat × Nat)) : zt_Con zo_Om (zo_Rel v) (hd, zi_89_K) zF_X9_goes := zt_con (K := (zo_hd, zi_89_K)) (T := zT_X9_goes) (w0 := zo_w1) (G := zo_g1) (zo_UR v) rfl zo_sg rfl rfl rfl (zt_ksok_of (Ks := zi_89_Ks) (zt_k1 rfl (zt_k2 rfl (zi_84 v _) zt_k3) (zt_k1 rfl (zt_k2 rfl (zi_85 v _) zt_k3) (zt_k1 rfl (zt_k2 rfl (zi_83 v _) zt_k3) zt_k0)))) zi_89_c
-- X9_called X
noncomputable def zi_90_K : Nat × (List zt_A × List zt_C × List Nat) × zt_W × List zt_O := (1, ([zjr 0, zt_top], [], []), [(21, 1, 1), (22, 7, 9), (23, 0, 4), (24, 0, 4), (25, 0, 4), (26, 0, 4), (27, 0, 4), (28, 0, 4), (29, 0, 5), (30, 0, 304), (31, 0, 304)], [(some (zt_top), [], [], [])])
noncomputable def zi_90_A : zt_An := [(0, [(([some (zjr 0), some zt_top], [], [], []), .ofNat 1, [])]), (28, [(([some (zjr 0), some zt_top], [zt_top], [], []), .ofNat 0, [])])]
noncomputable def zi_90_Ks : List (Nat × List zt_K) := [(124, [((2, some 0, false, [(0, 10)]), zi_59_K)]), (145, [((1, some 9, true, []), zi_78_K)])]
noncomputable def zi_90_H : zt_H := ((zo_w1, 1, zo_Sg), (zo_g1, zi_90_K.2.2.1, [0, 1], zo_U), [], ((some .int), zi_90_K.2.2.2, zi_90_K.2.1.1), zi_90_Ks)
theorem zi_90_c : zt_chk zi_90_H (zB_X9_called, [], [28]) 5 zi_90_A 2 (zo_hd, zi_90_K) = true := by decide +kernel
theorem zi_90 (v : Nat) (hd : Nat × Option Nat × Bool × List (Nat × Nat)) : zt_Con zo_Om (zo_Rel v) (hd, zi_90_K) zF_X9_called := zt_con (K := (zo_hd, zi_90_K)) (T := zT_X9_called) (w0 := zo_w1) (G := zo_g1) (zo_UR v) rfl zo_sg rfl rfl rfl (zt_ksok_of (Ks := zi_90_Ks) (zt_k1 rfl (zt_k2 rfl (zi_59 v _) zt_k3) (zt_k1 rfl (zt_k2 rfl (zi_78 v _) zt_k3) zt_k0))) zi_90_c
-- X2_endOf D/B
noncomputable def zi_91_K : Nat × (List zt_A × List zt_C × List Nat) × zt_W × List zt_O := (7, ([zjr 0, zjr 8, zj (.ofNat 0) (.ofNat 4)], [], []), [], [(some ((0, .ofNat 1, .ofNat 1, 0, [])), [], [], []), (some (zj (.ofNat 2) (.ofNat 3)), [], [], []), (some ((0, .ofNat 0, .ofNat 0, 0, [])), [], [], [])])
noncomputable def zi_91_A : zt_An := [(0, [(([some (zjr 0), some (zjr 8), some (zj (.ofNat 0) (.ofNat 4))], [], [], []), .ofNat 1, [])]), (49, [(([some (zjr 0), some (zjr 8), some (zj (.ofNat 0) (.ofNat 4))], [(0, .ofNat 0, .ofNat 0, 0, [])], [((2, 5, 2), .negSucc 2147483647, .ofNat 2147483647), ((2, 6, 2), .ofNat 0, .ofNat 99), ((2, 13, 2), .ofNat 0, .ofNat 99), ((2, 14, 2), .ofNat 0, .ofNat 99)], []), .ofNat 0, []), (([some (zjr 0), some (zjr 8), some (zj (.ofNat 0) (.ofNat 4))], [(0, .ofNat 2, .ofNat 2, 0, [])], [((2, 5, 2), .negSucc 2147483647, .ofNat 2147483647), ((2, 6, 2), .ofNat 1, .ofNat 99), ((2, 13, 2), .ofNat 0, .ofNat 99), ((2, 14, 2), .ofNat 0, .ofNat 98)], []), .ofNat 0, [])])]
noncomputable def zi_91_Ks : List (Nat × List zt_K) := []
noncomputable def zi_91_H : zt_H := ((zo_w7, 7, zo_Sg), (zo_g7, zi_91_K.2.2.1, [0, 1, 2], zo_U), [], ((some .int), zi_91_K.2.2.2, zi_91_K.2.1.1), zi_91_Ks)
theorem zi_91_c : zt_chk zi_91_H (zB_X2_endOf, [], [49]) 5 zi_91_A 3 (zo_hd, zi_91_K) = true := by decide +kernel
theorem zi_91 (v : Nat) (hd : Nat × Option Nat × Bool × List (Nat × Nat)) : zt_Con zo_Om (zo_Rel v) (hd, zi_91_K) zF_X2_endOf := zt_con (K := (zo_hd, zi_91_K)) (T := zT_X2_endOf) (w0 := zo_w7) (G := zo_g7) (zo_UR v) rfl zo_sg rfl rfl rfl (zt_ksok_of (Ks := zi_91_Ks) zt_k0) zi_91_c
-- X9_ends X
noncomputable def zi_92_K : Nat × (List zt_A × List zt_C × List Nat) × zt_W × List zt_O := (1, ([zjr 0, zt_top], [], []), [(21, 1, 1), (22, 7, 9), (23, 0, 4), (24, 0, 4), (25, 0, 4), (26, 0, 4), (27, 0, 4), (28, 0, 4), (29, 0, 5), (30, 0, 304), (31, 0, 304)], [(some ((0, .ofNat 1, .ofNat 1, 0, [])), [(1, .ofNat 0, .ofNat 4)], [], []), (some (zj (.negSucc 1) (.ofNat 3)), [], [], []), (some ((0, .ofNat 0, .ofNat 0, 0, [])), [(1, .ofNat 0, .ofNat 4)], [], [])])
noncomputable def zi_92_A : zt_An := [(0, [(([some (zjr 0), some zt_top], [], [], []), .ofNat 1, [])]), (31, [(([some (zjr 0), some (zj (.ofNat 0) (.ofNat 4))], [(0, .ofNat 1, .ofNat 1, 0, [])], [], []), .ofNat 0, []), (([some (zjr 0), some zt_top], [zj (.negSucc 1) (.ofNat 3)], [], []), .ofNat 0, []), (([some (zjr 0), some (zj (.ofNat 0) (.ofNat 4))], [(0, .ofNat 0, .ofNat 0, 0, [])], [], []), .ofNat 0, [])])]
noncomputable def zi_92_Ks : List (Nat × List zt_K) := [(124, [((2, some 0, false, [(0, 10)]), zi_59_K)]), (145, [((1, some 9, true, []), zi_78_K)]), (176, [((3, some 2, false, [(0, 8), (1, 10)]), zi_91_K)])]
noncomputable def zi_92_H : zt_H := ((zo_w1, 1, zo_Sg), (zo_g1, zi_92_K.2.2.1, [0, 1], zo_U), [], ((some .int), zi_92_K.2.2.2, zi_92_K.2.1.1), zi_92_Ks)
theorem zi_92_c : zt_chk zi_92_H (zB_X9_ends, [], [31]) 6 zi_92_A 2 (zo_hd, zi_92_K) = true := by decide +kernel
theorem zi_92 (v : Nat) (hd : Nat × Option Nat × Bool × List (Nat × Nat)) : zt_Con zo_Om (zo_Rel v) (hd, zi_92_K) zF_X9_ends := zt_con (K := (zo_hd, zi_92_K)) (T := zT_X9_ends) (w0 := zo_w1) (G := zo_g1) (zo_UR v) rfl zo_sg rfl rfl rfl (zt_ksok_of (Ks := zi_92_Ks) (zt_k1 rfl (zt_k2 rfl (zi_59 v _) zt_k3) (zt_k1 rfl (zt_k2 rfl (zi_78 v _) zt_k3) (zt_k1 rfl (zt_k2 rfl (zi_91 v _) zt_k3) zt_k0)))) zi_92_c
-- X2_toldBits D/B
noncomputable def zi_93_K : Nat × (List zt_A × List zt_C × List Nat) × zt_W × List zt_O := (7, ([zjr 0, zjr 8], [], []), [], [(some (zt_top), [], [], [])])
noncomputable def zi_93_A : zt_An := [(0, [(([some (zjr 0), some (zjr 8), none, none], [], [], []), .ofNat 12, [])]), (4, [(([some (zjr 0), some (zjr 8), some zt_top, some (zj (.ofNat 0) (.ofNat 5))], [], [], []), .ofNat 11, [(.negSucc 1, 3)])]), (27, [(([some (zjr 0), some (zjr 8), some zt_top, some (zj (.ofNat 0) (.ofNat 4))], [], [((1, 8, 6), .ofNat 1, .ofNat 5)], []), .ofNat 10, [(.negSucc 1, 3)])])]
noncomputable def zi_93_Ks : List (Nat × List zt_K) := [(148, [((3, some 2, true, []), zi_91_K)])]
noncomputable def zi_93_H : zt_H := ((zo_w7, 7, zo_Sg), (zo_g7, zi_93_K.2.2.1, [0, 1], zo_U), [], ((some .int), zi_93_K.2.2.2, zi_93_K.2.1.1), zi_93_Ks)
theorem zi_93_c : zt_chk zi_93_H (zB_X2_toldBits, [], [4, 27]) 5 zi_93_A 4 (zo_hd, zi_93_K) = true := by decide +kernel
theorem zi_93 (v : Nat) (hd : Nat × Option Nat × Bool × List (Nat × Nat)) : zt_Con zo_Om (zo_Rel v) (hd, zi_93_K) zF_X2_toldBits := zt_con (K := (zo_hd, zi_93_K)) (T := zT_X2_toldBits) (w0 := zo_w7) (G := zo_g7) (zo_UR v) rfl zo_sg rfl rfl rfl (zt_ksok_of (Ks := zi_93_Ks) (zt_k1 rfl (zt_k2 rfl (zi_91 v _) zt_k3) zt_k0)) zi_93_c
-- X9_told X
noncomputable def zi_94_K : Nat × (List zt_A × List zt_C × List Nat) × zt_W × List zt_O := (1, ([zjr 0], [], []), [(21, 1, 1), (22, 7, 9), (23, 0, 4), (24, 0, 4), (25, 0, 4), (26, 0, 4), (27, 0, 4), (28, 0, 4), (29, 0, 5), (30, 0, 304), (31, 0, 304)], [(some (zt_top), [], [], [])])
noncomputable def zi_94_A : zt_An := [(0, [(([some (zjr 0)], [], [], []), .ofNat 1, [])]), (26, [(([some (zjr 0)], [zt_top], [((1, 1, 0), .negSucc 2147483647, .ofNat 2147483647)], []), .ofNat 0, [])])]
noncomputable def zi_94_Ks : List (Nat × List zt_K) := [(145, [((1, some 9, true, []), zi_85_K)]), (156, [((1, some 9, true, []), zi_83_K)]), (180, [((2, some 2, false, [(0, 8), (1, 10)]), zi_93_K)])]
noncomputable def zi_94_H : zt_H := ((zo_w1, 1, zo_Sg), (zo_g1, zi_94_K.2.2.1, [0], zo_U), [], ((some .int), zi_94_K.2.2.2, zi_94_K.2.1.1), zi_94_Ks)
theorem zi_94_c : zt_chk zi_94_H (zB_X9_told, [], [26]) 6 zi_94_A 1 (zo_hd, zi_94_K) = true := by decide +kernel
theorem zi_94 (v : Nat) (hd : Nat × Option Nat × Bool × List (Nat × Nat)) : zt_Con zo_Om (zo_Rel v) (hd, zi_94_K) zF_X9_told := zt_con (K := (zo_hd, zi_94_K)) (T := zT_X9_told) (w0 := zo_w1) (G := zo_g1) (zo_UR v) rfl zo_sg rfl rfl rfl (zt_ksok_of (Ks := zi_94_Ks) (zt_k1 rfl (zt_k2 rfl (zi_85 v _) zt_k3) (zt_k1 rfl (zt_k2 rfl (zi_83 v _) zt_k3) (zt_k1 rfl (zt_k2 rfl (zi_93 v _) zt_k3) zt_k0)))) zi_94_c
-- X2_forgottenBits D/B
noncomputable def zi_95_K : Nat × (List zt_A × List zt_C × List Nat) × zt_W × List zt_O := (7, ([zjr 0, zjr 8], [], []), [], [(some (zt_top), [], [], [])])
noncomputable def zi_95_A : zt_An := [(0, [(([some (zjr 0), some (zjr 8), none, none], [], [], []), .ofNat 12, [])]), (4, [(([some (zjr 0), some (zjr 8), some zt_top, some (zj (.ofNat 0) (.ofNat 5))], [], [], []), .ofNat 11, [(.negSucc 1, 3)])]), (28, [(([some (zjr 0), some (zjr 8), some zt_top, some (zj (.ofNat 0) (.ofNat 4))], [], [((1, 8, 6), .ofNat 1, .ofNat 5), ((2, 5, 3), .negSucc 2147483647, .ofNat 2147483647)], []), .ofNat 10, [(.negSucc 1, 3)])])]
noncomputable def zi_95_Ks : List (Nat × List zt_K) := []
noncomputable def zi_95_H : zt_H := ((zo_w7, 7, zo_Sg), (zo_g7, zi_95_K.2.2.1, [0, 1], zo_U), [], ((some .int), zi_95_K.2.2.2, zi_95_K.2.1.1), zi_95_Ks)
theorem zi_95_c : zt_chk zi_95_H (zB_X2_forgottenBits, [], [4, 28]) 4 zi_95_A 4 (zo_hd, zi_95_K) = true := by decide +kernel
theorem zi_95 (v : Nat) (hd : Nat × Option Nat × Bool × List (Nat × Nat)) : zt_Con zo_Om (zo_Rel v) (hd, zi_95_K) zF_X2_forgottenBits := zt_con (K := (zo_hd, zi_95_K)) (T := zT_X2_forgottenBits) (w0 := zo_w7) (G := zo_g7) (zo_UR v) rfl zo_sg rfl rfl rfl (zt_ksok_of (Ks := zi_95_Ks) zt_k0) zi_95_c
-- X9_forgotten X
noncomputable def zi_96_K : Nat × (List zt_A × List zt_C × List Nat) × zt_W × List zt_O := (1, ([zjr 0], [], []), [(21, 1, 1), (22, 7, 9), (23, 0, 4), (24, 0, 4), (25, 0, 4), (26, 0, 4), (27, 0, 4), (28, 0, 4), (29, 0, 5), (30, 0, 304), (31, 0, 304)], [(some (zt_top), [], [], [])])
noncomputable def zi_96_A : zt_An := [(0, [(([some (zjr 0)], [], [], []), .ofNat 1, [])]), (26, [(([some (zjr 0)], [zt_top], [((1, 1, 0), .negSucc 2147483647, .ofNat 2147483647)], []), .ofNat 0, [])])]
noncomputable def zi_96_Ks : List (Nat × List zt_K) := [(145, [((1, some 9, true, []), zi_85_K)]), (156, [((1, some 9, true, []), zi_83_K)]), (184, [((2, some 2, false, [(0, 8), (1, 10)]), zi_95_K)])]
noncomputable def zi_96_H : zt_H := ((zo_w1, 1, zo_Sg), (zo_g1, zi_96_K.2.2.1, [0], zo_U), [], ((some .int), zi_96_K.2.2.2, zi_96_K.2.1.1), zi_96_Ks)
theorem zi_96_c : zt_chk zi_96_H (zB_X9_forgotten, [], [26]) 6 zi_96_A 1 (zo_hd, zi_96_K) = true := by decide +kernel
theorem zi_96 (v : Nat) (hd : Nat × Option Nat × Bool × List (Nat × Nat)) : zt_Con zo_Om (zo_Rel v) (hd, zi_96_K) zF_X9_forgotten := zt_con (K := (zo_hd, zi_96_K)) (T := zT_X9_forgotten) (w0 := zo_w1) (G := zo_g1) (zo_UR v) rfl zo_sg rfl rfl rfl (zt_ksok_of (Ks := zi_96_Ks) (zt_k1 rfl (zt_k2 rfl (zi_85 v _) zt_k3) (zt_k1 rfl (zt_k2 rfl (zi_83 v _) zt_k3) (zt_k1 rfl (zt_k2 rfl (zi_95 v _) zt_k3) zt_k0)))) zi_96_c
-- X9_gun X
noncomputable def zi_97_K : Nat × (List zt_A × List zt_C × List Nat) × zt_W × List zt_O := (1, ([zjr 0], [], []), [(21, 1, 1), (22, 7, 9), (23, 0, 4), (24, 0, 4), (25, 0, 4), (26, 0, 4), (27, 0, 4), (28, 0, 4), (29, 0, 5), (30, 0, 304), (31, 0, 304)], [(some (zt_top), [], [], [])])
noncomputable def zi_97_A : zt_An := [(0, [(([some (zjr 0), none, none, none, none], [], [], []), .ofNat 24, [])]), (22, [(([some (zjr 0), some (zjr 22), some zt_top, some (zj (.ofNat 0) (.ofNat 5)), none], [], [((1, 1, 0), .ofNat 1, .ofNat 2147483647)], []), .ofNat 23, [(.negSucc 3, 3)])]), (51, [(([some (zjr 0), some (zjr 22), some zt_top, some (zj (.ofNat 0) (.ofNat 4)), none], [(0, .ofNat 1, .ofNat 1, 0, [])], [((1, 1, 0), .ofNat 1, .ofNat 2147483647), ((1, 1, 6), .ofNat 1, .ofNat 5)], []), .ofNat 22, [(.negSucc 3, 3)]), (([some (zjr 0), some (zjr 22), some zt_top, some (zj (.ofNat 0) (.ofNat 4)), none], [(0, .ofNat 0, .ofNat 0, 0, [])], [((1, 1, 0), .ofNat 1, .ofNat 2147483647), ((1, 1, 6), .ofNat 1, .ofNat 5)], []), .ofNat 21, [(.negSucc 3, 3)])]), (73, [(([some (zjr 0), some (zjr 22), some (zj (.negSucc 2147483646) (.ofNat 2147483647)), some (zj (.ofNat 0) (.ofNat 4)), some (0, .ofNat 1, .ofNat 1, 0, [])], [], [((1, 1, 0), .ofNat 1, .ofNat 2147483647), ((1, 1, 6), .ofNat 1, .ofNat 5)], []), .ofNat 21, [(.negSucc 3, 3)])]), (80, [(([some (zjr 0), some (zjr 22), some zt_top, some (zj (.ofNat 0) (.ofNat 4)), some (zj (.ofNat 0) (.ofNat 1))], [], [((1, 1, 0), .ofNat 1, .ofNat 2147483647), ((1, 1, 6), .ofNat 1, .ofNat 5)], []), .ofNat 20, [(.negSucc 3, 3)])])]
noncomputable def zi_97_Ks : List (Nat × List zt_K) := [(145, [((1, some 9, true, []), zi_85_K)]), (156, [((1, some 9, true, []), zi_83_K)]), (176, [((3, some 2, false, [(0, 8), (1, 10)]), zi_91_K)])]
noncomputable def zi_97_H : zt_H := ((zo_w1, 1, zo_Sg), (zo_g1, zi_97_K.2.2.1, [0], zo_U), [], ((some .int), zi_97_K.2.2.2, zi_97_K.2.1.1), zi_97_Ks)
theorem zi_97_c : zt_chk zi_97_H (zB_X9_gun, [], [22, 51, 73, 80]) 5 zi_97_A 5 (zo_hd, zi_97_K) = true := by decide +kernel
theorem zi_97 (v : Nat) (hd : Nat × Option Nat × Bool × List (Nat × Nat)) : zt_Con zo_Om (zo_Rel v) (hd, zi_97_K) zF_X9_gun := zt_con (K := (zo_hd, zi_97_K)) (T := zT_X9_gun) (w0 := zo_w1) (G := zo_g1) (zo_UR v) rfl zo_sg rfl rfl rfl (zt_ksok_of (Ks := zi_97_Ks) (zt_k1 rfl (zt_k2 rfl (zi_85 v _) zt_k3) (zt_k1 rfl (zt_k2 rfl (zi_83 v _) zt_k3) (zt_k1 rfl (zt_k2 rfl (zi_91 v _) zt_k3) zt_k0)))) zi_97_c
-- X9_waits X
noncomputable def zi_98_K : Nat × (List zt_A × List zt_C × List Nat) × zt_W × List zt_O := (1, ([zjr 0, zt_top], [], []), [(21, 1, 1), (22, 7, 9), (23, 0, 4), (24, 0, 4), (25, 0, 4), (26, 0, 4), (27, 0, 4), (28, 0, 4), (29, 0, 5), (30, 0, 304), (31, 0, 304)], [(some (zt_top), [], [], [])])
noncomputable def zi_98_A : zt_An := [(0, [(([some (zjr 0), some zt_top, none], [], [], []), .ofNat 1, [])]), (38, [(([some (zjr 0), some (zj (.ofNat 0) (.ofNat 4)), some (0, .negSucc 2147483647, .ofNat 2147483647, 1, [(2, 27, 1, .ofNat 0)])], [zt_top], [((2, 27, 1), .negSucc 2147483647, .ofNat 2147483647)], []), .ofNat 0, [])])]
noncomputable def zi_98_Ks : List (Nat × List zt_K) := [(124, [((2, some 0, false, [(0, 10)]), zi_59_K)]), (145, [((1, some 9, true, []), zi_78_K)])]
noncomputable def zi_98_H : zt_H := ((zo_w1, 1, zo_Sg), (zo_g1, zi_98_K.2.2.1, [0, 1], zo_U), [], ((some .int), zi_98_K.2.2.2, zi_98_K.2.1.1), zi_98_Ks)
theorem zi_98_c : zt_chk zi_98_H (zB_X9_waits, [], [38]) 6 zi_98_A 3 (zo_hd, zi_98_K) = true := by decide +kernel
theorem zi_98 (v : Nat) (hd : Nat × Option Nat × Bool × List (Nat × Nat)) : zt_Con zo_Om (zo_Rel v) (hd, zi_98_K) zF_X9_waits := zt_con (K := (zo_hd, zi_98_K)) (T := zT_X9_waits) (w0 := zo_w1) (G := zo_g1) (zo_UR v) rfl zo_sg rfl rfl rfl (zt_ksok_of (Ks := zi_98_Ks) (zt_k1 rfl (zt_k2 rfl (zi_59 v _) zt_k3) (zt_k1 rfl (zt_k2 rfl (zi_78 v _) zt_k3) zt_k0))) zi_98_c
-- X3_minutesOn Y
noncomputable def zi_99_K : Nat × (List zt_A × List zt_C × List Nat) × zt_W × List zt_O := (9, ([zjr 0, zj (.ofNat 0) (.ofNat 4), zj (.ofNat 0) (.ofNat 5)], [], []), [], [(some (zt_top), [], [], [])])
noncomputable def zi_99_A : zt_An := [(0, [(([some (zjr 0), some (zj (.ofNat 0) (.ofNat 4)), some (zj (.ofNat 0) (.ofNat 5)), none, none], [], [], []), .ofNat 124, [])]), (5, [(([some (zjr 0), some (zj (.ofNat 0) (.ofNat 4)), some (zj (.ofNat 0) (.ofNat 5)), some zt_top, some (zj (.ofNat 0) (.ofNat 61))], [], [], []), .ofNat 123, [(.negSucc 1, 4)])]), (26, [(([some (zjr 0), some (zj (.ofNat 0) (.ofNat 4)), some (zj (.ofNat 0) (.ofNat 5)), some zt_top, some (zj (.ofNat 0) (.ofNat 60))], [], [], []), .ofNat 122, [(.negSucc 1, 4)])])]
noncomputable def zi_99_Ks : List (Nat × List zt_K) := [(73, [((3, some 3, true, []), zi_81_K)])]
noncomputable def zi_99_H : zt_H := ((zo_w9, 9, zo_Sg), (zo_g9, zi_99_K.2.2.1, [0, 1, 2], zo_U), [], ((some .int), zi_99_K.2.2.2, zi_99_K.2.1.1), zi_99_Ks)
theorem zi_99_c : zt_chk zi_99_H (zB_X3_minutesOn, [], [5, 26]) 5 zi_99_A 5 (zo_hd, zi_99_K) = true := by decide +kernel
theorem zi_99 (v : Nat) (hd : Nat × Option Nat × Bool × List (Nat × Nat)) : zt_Con zo_Om (zo_Rel v) (hd, zi_99_K) zF_X3_minutesOn := zt_con (K := (zo_hd, zi_99_K)) (T := zT_X3_minutesOn) (w0 := zo_w9) (G := zo_g9) (zo_UR v) rfl zo_sg rfl rfl rfl (zt_ksok_of (Ks := zi_99_Ks) (zt_k1 rfl (zt_k2 rfl (zi_81 v _) zt_k3) zt_k0)) zi_99_c
-- X9_worn X
noncomputable def zi_100_K : Nat × (List zt_A × List zt_C × List Nat) × zt_W × List zt_O := (1, ([zjr 0, zt_top, zt_top], [], []), [(21, 1, 1), (22, 7, 9), (23, 0, 4), (24, 0, 4), (25, 0, 4), (26, 0, 4), (27, 0, 4), (28, 0, 4), (29, 0, 5), (30, 0, 304), (31, 0, 304)], [(some (zt_top), [], [], [])])
noncomputable def zi_100_A : zt_An := [(0, [(([some (zjr 0), some zt_top, some zt_top], [], [], []), .ofNat 1, [])]), (22, [(([some (zjr 0), some zt_top, some zt_top], [], [], []), .ofNat 0, [])])]
noncomputable def zi_100_Ks : List (Nat × List zt_K) := [(118, [((2, some 0, false, [(0, 10)]), zi_57_K)]), (124, [((2, some 0, false, [(0, 10)]), zi_59_K)]), (145, [((1, some 9, true, []), zi_78_K)]), (187, [((3, some 3, false, [(0, 11)]), zi_99_K)])]
noncomputable def zi_100_H : zt_H := ((zo_w1, 1, zo_Sg), (zo_g1, zi_100_K.2.2.1, [0, 1, 2], zo_U), [], ((some .int), zi_100_K.2.2.2, zi_100_K.2.1.1), zi_100_Ks)
theorem zi_100_c : zt_chk zi_100_H (zB_X9_worn, [], [22]) 8 zi_100_A 3 (zo_hd, zi_100_K) = true := by decide +kernel
theorem zi_100 (v : Nat) (hd : Nat × Option Nat × Bool × List (Nat × Nat)) : zt_Con zo_Om (zo_Rel v) (hd, zi_100_K) zF_X9_worn := zt_con (K := (zo_hd, zi_100_K)) (T := zT_X9_worn) (w0 := zo_w1) (G := zo_g1) (zo_UR v) rfl zo_sg rfl rfl rfl (zt_ksok_of (Ks := zi_100_Ks) (zt_k1 rfl (zt_k2 rfl (zi_57 v _) zt_k3) (zt_k1 rfl (zt_k2 rfl (zi_59 v _) zt_k3) (zt_k1 rfl (zt_k2 rfl (zi_78 v _) zt_k3) (zt_k1 rfl (zt_k2 rfl (zi_99 v _) zt_k3) zt_k0))))) zi_100_c
-- X9_wearOf X
noncomputable def zi_101_K : Nat × (List zt_A × List zt_C × List Nat) × zt_W × List zt_O := (1, ([zjr 0, zjr 21, zj (.ofNat 0) (.ofNat 5)], [], []), [], [(some (zt_top), [], [], [])])
noncomputable def zi_101_A : zt_An := [(0, [(([some (zjr 0), some (zjr 21), some (zj (.ofNat 0) (.ofNat 5)), none, none], [], [], []), .ofNat 6, [])]), (5, [(([some (zjr 0), some (zjr 21), some (zj (.ofNat 0) (.ofNat 5)), some zt_top, some (zj (.ofNat 0) (.ofNat 5))], [], [], []), .ofNat 5, [(.negSucc 0, 4)])])]
noncomputable def zi_101_Ks : List (Nat × List zt_K) := [(187, [((3, some 3, false, [(0, 11)]), zi_99_K)])]
noncomputable def zi_101_H : zt_H := ((zo_w1, 1, zo_Sg), (zo_g1, zi_101_K.2.2.1, [0, 1, 2], zo_U), [], ((some .int), zi_101_K.2.2.2, zi_101_K.2.1.1), zi_101_Ks)
theorem zi_101_c : zt_chk zi_101_H (zB_X9_wearOf, [], [5]) 4 zi_101_A 5 (zo_hd, zi_101_K) = true := by decide +kernel
theorem zi_101 (v : Nat) (hd : Nat × Option Nat × Bool × List (Nat × Nat)) : zt_Con zo_Om (zo_Rel v) (hd, zi_101_K) zF_X9_wearOf := zt_con (K := (zo_hd, zi_101_K)) (T := zT_X9_wearOf) (w0 := zo_w1) (G := zo_g1) (zo_UR v) rfl zo_sg rfl rfl rfl (zt_ksok_of (Ks := zi_101_Ks) (zt_k1 rfl (zt_k2 rfl (zi_99 v _) zt_k3) zt_k0)) zi_101_c
-- X9_dip X
noncomputable def zi_102_K : Nat × (List zt_A × List zt_C × List Nat) × zt_W × List zt_O := (1, ([zjr 0, zt_top], [], []), [(21, 1, 1), (22, 7, 9), (23, 0, 4), (24, 0, 4), (25, 0, 4), (26, 0, 4), (27, 0, 4), (28, 0, 4), (29, 0, 5), (30, 0, 304), (31, 0, 304)], [(some (zt_top), [], [], [])])
noncomputable def zi_102_A : zt_An := [(0, [(([some (zjr 0), some zt_top], [], [], []), .ofNat 1, [])]), (25, [(([some (zjr 0), some zt_top], [zt_top], [], []), .ofNat 0, [])])]
noncomputable def zi_102_Ks : List (Nat × List zt_K) := [(118, [((2, some 0, false, [(0, 10)]), zi_57_K)]), (145, [((1, some 9, true, []), zi_78_K)]), (190, [((3, some 9, true, []), zi_101_K)])]
noncomputable def zi_102_H : zt_H := ((zo_w1, 1, zo_Sg), (zo_g1, zi_102_K.2.2.1, [0, 1], zo_U), [], ((some .int), zi_102_K.2.2.2, zi_102_K.2.1.1), zi_102_Ks)
theorem zi_102_c : zt_chk zi_102_H (zB_X9_dip, [], [25]) 6 zi_102_A 2 (zo_hd, zi_102_K) = true := by decide +kernel
theorem zi_102 (v : Nat) (hd : Nat × Option Nat × Bool × List (Nat × Nat)) : zt_Con zo_Om (zo_Rel v) (hd, zi_102_K) zF_X9_dip := zt_con (K := (zo_hd, zi_102_K)) (T := zT_X9_dip) (w0 := zo_w1) (G := zo_g1) (zo_UR v) rfl zo_sg rfl rfl rfl (zt_ksok_of (Ks := zi_102_Ks) (zt_k1 rfl (zt_k2 rfl (zi_57 v _) zt_k3) (zt_k1 rfl (zt_k2 rfl (zi_78 v _) zt_k3) (zt_k1 rfl (zt_k2 rfl (zi_101 v _) zt_k3) zt_k0)))) zi_102_c
-- X9_wearOf X
noncomputable def zi_103_K : Nat × (List zt_A × List zt_C × List Nat) × zt_W × List zt_O := (1, ([zjr 0, zjr 21, zj (.ofNat 0) (.ofNat 5)], [((1, 1, 0), .ofNat 1, .ofNat 2147483647)], []), [], [(some (zt_top), [], [((1, 1, 0), .ofNat 1, .ofNat 2147483647)], [])])
noncomputable def zi_103_A : zt_An := [(0, [(([some (zjr 0), some (zjr 21), some (zj (.ofNat 0) (.ofNat 5)), none, none], [], [((1, 1, 0), .ofNat 1, .ofNat 2147483647)], []), .ofNat 6, [])]), (5, [(([some (zjr 0), some (zjr 21), some (zj (.ofNat 0) (.ofNat 5)), some zt_top, some (zj (.ofNat 0) (.ofNat 5))], [], [((1, 1, 0), .ofNat 1, .ofNat 2147483647)], []), .ofNat 5, [(.negSucc 0, 4)])])]
noncomputable def zi_103_Ks : List (Nat × List zt_K) := [(187, [((3, some 3, false, [(0, 11)]), zi_99_K)])]
noncomputable def zi_103_H : zt_H := ((zo_w1, 1, zo_Sg), (zo_g1, zi_103_K.2.2.1, [0, 1, 2], zo_U), [], ((some .int), zi_103_K.2.2.2, zi_103_K.2.1.1), zi_103_Ks)
theorem zi_103_c : zt_chk zi_103_H (zB_X9_wearOf, [], [5]) 4 zi_103_A 5 (zo_hd, zi_103_K) = true := by decide +kernel
theorem zi_103 (v : Nat) (hd : Nat × Option Nat × Bool × List (Nat × Nat)) : zt_Con zo_Om (zo_Rel v) (hd, zi_103_K) zF_X9_wearOf := zt_con (K := (zo_hd, zi_103_K)) (T := zT_X9_wearOf) (w0 := zo_w1) (G := zo_g1) (zo_UR v) rfl zo_sg rfl rfl rfl (zt_ksok_of (Ks := zi_103_Ks) (zt_k1 rfl (zt_k2 rfl (zi_99 v _) zt_k3) zt_k0)) zi_103_c
-- X9_deepest X
noncomputable def zi_104_K : Nat × (List zt_A × List zt_C × List Nat) × zt_W × List zt_O := (1, ([zjr 0], [], []), [(21, 1, 1), (22, 7, 9), (23, 0, 4), (24, 0, 4), (25, 0, 4), (26, 0, 4), (27, 0, 4), (28, 0, 4), (29, 0, 5), (30, 0, 304), (31, 0, 304)], [(some (zj (.negSucc 1) (.ofNat 5)), [], [], [])])
noncomputable def zi_104_A : zt_An := [(0, [(([some (zjr 0), none, none, none, none, none], [], [], []), .ofNat 14, [])]), (22, [(([some (zjr 0), some (zjr 21), some (zj (.negSucc 0) (.ofNat 5)), some (zj (.ofNat 0) (.ofNat 2147483647)), some (zj (.ofNat 0) (.ofNat 6)), none], [], [((1, 1, 0), .ofNat 1, .ofNat 2147483647)], []), .ofNat 13, [(.negSucc 1, 4)])]), (55, [(([some (zjr 0), some (zjr 21), some (zj (.negSucc 0) (.ofNat 5)), some (zj (.ofNat 0) (.ofNat 2147483647)), some (zj (.ofNat 0) (.ofNat 5)), some zt_top], [], [((1, 1, 0), .ofNat 1, .ofNat 2147483647), ((1, 1, 5), .ofNat 1, .ofNat 6)], []), .ofNat 12, [(.negSucc 1, 4)])])]
noncomputable def zi_104_Ks : List (Nat × List zt_K) := [(145, [((1, some 9, true, []), zi_85_K)]), (156, [((1, some 9, true, []), zi_83_K)]), (190, [((3, some 9, true, []), zi_103_K)])]
noncomputable def zi_104_H : zt_H := ((zo_w1, 1, zo_Sg), (zo_g1, zi_104_K.2.2.1, [0], zo_U), [], ((some .int), zi_104_K.2.2.2, zi_104_K.2.1.1), zi_104_Ks)
theorem zi_104_c : zt_chk zi_104_H (zB_X9_deepest, [], [22, 55]) 5 zi_104_A 6 (zo_hd, zi_104_K) = true := by decide +kernel
theorem zi_104 (v : Nat) (hd : Nat × Option Nat × Bool × List (Nat × Nat)) : zt_Con zo_Om (zo_Rel v) (hd, zi_104_K) zF_X9_deepest := zt_con (K := (zo_hd, zi_104_K)) (T := zT_X9_deepest) (w0 := zo_w1) (G := zo_g1) (zo_UR v) rfl zo_sg rfl rfl rfl (zt_ksok_of (Ks := zi_104_Ks) (zt_k1 rfl (zt_k2 rfl (zi_85 v _) zt_k3) (zt_k1 rfl (zt_k2 rfl (zi_83 v _) zt_k3) (zt_k1 rfl (zt_k2 rfl (zi_103 v _) zt_k3) zt_k0)))) zi_104_c
-- X9_foremost X
noncomputable def zi_105_K : Nat × (List zt_A × List zt_C × List Nat) × zt_W × List zt_O := (1, ([zjr 0, zjr 21, zj (.ofNat 0) (.ofNat 60), zj (.negSucc 0) (.ofNat 1)], [((1, 1, 0), .ofNat 1, .ofNat 2147483647)], []), [], [(some (zj (.negSucc 0) (.ofNat 4)), [], [((1, 1, 0), .ofNat 1, .ofNat 2147483647)], [])])
noncomputable def zi_105_A : zt_An := [(0, [(([some (zjr 0), some (zjr 21), some (zj (.ofNat 0) (.ofNat 60)), some (zj (.negSucc 0) (.ofNat 1)), none, none, none, none], [], [((1, 1, 0), .ofNat 1, .ofNat 2147483647)], []), .ofNat 18, [])]), (9, [(([some (zjr 0), some (zjr 21), some (zj (.ofNat 0) (.ofNat 60)), some (zj (.negSucc 0) (.ofNat 1)), some (zj (.negSucc 0) (.ofNat 4)), some zt_top, some (zj (.ofNat 0) (.ofNat 5)), none], [], [((1, 1, 0), .ofNat 1, .ofNat 2147483647)], []), .ofNat 17, [(.negSucc 2, 6)])]), (55, [(([some (zjr 0), some (zjr 21), some (zj (.ofNat 0) (.ofNat 60)), some (zj (.negSucc 0) (.ofNat 1)), some (zj (.negSucc 0) (.ofNat 4)), some zt_top, some (zj (.ofNat 0) (.ofNat 4)), some zt_top], [], [((1, 1, 0), .ofNat 1, .ofNat 2147483647), ((1, 1, 6), .ofNat 1, .ofNat 5)], []), .ofNat 16, [(.negSucc 2, 6)])]), (63, [(([some (zjr 0), some (zjr 21), some (zj (.ofNat 0) (.ofNat 60)), some (zj (.negSucc 0) (.ofNat 1)), some (zj (.negSucc 0) (.ofNat 4)), some zt_top, some (zj (.ofNat 0) (.ofNat 4)), some zt_top], [], [((1, 1, 0), .ofNat 1, .ofNat 2147483647), ((1, 1, 6), .ofNat 1, .ofNat 5)], []), .ofNat 15, [(.negSucc 2, 6)])])]
noncomputable def zi_105_Ks : List (Nat × List zt_K) := [(149, [((3, some 3, false, [(0, 11)]), zi_79_K)]), (163, [((3, some 3, false, [(0, 11)]), zi_86_K)])]
noncomputable def zi_105_H : zt_H := ((zo_w1, 1, zo_Sg), (zo_g1, zi_105_K.2.2.1, [0, 1, 2, 3], zo_U), [], ((some .int), zi_105_K.2.2.2, zi_105_K.2.1.1), zi_105_Ks)
theorem zi_105_c : zt_chk zi_105_H (zB_X9_foremost, [], [9, 55, 63]) 7 zi_105_A 8 (zo_hd, zi_105_K) = true := by decide +kernel
theorem zi_105 (v : Nat) (hd : Nat × Option Nat × Bool × List (Nat × Nat)) : zt_Con zo_Om (zo_Rel v) (hd, zi_105_K) zF_X9_foremost := zt_con (K := (zo_hd, zi_105_K)) (T := zT_X9_foremost) (w0 := zo_w1) (G := zo_g1) (zo_UR v) rfl zo_sg rfl rfl rfl (zt_ksok_of (Ks := zi_105_Ks) (zt_k1 rfl (zt_k2 rfl (zi_79 v _) zt_k3) (zt_k1 rfl (zt_k2 rfl (zi_86 v _) zt_k3) zt_k0))) zi_105_c
-- X9_youngest X
noncomputable def zi_106_K : Nat × (List zt_A × List zt_C × List Nat) × zt_W × List zt_O := (1, ([zjr 0, zt_top], [], []), [(21, 1, 1), (22, 7, 9), (23, 0, 4), (24, 0, 4), (25, 0, 4), (26, 0, 4), (27, 0, 4), (28, 0, 4), (29, 0, 5), (30, 0, 304), (31, 0, 304)], [(some (zj (.negSucc 1) (.ofNat 4)), [], [], [])])
noncomputable def zi_106_A : zt_An := [(0, [(([some (zjr 0), some zt_top], [], [], []), .ofNat 1, [])]), (14, [(([some (zjr 0), some zt_top], [], [((1, 1, 0), .negSucc 2147483647, .ofNat 2147483647)], []), .ofNat 0, [])])]
noncomputable def zi_106_Ks : List (Nat × List zt_K) := [(142, [((1, none, true, []), zi_84_K)]), (145, [((1, some 9, true, []), zi_85_K)]), (156, [((1, some 9, true, []), zi_83_K)]), (194, [((4, some 9, true, []), zi_105_K)])]
noncomputable def zi_106_H : zt_H := ((zo_w1, 1, zo_Sg), (zo_g1, zi_106_K.2.2.1, [0, 1], zo_U), [], ((some .int), zi_106_K.2.2.2, zi_106_K.2.1.1), zi_106_Ks)
theorem zi_106_c : zt_chk zi_106_H (zB_X9_youngest, [], [14]) 8 zi_106_A 2 (zo_hd, zi_106_K) = true := by decide +kernel
theorem zi_106 (v : Nat) (hd : Nat × Option Nat × Bool × List (Nat × Nat)) : zt_Con zo_Om (zo_Rel v) (hd, zi_106_K) zF_X9_youngest := zt_con (K := (zo_hd, zi_106_K)) (T := zT_X9_youngest) (w0 := zo_w1) (G := zo_g1) (zo_UR v) rfl zo_sg rfl rfl rfl (zt_ksok_of (Ks := zi_106_Ks) (zt_k1 rfl (zt_k2 rfl (zi_84 v _) zt_k3) (zt_k1 rfl (zt_k2 rfl (zi_85 v _) zt_k3) (zt_k1 rfl (zt_k2 rfl (zi_83 v _) zt_k3) (zt_k1 rfl (zt_k2 rfl (zi_105 v _) zt_k3) zt_k0))))) zi_106_c
-- X9_oldest X
noncomputable def zi_107_K : Nat × (List zt_A × List zt_C × List Nat) × zt_W × List zt_O := (1, ([zjr 0, zt_top], [], []), [(21, 1, 1), (22, 7, 9), (23, 0, 4), (24, 0, 4), (25, 0, 4), (26, 0, 4), (27, 0, 4), (28, 0, 4), (29, 0, 5), (30, 0, 304), (31, 0, 304)], [(some (zj (.negSucc 1) (.ofNat 4)), [], [], [])])
noncomputable def zi_107_A : zt_An := [(0, [(([some (zjr 0), some zt_top], [], [], []), .ofNat 1, [])]), (14, [(([some (zjr 0), some zt_top], [], [((1, 1, 0), .negSucc 2147483647, .ofNat 2147483647)], []), .ofNat 0, [])])]
noncomputable def zi_107_Ks : List (Nat × List zt_K) := [(142, [((1, none, true, []), zi_84_K)]), (145, [((1, some 9, true, []), zi_85_K)]), (156, [((1, some 9, true, []), zi_83_K)]), (194, [((4, some 9, true, []), zi_105_K)])]
noncomputable def zi_107_H : zt_H := ((zo_w1, 1, zo_Sg), (zo_g1, zi_107_K.2.2.1, [0, 1], zo_U), [], ((some .int), zi_107_K.2.2.2, zi_107_K.2.1.1), zi_107_Ks)
theorem zi_107_c : zt_chk zi_107_H (zB_X9_oldest, [], [14]) 8 zi_107_A 2 (zo_hd, zi_107_K) = true := by decide +kernel
theorem zi_107 (v : Nat) (hd : Nat × Option Nat × Bool × List (Nat × Nat)) : zt_Con zo_Om (zo_Rel v) (hd, zi_107_K) zF_X9_oldest := zt_con (K := (zo_hd, zi_107_K)) (T := zT_X9_oldest) (w0 := zo_w1) (G := zo_g1) (zo_UR v) rfl zo_sg rfl rfl rfl (zt_ksok_of (Ks := zi_107_Ks) (zt_k1 rfl (zt_k2 rfl (zi_84 v _) zt_k3) (zt_k1 rfl (zt_k2 rfl (zi_85 v _) zt_k3) (zt_k1 rfl (zt_k2 rfl (zi_83 v _) zt_k3) (zt_k1 rfl (zt_k2 rfl (zi_105 v _) zt_k3) zt_k0))))) zi_107_c
-- X3_areOfOneAge Y
noncomputable def zi_108_K : Nat × (List zt_A × List zt_C × List Nat) × zt_W × List zt_O := (9, ([zjr 0, zj (.ofNat 0) (.ofNat 4), zj (.ofNat 0) (.ofNat 4), zj (.ofNat 0) (.ofNat 60)], [], []), [], [(some ((0, .ofNat 1, .ofNat 1, 0, [])), [], [], []), (some ((0, .ofNat 0, .ofNat 0, 0, [])), [], [], [])])
noncomputable def zi_108_A : zt_An := [(0, [(([some (zjr 0), some (zj (.ofNat 0) (.ofNat 4)), some (zj (.ofNat 0) (.ofNat 4)), some (zj (.ofNat 0) (.ofNat 60))], [], [], []), .ofNat 2, [])]), (28, [(([some (zjr 0), some (zj (.ofNat 0) (.ofNat 4)), some (zj (.ofNat 0) (.ofNat 4)), some (zj (.ofNat 0) (.ofNat 60))], [], [], []), .ofNat 1, [])]), (29, [(([some (zjr 0), some (zj (.ofNat 0) (.ofNat 4)), some (zj (.ofNat 0) (.ofNat 4)), some (zj (.ofNat 0) (.ofNat 60))], [(0, .ofNat 1, .ofNat 1, 0, [])], [], []), .ofNat 0, []), (([some (zjr 0), some (zj (.ofNat 0) (.ofNat 4)), some (zj (.ofNat 0) (.ofNat 4)), some (zj (.ofNat 0) (.ofNat 60))], [(0, .ofNat 0, .ofNat 0, 0, [])], [], []), .ofNat 0, [])])]
noncomputable def zi_108_Ks : List (Nat × List zt_K) := [(65, [((3, some 3, true, []), zi_79_K)]), (69, [((3, some 3, true, []), zi_86_K)])]
noncomputable def zi_108_H : zt_H := ((zo_w9, 9, zo_Sg), (zo_g9, zi_108_K.2.2.1, [0, 1, 2, 3], zo_U), [], ((some .boolean), zi_108_K.2.2.2, zi_108_K.2.1.1), zi_108_Ks)
theorem zi_108_c : zt_chk zi_108_H (zB_X3_areOfOneAge, [], [28, 29]) 7 zi_108_A 4 (zo_hd, zi_108_K) = true := by decide +kernel
theorem zi_108 (v : Nat) (hd : Nat × Option Nat × Bool × List (Nat × Nat)) : zt_Con zo_Om (zo_Rel v) (hd, zi_108_K) zF_X3_areOfOneAge := zt_con (K := (zo_hd, zi_108_K)) (T := zT_X3_areOfOneAge) (w0 := zo_w9) (G := zo_g9) (zo_UR v) rfl zo_sg rfl rfl rfl (zt_ksok_of (Ks := zi_108_Ks) (zt_k1 rfl (zt_k2 rfl (zi_79 v _) zt_k3) (zt_k1 rfl (zt_k2 rfl (zi_86 v _) zt_k3) zt_k0))) zi_108_c
-- X9_meets X
noncomputable def zi_109_K : Nat × (List zt_A × List zt_C × List Nat) × zt_W × List zt_O := (1, ([zjr 0, zt_top, zt_top], [], []), [(21, 1, 1), (22, 7, 9), (23, 0, 4), (24, 0, 4), (25, 0, 4), (26, 0, 4), (27, 0, 4), (28, 0, 4), (29, 0, 5), (30, 0, 304), (31, 0, 304)], [(some (zj (.negSucc 1) (.ofNat 60)), [], [], [])])
noncomputable def zi_109_A : zt_An := [(0, [(([some (zjr 0), some zt_top, some zt_top, none, none], [], [], []), .ofNat 62, [])]), (22, [(([some (zjr 0), some zt_top, some zt_top, none, none], [], [], []), .ofNat 0, [])]), (33, [(([some (zjr 0), some (zj (.ofNat 0) (.ofNat 4)), some (zj (.ofNat 0) (.ofNat 4)), some (zjr 21), some (zj (.ofNat 0) (.ofNat 61))], [], [], []), .ofNat 61, [(.negSucc 0, 4)])])]
noncomputable def zi_109_Ks : List (Nat × List zt_K) := [(124, [((2, some 0, false, [(0, 10)]), zi_59_K)]), (145, [((1, some 9, true, []), zi_78_K)]), (198, [((4, some 3, false, [(0, 11)]), zi_108_K)])]
noncomputable def zi_109_H : zt_H := ((zo_w1, 1, zo_Sg), (zo_g1, zi_109_K.2.2.1, [0, 1, 2], zo_U), [], ((some .int), zi_109_K.2.2.2, zi_109_K.2.1.1), zi_109_Ks)
theorem zi_109_c : zt_chk zi_109_H (zB_X9_meets, [], [22, 33]) 7 zi_109_A 5 (zo_hd, zi_109_K) = true := by decide +kernel
theorem zi_109 (v : Nat) (hd : Nat × Option Nat × Bool × List (Nat × Nat)) : zt_Con zo_Om (zo_Rel v) (hd, zi_109_K) zF_X9_meets := zt_con (K := (zo_hd, zi_109_K)) (T := zT_X9_meets) (w0 := zo_w1) (G := zo_g1) (zo_UR v) rfl zo_sg rfl rfl rfl (zt_ksok_of (Ks := zi_109_Ks) (zt_k1 rfl (zt_k2 rfl (zi_59 v _) zt_k3) (zt_k1 rfl (zt_k2 rfl (zi_78 v _) zt_k3) (zt_k1 rfl (zt_k2 rfl (zi_108 v _) zt_k3) zt_k0)))) zi_109_c
-- X0_isToldAt B
noncomputable def zi_110_K : Nat × (List zt_A × List zt_C × List Nat) × zt_W × List zt_O := (2, ([zjr 0, zj (.ofNat 0) (.ofNat 4), zj (.negSucc 0) (.ofNat 99)], [], []), [], [(some ((0, .ofNat 1, .ofNat 1, 0, [])), [(2, .ofNat 0, .ofNat 99)], [], []), (some ((0, .ofNat 0, .ofNat 0, 0, [])), [], [], [])])
noncomputable def zi_110_A : zt_An := [(0, [(([some (zjr 0), some (zj (.ofNat 0) (.ofNat 4)), some (zj (.negSucc 0) (.ofNat 99))], [], [], []), .ofNat 2, [])]), (24, [(([some (zjr 0), some (zj (.ofNat 0) (.ofNat 4)), some (zj (.negSucc 0) (.ofNat 99))], [], [((2, 5, 1), .ofNat 0, .ofNat 99)], []), .ofNat 1, [])]), (25, [(([some (zjr 0), some (zj (.ofNat 0) (.ofNat 4)), some (zj (.ofNat 0) (.ofNat 99))], [(0, .ofNat 1, .ofNat 1, 0, [])], [((2, 5, 1), .ofNat 0, .ofNat 99), ((2, 6, 1), .ofNat 0, .ofNat 99)], []), .ofNat 0, []), (([some (zjr 0), some (zj (.ofNat 0) (.ofNat 4)), some (zj (.negSucc 0) (.ofNat 99))], [(0, .ofNat 0, .ofNat 0, 0, [])], [((2, 5, 1), .ofNat 0, .ofNat 99)], []), .ofNat 0, [])])]
noncomputable def zi_110_Ks : List (Nat × List zt_K) := []
noncomputable def zi_110_H : zt_H := ((zo_w2, 2, zo_Sg), (zo_g2, zi_110_K.2.2.1, [0, 1, 2], zo_U), [], ((some .boolean), zi_110_K.2.2.2, zi_110_K.2.1.1), zi_110_Ks)
theorem zi_110_c : zt_chk zi_110_H (zB_X0_isToldAt, [], [24, 25]) 4 zi_110_A 3 (zo_hd, zi_110_K) = true := by decide +kernel
theorem zi_110 (v : Nat) (hd : Nat × Option Nat × Bool × List (Nat × Nat)) : zt_Con zo_Om (zo_Rel v) (hd, zi_110_K) zF_X0_isToldAt := zt_con (K := (zo_hd, zi_110_K)) (T := zT_X0_isToldAt) (w0 := zo_w2) (G := zo_g2) (zo_UR v) rfl zo_sg rfl rfl rfl (zt_ksok_of (Ks := zi_110_Ks) zt_k0) zi_110_c
-- X9_isRipeAt X
noncomputable def zi_111_K : Nat × (List zt_A × List zt_C × List Nat) × zt_W × List zt_O := (1, ([zjr 0, zjr 21, zj (.ofNat 0) (.ofNat 4), zj (.ofNat 0) (.ofNat 60)], [], []), [], [(some ((0, .ofNat 1, .ofNat 1, 0, [])), [], [], []), (some ((0, .ofNat 0, .ofNat 0, 0, [])), [], [], [])])
noncomputable def zi_111_A : zt_An := [(0, [(([some (zjr 0), some (zjr 21), some (zj (.ofNat 0) (.ofNat 4)), some (zj (.ofNat 0) (.ofNat 60))], [], [], []), .ofNat 2, [])]), (30, [(([some (zjr 0), some (zjr 21), some (zj (.ofNat 0) (.ofNat 4)), some (zj (.ofNat 0) (.ofNat 60))], [], [], []), .ofNat 1, [])]), (31, [(([some (zjr 0), some (zjr 21), some (zj (.ofNat 0) (.ofNat 4)), some (zj (.ofNat 0) (.ofNat 60))], [(0, .ofNat 1, .ofNat 1, 0, [])], [], []), .ofNat 0, []), (([some (zjr 0), some (zjr 21), some (zj (.ofNat 0) (.ofNat 4)), some (zj (.ofNat 0) (.ofNat 60))], [(0, .ofNat 0, .ofNat 0, 0, [])], [], []), .ofNat 0, [])])]
noncomputable def zi_111_Ks : List (Nat × List zt_K) := [(149, [((3, some 3, false, [(0, 11)]), zi_79_K)]), (163, [((3, some 3, false, [(0, 11)]), zi_86_K)]), (393, [((3, some 0, false, [(0, 10)]), zi_110_K)])]
noncomputable def zi_111_H : zt_H := ((zo_w1, 1, zo_Sg), (zo_g1, zi_111_K.2.2.1, [0, 1, 2, 3], zo_U), [], ((some .boolean), zi_111_K.2.2.2, zi_111_K.2.1.1), zi_111_Ks)
theorem zi_111_c : zt_chk zi_111_H (zB_X9_isRipeAt, [], [30, 31]) 7 zi_111_A 4 (zo_hd, zi_111_K) = true := by decide +kernel
theorem zi_111 (v : Nat) (hd : Nat × Option Nat × Bool × List (Nat × Nat)) : zt_Con zo_Om (zo_Rel v) (hd, zi_111_K) zF_X9_isRipeAt := zt_con (K := (zo_hd, zi_111_K)) (T := zT_X9_isRipeAt) (w0 := zo_w1) (G := zo_g1) (zo_UR v) rfl zo_sg rfl rfl rfl (zt_ksok_of (Ks := zi_111_Ks) (zt_k1 rfl (zt_k2 rfl (zi_79 v _) zt_k3) (zt_k1 rfl (zt_k2 rfl (zi_86 v _) zt_k3) (zt_k1 rfl (zt_k2 rfl (zi_110 v _) zt_k3) zt_k0)))) zi_111_c
-- X9_ripe X
noncomputable def zi_112_K : Nat × (List zt_A × List zt_C × List Nat) × zt_W × List zt_O := (1, ([zjr 0, zt_top], [], []), [(21, 1, 1), (22, 7, 9), (23, 0, 4), (24, 0, 4), (25, 0, 4), (26, 0, 4), (27, 0, 4), (28, 0, 4), (29, 0, 5), (30, 0, 304), (31, 0, 304)], [(some (zj (.negSucc 1) (.ofNat 60)), [], [], [])])
noncomputable def zi_112_A : zt_An := [(0, [(([some (zjr 0), some zt_top, none, none], [], [], []), .ofNat 62, [])]), (21, [(([some (zjr 0), some (zj (.ofNat 0) (.ofNat 4)), some (zjr 21), some (zj (.ofNat 0) (.ofNat 61))], [], [], []), .ofNat 61, [(.negSucc 0, 3)])])]
noncomputable def zi_112_Ks : List (Nat × List zt_K) := [(124, [((2, some 0, false, [(0, 10)]), zi_59_K)]), (145, [((1, some 9, true, []), zi_78_K)]), (202, [((4, some 9, true, []), zi_111_K)])]
noncomputable def zi_112_H : zt_H := ((zo_w1, 1, zo_Sg), (zo_g1, zi_112_K.2.2.1, [0, 1], zo_U), [], ((some .int), zi_112_K.2.2.2, zi_112_K.2.1.1), zi_112_Ks)
theorem zi_112_c : zt_chk zi_112_H (zB_X9_ripe, [], [21]) 5 zi_112_A 4 (zo_hd, zi_112_K) = true := by decide +kernel
theorem zi_112 (v : Nat) (hd : Nat × Option Nat × Bool × List (Nat × Nat)) : zt_Con zo_Om (zo_Rel v) (hd, zi_112_K) zF_X9_ripe := zt_con (K := (zo_hd, zi_112_K)) (T := zT_X9_ripe) (w0 := zo_w1) (G := zo_g1) (zo_UR v) rfl zo_sg rfl rfl rfl (zt_ksok_of (Ks := zi_112_Ks) (zt_k1 rfl (zt_k2 rfl (zi_59 v _) zt_k3) (zt_k1 rfl (zt_k2 rfl (zi_78 v _) zt_k3) (zt_k1 rfl (zt_k2 rfl (zi_111 v _) zt_k3) zt_k0)))) zi_112_c
-- X9_window X
noncomputable def zi_113_K : Nat × (List zt_A × List zt_C × List Nat) × zt_W × List zt_O := (1, ([zjr 0, zt_top], [], []), [(21, 1, 1), (22, 7, 9), (23, 0, 4), (24, 0, 4), (25, 0, 4), (26, 0, 4), (27, 0, 4), (28, 0, 4), (29, 0, 5), (30, 0, 304), (31, 0, 304)], [(some (zt_top), [], [], [])])
noncomputable def zi_113_A : zt_An := [(0, [(([some (zjr 0), some zt_top, none, none, none], [], [], []), .ofNat 124, [])]), (24, [(([some (zjr 0), some (zj (.ofNat 0) (.ofNat 4)), some (zjr 21), some zt_top, some (zj (.ofNat 0) (.ofNat 61))], [], [], []), .ofNat 123, [(.negSucc 1, 4)])]), (45, [(([some (zjr 0), some (zj (.ofNat 0) (.ofNat 4)), some (zjr 21), some zt_top, some (zj (.ofNat 0) (.ofNat 60))], [], [], []), .ofNat 122, [(.negSucc 1, 4)])])]
noncomputable def zi_113_Ks : List (Nat × List zt_K) := [(124, [((2, some 0, false, [(0, 10)]), zi_59_K)]), (145, [((1, some 9, true, []), zi_78_K)]), (202, [((4, some 9, true, []), zi_111_K)])]
noncomputable def zi_113_H : zt_H := ((zo_w1, 1, zo_Sg), (zo_g1, zi_113_K.2.2.1, [0, 1], zo_U), [], ((some .int), zi_113_K.2.2.2, zi_113_K.2.1.1), zi_113_Ks)
theorem zi_113_c : zt_chk zi_113_H (zB_X9_window, [], [24, 45]) 5 zi_113_A 5 (zo_hd, zi_113_K) = true := by decide +kernel
theorem zi_113 (v : Nat) (hd : Nat × Option Nat × Bool × List (Nat × Nat)) : zt_Con zo_Om (zo_Rel v) (hd, zi_113_K) zF_X9_window := zt_con (K := (zo_hd, zi_113_K)) (T := zT_X9_window) (w0 := zo_w1) (G := zo_g1) (zo_UR v) rfl zo_sg rfl rfl rfl (zt_ksok_of (Ks := zi_113_Ks) (zt_k1 rfl (zt_k2 rfl (zi_59 v _) zt_k3) (zt_k1 rfl (zt_k2 rfl (zi_78 v _) zt_k3) (zt_k1 rfl (zt_k2 rfl (zi_111 v _) zt_k3) zt_k0)))) zi_113_c
-- X9_misses X
noncomputable def zi_114_K : Nat × (List zt_A × List zt_C × List Nat) × zt_W × List zt_O := (1, ([zjr 0, zt_top], [], []), [(21, 1, 1), (22, 7, 9), (23, 0, 4), (24, 0, 4), (25, 0, 4), (26, 0, 4), (27, 0, 4), (28, 0, 4), (29, 0, 5), (30, 0, 304), (31, 0, 304)], [(some (zj (.negSucc 1) (.ofNat 99)), [], [], [])])
noncomputable def zi_114_A : zt_An := [(0, [(([some (zjr 0), some zt_top, none, none], [], [], []), .ofNat 0, [])])]
noncomputable def zi_114_Ks : List (Nat × List zt_K) := [(124, [((2, some 0, false, [(0, 10)]), zi_59_K)]), (145, [((1, some 9, true, []), zi_78_K)])]
noncomputable def zi_114_H : zt_H := ((zo_w1, 1, zo_Sg), (zo_g1, zi_114_K.2.2.1, [0, 1], zo_U), [], ((some .int), zi_114_K.2.2.2, zi_114_K.2.1.1), zi_114_Ks)
theorem zi_114_c : zt_chk zi_114_H (zB_X9_misses, [], []) 6 zi_114_A 4 (zo_hd, zi_114_K) = true := by decide +kernel
theorem zi_114 (v : Nat) (hd : Nat × Option Nat × Bool × List (Nat × Nat)) : zt_Con zo_Om (zo_Rel v) (hd, zi_114_K) zF_X9_misses := zt_con (K := (zo_hd, zi_114_K)) (T := zT_X9_misses) (w0 := zo_w1) (G := zo_g1) (zo_UR v) rfl zo_sg rfl rfl rfl (zt_ksok_of (Ks := zi_114_Ks) (zt_k1 rfl (zt_k2 rfl (zi_59 v _) zt_k3) (zt_k1 rfl (zt_k2 rfl (zi_78 v _) zt_k3) zt_k0))) zi_114_c
-- X9_grown X
noncomputable def zi_115_K : Nat × (List zt_A × List zt_C × List Nat) × zt_W × List zt_O := (1, ([zjr 0, zt_top], [], []), [(21, 1, 1), (22, 7, 9), (23, 0, 4), (24, 0, 4), (25, 0, 4), (26, 0, 4), (27, 0, 4), (28, 0, 4), (29, 0, 5), (30, 0, 304), (31, 0, 304)], [(some (zj (.negSucc 99) (.ofNat 99)), [], [], [])])
noncomputable def zi_115_A : zt_An := [(0, [(([some (zjr 0), some zt_top, none], [], [], []), .ofNat 1, [])]), (52, [(([some (zjr 0), some (zj (.ofNat 0) (.ofNat 4)), some (zjr 22)], [zj (.negSucc 98) (.ofNat 99)], [((2, 27, 1), .negSucc 2147483647, .ofNat 2147483647)], []), .ofNat 0, [])])]
noncomputable def zi_115_Ks : List (Nat × List zt_K) := [(124, [((2, some 0, false, [(0, 10)]), zi_59_K)]), (145, [((1, some 9, true, []), zi_78_K)])]
noncomputable def zi_115_H : zt_H := ((zo_w1, 1, zo_Sg), (zo_g1, zi_115_K.2.2.1, [0, 1], zo_U), [], ((some .int), zi_115_K.2.2.2, zi_115_K.2.1.1), zi_115_Ks)
theorem zi_115_c : zt_chk zi_115_H (zB_X9_grown, [], [52]) 6 zi_115_A 3 (zo_hd, zi_115_K) = true := by decide +kernel
theorem zi_115 (v : Nat) (hd : Nat × Option Nat × Bool × List (Nat × Nat)) : zt_Con zo_Om (zo_Rel v) (hd, zi_115_K) zF_X9_grown := zt_con (K := (zo_hd, zi_115_K)) (T := zT_X9_grown) (w0 := zo_w1) (G := zo_g1) (zo_UR v) rfl zo_sg rfl rfl rfl (zt_ksok_of (Ks := zi_115_Ks) (zt_k1 rfl (zt_k2 rfl (zi_59 v _) zt_k3) (zt_k1 rfl (zt_k2 rfl (zi_78 v _) zt_k3) zt_k0))) zi_115_c
-- X9_beside X
noncomputable def zi_116_K : Nat × (List zt_A × List zt_C × List Nat) × zt_W × List zt_O := (1, ([zjr 0, zt_top, zt_top], [], []), [(21, 1, 1), (22, 7, 9), (23, 0, 4), (24, 0, 4), (25, 0, 4), (26, 0, 4), (27, 0, 4), (28, 0, 4), (29, 0, 5), (30, 0, 304), (31, 0, 304)], [(some (zt_top), [], [], [])])
noncomputable def zi_116_A : zt_An := [(0, [(([some (zjr 0), some zt_top, some zt_top, none, none, none, none, none], [], [], []), .ofNat 13, [])]), (18, [(([some (zjr 0), some zt_top, some zt_top, none, none, none, none, none], [], [], []), .ofNat 0, [])]), (40, [(([some (zjr 0), some (zj (.ofNat 0) (.ofNat 4)), some (zj (.ofNat 0) (.ofNat 60)), some (zjr 21), some (zj (.negSucc 0) (.ofNat 5)), some zt_top, some (zj (.ofNat 0) (.ofNat 5)), none], [], [], []), .ofNat 12, [(.negSucc 1, 6)])]), (94, [(([some (zjr 0), some (zj (.ofNat 0) (.ofNat 4)), some (zj (.ofNat 0) (.ofNat 60)), some (zjr 21), some (zj (.ofNat 0) (.ofNat 5)), some zt_top, some (zj (.ofNat 0) (.ofNat 4)), some (zj (.negSucc 0) (.ofNat 5))], [], [((1, 1, 6), .ofNat 1, .ofNat 5)], []), .ofNat 11, [(.negSucc 1, 6)])]), (100, [(([some (zjr 0), some (zj (.ofNat 0) (.ofNat 4)), some (zj (.ofNat 0) (.ofNat 60)), some (zjr 21), some (zj (.negSucc 0) (.ofNat 5)), some zt_top, some (zj (.ofNat 0) (.ofNat 5)), none], [], [], []), .ofNat 0, [])])]
noncomputable def zi_116_Ks : List (Nat × List zt_K) := [(124, [((2, some 0, false, [(0, 10)]), zi_59_K)]), (142, [((1, none, true, []), zi_61_K)]), (145, [((1, some 9, true, []), zi_78_K)]), (153, [((3, some 3, false, [(0, 11)]), zi_81_K)])]
noncomputable def zi_116_H : zt_H := ((zo_w1, 1, zo_Sg), (zo_g1, zi_116_K.2.2.1, [0, 1, 2], zo_U), [], ((some .int), zi_116_K.2.2.2, zi_116_K.2.1.1), zi_116_Ks)
theorem zi_116_c : zt_chk zi_116_H (zB_X9_beside, [], [18, 40, 94, 100]) 8 zi_116_A 8 (zo_hd, zi_116_K) = true := by decide +kernel
theorem zi_116 (v : Nat) (hd : Nat × Option Nat × Bool × List (Nat × Nat)) : zt_Con zo_Om (zo_Rel v) (hd, zi_116_K) zF_X9_beside := zt_con (K := (zo_hd, zi_116_K)) (T := zT_X9_beside) (w0 := zo_w1) (G := zo_g1) (zo_UR v) rfl zo_sg rfl rfl rfl (zt_ksok_of (Ks := zi_116_Ks) (zt_k1 rfl (zt_k2 rfl (zi_59 v _) zt_k3) (zt_k1 rfl (zt_k2 rfl (zi_61 v _) zt_k3) (zt_k1 rfl (zt_k2 rfl (zi_78 v _) zt_k3) (zt_k1 rfl (zt_k2 rfl (zi_81 v _) zt_k3) zt_k0))))) zi_116_c
-- X9_crowd X
noncomputable def zi_117_K : Nat × (List zt_A × List zt_C × List Nat) × zt_W × List zt_O := (1, ([zjr 0], [], []), [(21, 1, 1), (22, 7, 9), (23, 0, 4), (24, 0, 4), (25, 0, 4), (26, 0, 4), (27, 0, 4), (28, 0, 4), (29, 0, 5), (30, 0, 304), (31, 0, 304)], [(some (zj (.negSucc 1) (.ofNat 2147483647)), [], [], [])])
noncomputable def zi_117_A : zt_An := [(0, [(([some (zjr 0), none, none, none, none, none], [], [], []), .ofNat 806, [])]), (19, [(([some (zjr 0), some (zjr 21), some (zj (.ofNat 0) (.ofNat 2147483647)), some (zj (.ofNat 0) (.ofNat 61)), none, none], [], [((1, 1, 0), .ofNat 1, .ofNat 2147483647)], []), .ofNat 805, [(.negSucc 12, 3)])]), (31, [(([some (zjr 0), some (zjr 21), some (zj (.ofNat 0) (.ofNat 2147483647)), some (zj (.ofNat 0) (.ofNat 60)), some zt_top, some (zj (.ofNat 0) (.ofNat 5))], [], [((1, 1, 0), .ofNat 1, .ofNat 2147483647)], []), .ofNat 804, [(.negSucc 12, 3), (.negSucc 1, 5)])]), (56, [(([some (zjr 0), some (zjr 21), some (zj (.ofNat 0) (.ofNat 2147483647)), some (zj (.ofNat 0) (.ofNat 60)), some zt_top, some (zj (.ofNat 0) (.ofNat 4))], [], [((1, 1, 0), .ofNat 1, .ofNat 2147483647), ((1, 1, 6), .ofNat 1, .ofNat 5)], []), .ofNat 803, [(.negSucc 12, 3), (.negSucc 1, 5)])])]
noncomputable def zi_117_Ks : List (Nat × List zt_K) := [(145, [((1, some 9, true, []), zi_85_K)]), (156, [((1, some 9, true, []), zi_83_K)]), (163, [((3, some 3, false, [(0, 11)]), zi_86_K)])]
noncomputable def zi_117_H : zt_H := ((zo_w1, 1, zo_Sg), (zo_g1, zi_117_K.2.2.1, [0], zo_U), [], ((some .int), zi_117_K.2.2.2, zi_117_K.2.1.1), zi_117_Ks)
theorem zi_117_c : zt_chk zi_117_H (zB_X9_crowd, [], [19, 31, 56]) 5 zi_117_A 6 (zo_hd, zi_117_K) = true := by decide +kernel
theorem zi_117 (v : Nat) (hd : Nat × Option Nat × Bool × List (Nat × Nat)) : zt_Con zo_Om (zo_Rel v) (hd, zi_117_K) zF_X9_crowd := zt_con (K := (zo_hd, zi_117_K)) (T := zT_X9_crowd) (w0 := zo_w1) (G := zo_g1) (zo_UR v) rfl zo_sg rfl rfl rfl (zt_ksok_of (Ks := zi_117_Ks) (zt_k1 rfl (zt_k2 rfl (zi_85 v _) zt_k3) (zt_k1 rfl (zt_k2 rfl (zi_83 v _) zt_k3) (zt_k1 rfl (zt_k2 rfl (zi_86 v _) zt_k3) zt_k0)))) zi_117_c
-- X9_next X
noncomputable def zi_118_K : Nat × (List zt_A × List zt_C × List Nat) × zt_W × List zt_O := (1, ([zjr 0, zt_top], [], []), [(21, 1, 1), (22, 7, 9), (23, 0, 4), (24, 0, 4), (25, 0, 4), (26, 0, 4), (27, 0, 4), (28, 0, 4), (29, 0, 5), (30, 0, 304), (31, 0, 304)], [(some (zj (.negSucc 1) (.ofNat 4)), [], [], [])])
noncomputable def zi_118_A : zt_An := [(0, [(([some (zjr 0), some zt_top, none, none, none], [], [], []), .ofNat 18, [])]), (14, [(([some (zjr 0), some zt_top, none, none, none], [], [((1, 1, 0), .negSucc 2147483647, .ofNat 2147483647)], []), .ofNat 0, [])]), (27, [(([some (zjr 0), some (zj (.ofNat 0) (.ofNat 60)), some (zjr 21), some (zj (.negSucc 0) (.ofNat 4)), some (zj (.ofNat 0) (.ofNat 5))], [], [((1, 1, 0), .ofNat 1, .ofNat 2147483647)], []), .ofNat 17, [(.negSucc 2, 4)])]), (76, [(([some (zjr 0), some (zj (.ofNat 0) (.ofNat 60)), some (zjr 21), some (zj (.negSucc 0) (.ofNat 4)), some (zj (.ofNat 0) (.ofNat 4))], [], [((1, 1, 0), .ofNat 1, .ofNat 2147483647), ((1, 1, 6), .ofNat 1, .ofNat 5)], []), .ofNat 16, [(.negSucc 2, 4)])]), (79, [(([some (zjr 0), some (zj (.ofNat 0) (.ofNat 60)), some (zjr 21), some (zj (.negSucc 0) (.ofNat 4)), some (zj (.ofNat 0) (.ofNat 4))], [], [((1, 1, 0), .ofNat 1, .ofNat 2147483647), ((1, 1, 6), .ofNat 1, .ofNat 5)], []), .ofNat 15, [(.negSucc 2, 4)])])]
noncomputable def zi_118_Ks : List (Nat × List zt_K) := [(142, [((1, none, true, []), zi_84_K)]), (145, [((1, some 9, true, []), zi_85_K)]), (156, [((1, some 9, true, []), zi_83_K)]), (163, [((3, some 3, false, [(0, 11)]), zi_86_K)])]
noncomputable def zi_118_H : zt_H := ((zo_w1, 1, zo_Sg), (zo_g1, zi_118_K.2.2.1, [0, 1], zo_U), [], ((some .int), zi_118_K.2.2.2, zi_118_K.2.1.1), zi_118_Ks)
theorem zi_118_c : zt_chk zi_118_H (zB_X9_next, [], [14, 27, 76, 79]) 7 zi_118_A 5 (zo_hd, zi_118_K) = true := by decide +kernel
theorem zi_118 (v : Nat) (hd : Nat × Option Nat × Bool × List (Nat × Nat)) : zt_Con zo_Om (zo_Rel v) (hd, zi_118_K) zF_X9_next := zt_con (K := (zo_hd, zi_118_K)) (T := zT_X9_next) (w0 := zo_w1) (G := zo_g1) (zo_UR v) rfl zo_sg rfl rfl rfl (zt_ksok_of (Ks := zi_118_Ks) (zt_k1 rfl (zt_k2 rfl (zi_84 v _) zt_k3) (zt_k1 rfl (zt_k2 rfl (zi_85 v _) zt_k3) (zt_k1 rfl (zt_k2 rfl (zi_83 v _) zt_k3) (zt_k1 rfl (zt_k2 rfl (zi_86 v _) zt_k3) zt_k0))))) zi_118_c
-- X9_years X
noncomputable def zi_119_K : Nat × (List zt_A × List zt_C × List Nat) × zt_W × List zt_O := (1, ([zjr 0, zt_top], [], []), [(21, 1, 1), (22, 7, 9), (23, 0, 4), (24, 0, 4), (25, 0, 4), (26, 0, 4), (27, 0, 4), (28, 0, 4), (29, 0, 5), (30, 0, 304), (31, 0, 304)], [(some (zt_top), [], [], [])])
noncomputable def zi_119_A : zt_An := [(0, [(([some (zjr 0), some zt_top, none, none, none], [], [], []), .ofNat 12, [])]), (14, [(([some (zjr 0), some zt_top, none, none, none], [], [((1, 1, 0), .negSucc 2147483647, .ofNat 2147483647)], []), .ofNat 0, [])]), (27, [(([some (zjr 0), some (zj (.ofNat 0) (.ofNat 60)), some (zjr 21), some zt_top, some (zj (.ofNat 0) (.ofNat 5))], [], [((1, 1, 0), .ofNat 1, .ofNat 2147483647)], []), .ofNat 11, [(.negSucc 1, 4)])]), (59, [(([some (zjr 0), some (zj (.ofNat 0) (.ofNat 60)), some (zjr 21), some zt_top, some (zj (.ofNat 0) (.ofNat 4))], [], [((1, 1, 0), .ofNat 1, .ofNat 2147483647), ((1, 1, 6), .ofNat 1, .ofNat 5)], []), .ofNat 10, [(.negSucc 1, 4)])])]
noncomputable def zi_119_Ks : List (Nat × List zt_K) := [(142, [((1, none, true, []), zi_84_K)]), (145, [((1, some 9, true, []), zi_85_K)]), (149, [((3, some 3, false, [(0, 11)]), zi_79_K)]), (156, [((1, some 9, true, []), zi_83_K)]), (163, [((3, some 3, false, [(0, 11)]), zi_86_K)])]
noncomputable def zi_119_H : zt_H := ((zo_w1, 1, zo_Sg), (zo_g1, zi_119_K.2.2.1, [0, 1], zo_U), [], ((some .int), zi_119_K.2.2.2, zi_119_K.2.1.1), zi_119_Ks)
theorem zi_119_c : zt_chk zi_119_H (zB_X9_years, [], [14, 27, 59]) 7 zi_119_A 5 (zo_hd, zi_119_K) = true := by decide +kernel
theorem zi_119 (v : Nat) (hd : Nat × Option Nat × Bool × List (Nat × Nat)) : zt_Con zo_Om (zo_Rel v) (hd, zi_119_K) zF_X9_years := zt_con (K := (zo_hd, zi_119_K)) (T := zT_X9_years) (w0 := zo_w1) (G := zo_g1) (zo_UR v) rfl zo_sg rfl rfl rfl (zt_ksok_of (Ks := zi_119_Ks) (zt_k1 rfl (zt_k2 rfl (zi_84 v _) zt_k3) (zt_k1 rfl (zt_k2 rfl (zi_85 v _) zt_k3) (zt_k1 rfl (zt_k2 rfl (zi_79 v _) zt_k3) (zt_k1 rfl (zt_k2 rfl (zi_83 v _) zt_k3) (zt_k1 rfl (zt_k2 rfl (zi_86 v _) zt_k3) zt_k0)))))) zi_119_c
end
