/-! CONTRACTS BY HAND: sights and marks of the class -/
theorem zh_withinV (M : zm_I) {l : Int32} (h0 : 0 ≤ l.toInt) (h1 : l.toInt < 60) (lo hi : Int32) : zF_X7_isWithin zW_R [.ref 0, .int l, .int lo, .int hi] M = some (some (.int (zh_inr (M.2 1 l.toNatClampNeg) (Int32.toInt64 lo) (Int32.toInt64 hi))), M) := by
  have e : zF_X7_isWithin zW_R [.ref 0, .int l, .int lo, .int hi] M = zv_X7_isWithin_R_0 M.1 M.2 l lo hi := zf_X7_isWithin_R M.1 M.2 l lo hi
  have hin := zh_in (x := l) (n := 60) h0 h1
  have e28 : zv_X7_isWithin_R_28 M.1 M.2 l lo hi = some (some (.int 0), M) := by rw [zq_X7_isWithin_R_28, zq_X7_isWithin_R_29, if_pos (Or.inl rfl)]
  rw [e, zq_X7_isWithin_R_0, if_neg hin]
  unfold zh_inr
  by_cases h1 : M.2 1 l.toNatClampNeg < Int32.toInt64 lo
  · rw [if_pos ((lg_cmp_lt _ _).mpr h1), if_pos h1, e28]
  · rw [if_neg (fun q => h1 ((lg_cmp_lt _ _).mp q)), if_neg h1, zq_X7_isWithin_R_12, if_neg hin]
    by_cases h2 : Int32.toInt64 hi < M.2 1 l.toNatClampNeg
    · rw [if_pos ((zh_cmp_gt _ _).mpr h2), if_pos h2, e28]
    · rw [if_neg (fun q => h2 ((zh_cmp_gt _ _).mp q)), if_neg h2, zq_X7_isWithin_R_24, zq_X7_isWithin_R_29, if_pos (Or.inr rfl)]
theorem zh_intAtV (M : zm_I) {l : Int32} (h0 : 0 ≤ l.toInt) (h1 : l.toInt < 60) : zF_X7_intAt zW_R [.ref 0, .int l] M = some (some (.int (Int64.toInt32 (M.2 1 l.toNatClampNeg))), M) := by
  have e : zF_X7_intAt zW_R [.ref 0, .int l] M = zv_X7_intAt_R_0 M.1 M.2 l := zf_X7_intAt_R M.1 M.2 l
  rw [e, zq_X7_intAt_R_0, if_neg (zh_in (x := l) (n := 60) h0 h1)]
theorem zh_hasBenchV (I : Nat → Nat → Int32) (J : Nat → Nat → Int64) : ∃ r : Int32, zF_X9_hasBench zW_X [.ref 0] (I, J) = some (some (.int r), (I, J)) := by
  rw [zf_X9_hasBench_X, zq_X9_hasBench_X_0]
  split
  · exact ⟨0, by rw [zq_X9_hasBench_X_14, zq_X9_hasBench_X_15, if_pos (Or.inl rfl)]⟩
  · exact ⟨1, by rw [zq_X9_hasBench_X_10, zq_X9_hasBench_X_15, if_pos (Or.inr rfl)]⟩
theorem zh_ofadd {i k : Nat} {c : Int32} (hc : c.toInt = k) (h : i + k < 1000) : Int32.ofNat i + c = Int32.ofNat (i + k) := by
  apply Int32.toInt_inj.mp
  have eo : (Int32.ofNat i).toInt = i := zh_of (by omega)
  rw [zh_add (by omega) (by omega), eo, hc, zh_of (by omega)]
  omega
section ZHU
variable {I : Nat → Nat → Int32} {J : Nat → Nat → Int64} {h : Nat}
theorem zh_rs38 (hh : zm_isRow h) (hm : 0 ≤ (I h 1).toInt ∧ (I h 1).toInt ≤ 60) (h3 : (I h 1).toInt % 3 = 0) (hc : 0 ≤ (I 1 6).toInt ∧ (I 1 6).toInt ≤ 5) : ∀ (n i : Nat), i % 3 = 0 → i ≤ 60 → 60 - i < n → (∀ j : Nat, j < i → (j % 3 = 0 → 0 ≤ (J (h + 1) j).toInt ∧ (J (h + 1) j).toInt ≤ 4) ∧ (j % 3 = 1 → 0 ≤ (J (h + 1) j).toInt ∧ (J (h + 1) j).toInt ≤ 60)) → ∃ x, zv_X9_refusalOfSights_X_38 I J h (Int32.ofNat i) = some (some (.int x), (I, J)) ∧ (x = -2 ∨ (x = 0 ∧ zo_see h 1 (h + 1) 0 (I, J))) := by
  intro n
  induction n with
  | zero => intro i _ _ h; omega
  | succ n ih =>
    intro i hi3 hi60 hn hacc
    have e2 : Int32.ofNat i + 2 = Int32.ofNat (i + 2) := zh_ofadd zh_c2 (by omega)
    have e1 : Int32.ofNat i + 1 = Int32.ofNat (i + 1) := zh_ofadd zh_p1 (by omega)
    have e3 : Int32.ofNat i + 3 = Int32.ofNat (i + 3) := zh_ofadd zh_c3 (by omega)
    have eo : (Int32.ofNat i).toInt = i := zh_of (by omega)
    have eo1 : (Int32.ofNat (i + 1)).toInt = (i + 1 : Nat) := zh_of (by omega)
    have eo2 : (Int32.ofNat (i + 2)).toInt = (i + 2 : Nat) := zh_of (by omega)
    rw [zq_X9_refusalOfSights_X_38 _ _ _ _ hh, e2]
    split
    · next hle =>
      rw [zh_le, eo2] at hle
      refine ⟨0, zq_X9_refusalOfSights_X_101 I J h _ hh, Or.inr ⟨rfl, h3, fun j hj hl => ?_⟩⟩
      have hl : (j : Int) < (I h 1).toInt := hl
      rw [Nat.zero_add]
      exact hacc j (by omega)
    · next hle =>
      rw [zh_le, eo2] at hle
      have i57 : i ≤ 57 := by omega
      have e92 := zq_X9_refusalOfSights_X_92 I J h (Int32.ofNat i) hh
      rw [zc_X9_refusalOfSights_X_48 _ _ _ _ hh (zh_withinV (zm_sub2 [(h, 2)] (I, J)) (by omega) (by omega) _ _)]
      simp only [zm_mrg_id]
      rw [zq_X9_refusalOfSights_X_63 _ _ _ _ _ hh, zh_cl eo, zh_sub2]
      split
      · exact ⟨_, e92, Or.inl rfl⟩
      · next hb1 =>
        rw [zc_X9_refusalOfSights_X_66 _ _ _ _ hh (by rw [e1]; exact zh_withinV (zm_sub2 [(h, 2)] (I, J)) (by omega) (by omega) _ _)]
        simp only [zm_mrg_id]
        rw [zq_X9_refusalOfSights_X_76 _ _ _ _ _ hh, zh_cl eo1, zh_sub2]
        split
        · exact ⟨_, e92, Or.inl rfl⟩
        · next hb2 =>
          rw [zc_X9_refusalOfSights_X_79 _ _ _ _ hh (by rw [e2]; exact zh_withinV (zm_sub2 [(h, 2)] (I, J)) (by omega) (by omega) _ _)]
          simp only [zm_mrg_id]
          rw [zq_X9_refusalOfSights_X_89 _ _ _ _ _ hh]
          split
          · exact ⟨_, e92, Or.inl rfl⟩
          · rw [zq_X9_refusalOfSights_X_95 _ _ _ _ hh, e3]
            have c1 := zh_inr_ne hb1
            have c2 := zh_inr_ne hb2
            have ec : (I 1 6 - 1).toInt = (I 1 6).toInt - 1 := by rw [zh_sub (by rw [zh_p1]; omega) (by rw [zh_p1]; omega), zh_p1]
            rw [Int32.toInt_toInt64, Int32.toInt_toInt64, ec, zh_z0] at c1
            rw [Int32.toInt_toInt64, Int32.toInt_toInt64, zh_c60, zh_z0] at c2
            clear ec
            refine ih (i + 3) (by omega) (by omega) (by omega) (fun j hj => ?_)
            by_cases hji : j < i
            · exact hacc j hji
            · have hj3 : j = i ∨ j = i + 1 ∨ j = i + 2 := by omega
              rcases hj3 with rfl | rfl | rfl
              · exact ⟨fun _ => by omega, fun h => by omega⟩
              · exact ⟨fun h => by omega, fun _ => c2⟩
              · exact ⟨fun h => by omega, fun h => by omega⟩
theorem zh_rsV (hh : zm_isRow h) (hm : 0 ≤ (I h 1).toInt ∧ (I h 1).toInt ≤ 60) (hc : 0 ≤ (I 1 6).toInt ∧ (I 1 6).toInt ≤ 5) : ∃ x : Int32, zF_X9_refusalOfSights zW_X [.ref 0, .ref h] (I, J) = some (some (.int x), (I, J)) ∧ ((-6 ≤ x.toInt ∧ x.toInt ≤ -1) ∨ (x = 0 ∧ zo_see h 1 (h + 1) 0 (I, J))) := by
  have e2 : (-2 : Int32).toInt = -2 := by decide
  have e6 : (-6 : Int32).toInt = -6 := by decide
  obtain ⟨r, q⟩ := zh_hasBenchV I J
  rw [zf_X9_refusalOfSights_X, zq_X9_refusalOfSights_X_0 _ _ _ hh, zc_X9_refusalOfSights_X_4 _ _ _ hh q, zq_X9_refusalOfSights_X_8 _ _ _ _ hh]
  split
  · exact ⟨_, zq_X9_refusalOfSights_X_11 I J h hh, Or.inl (by omega)⟩
  · obtain ⟨r2, q2⟩ := zh_isMadeV (zm_sub2 [(h, 2)] (I, J))
    rw [zc_X9_refusalOfSights_X_14 _ _ _ hh q2]
    simp only [zm_mrg_id]
    rw [zq_X9_refusalOfSights_X_18 _ _ _ _ hh]
    split
    · exact ⟨_, zq_X9_refusalOfSights_X_21 I J h hh, Or.inl (by omega)⟩
    · rw [zq_X9_refusalOfSights_X_24 _ _ _ hh]
      split
      · next h3 =>
        rw [zq_X9_refusalOfSights_X_36 _ _ _ hh]
        obtain ⟨x, q3, q4⟩ := zh_rs38 (J := J) hh hm (zh_three hm.1 h3) hc 100 0 (by omega) (by omega) (by omega) (fun j hj => by omega)
        refine ⟨x, q3, ?_⟩
        rcases q4 with rfl | q4
        · exact Or.inl (by omega)
        · exact Or.inr q4
      · exact ⟨_, zq_X9_refusalOfSights_X_33 I J h hh, Or.inl (by omega)⟩
theorem zh_as13 (hh : zm_isRow h) (hm : 0 ≤ (I h 1).toInt ∧ (I h 1).toInt ≤ 60) (hs : zo_see h 1 (h + 1) 0 (I, J)) : ∀ (n i : Nat) (l3 l4 : Option Value), i % 3 = 0 → i ≤ 60 → 60 - i < n → ∃ x, zv_X9_isAsSeen_X_13 I J h (Int32.ofNat i) l3 l4 = some (some (.int x), (I, J)) ∧ (x = 0 ∨ x = 1) := by
  intro n
  induction n with
  | zero => intro i l3 l4 _ _ h; omega
  | succ n ih =>
    intro i l3 l4 hi3 hi60 hn
    have h3 : (I h 1).toInt % 3 = 0 := hs.1
    have e2 : Int32.ofNat i + 2 = Int32.ofNat (i + 2) := zh_ofadd zh_c2 (by omega)
    have e1 : Int32.ofNat i + 1 = Int32.ofNat (i + 1) := zh_ofadd zh_p1 (by omega)
    have e3 : Int32.ofNat i + 3 = Int32.ofNat (i + 3) := zh_ofadd zh_c3 (by omega)
    have eo : (Int32.ofNat i).toInt = i := zh_of (by omega)
    have eo1 : (Int32.ofNat (i + 1)).toInt = (i + 1 : Nat) := zh_of (by omega)
    have eo2 : (Int32.ofNat (i + 2)).toInt = (i + 2 : Nat) := zh_of (by omega)
    rw [zq_X9_isAsSeen_X_13 _ _ _ _ _ _ hh, e2]
    split
    · exact ⟨1, zq_X9_isAsSeen_X_66 I J h _ _ _ hh, Or.inr rfl⟩
    · next hle =>
      rw [zh_le, eo2] at hle
      have i57 : i ≤ 57 := by omega
      have c1 := (hs.2 i (by omega) (by show (i : Int) < (I h 1).toInt; omega)).1 hi3
      have c2 := (hs.2 (i + 1) (by omega) (by show ((i + 1 : Nat) : Int) < (I h 1).toInt; omega)).2 (by omega)
      rw [Nat.zero_add] at c1 c2
      dsimp only at c1 c2
      have d1 := zh_l2i c1.1 c1.2 (by omega) (by omega)
      have d2 := zh_l2i c2.1 c2.2 (by omega) (by omega)
      rw [zc_X9_isAsSeen_X_23 _ _ _ _ _ _ hh (zh_intAtV (zm_sub2 [(h, 2)] (I, J)) (by omega) (by omega))]
      simp only [zm_mrg_id]
      rw [zc_X9_isAsSeen_X_28 _ _ _ _ _ _ _ hh (by rw [e1]; exact zh_intAtV (zm_sub2 [(h, 2)] (I, J)) (by omega) (by omega))]
      simp only [zm_mrg_id]
      rw [zh_cl eo, zh_cl eo1, zh_sub2, zh_sub2]
      have hage : zF_X3_ageAt zW_Y [.ref 0, .int (Int64.toInt32 (J (h + 1) i)), .int (Int64.toInt32 (J (h + 1) (i + 1)))] (zm_sub2 [(32, 11)] (I, J)) = some (some (.int (I 41 (Int32.toNatClampNeg (Int64.toInt32 (J (h + 1) (i + 1)) * 5 + Int64.toInt32 (J (h + 1) i))))), zm_sub2 [(32, 11)] (I, J)) := by
        have c5 : (5 : Int32).toInt = 5 := by decide
        have m5 : (Int64.toInt32 (J (h + 1) (i + 1)) * 5).toInt = (J (h + 1) (i + 1)).toInt * 5 := by rw [zh_mul (by rw [c5, d2]; omega) (by rw [c5, d2]; omega), c5, d2]
        have s5 : (Int64.toInt32 (J (h + 1) (i + 1)) * 5 + Int64.toInt32 (J (h + 1) i)).toInt = (J (h + 1) (i + 1)).toInt * 5 + (J (h + 1) i).toInt := by rw [zh_add (by rw [m5, d1]; omega) (by rw [m5, d1]; omega), m5, d1]
        have hin := zh_in (x := Int64.toInt32 (J (h + 1) (i + 1)) * 5 + Int64.toInt32 (J (h + 1) i)) (n := 305) (by rw [s5]; omega) (by rw [s5]; omega)
        exact (zf_X3_ageAt_Y _ _ _ _).trans ((zq_X3_ageAt_Y_0 _ _ _ _).trans (if_neg hin))
      rw [zc_X9_isAsSeen_X_36 _ _ _ _ _ _ _ hh hage]
      simp only [zm_mrg_id]
      rw [zc_X9_isAsSeen_X_48 _ _ _ _ _ _ _ hh (by rw [e2]; exact zh_intAtV (zm_sub2 [(h, 2)] (I, J)) (by omega) (by omega))]
      simp only [zm_mrg_id]
      rw [zq_X9_isAsSeen_X_55 _ _ _ _ _ _ _ _ hh]
      split
      · rw [zq_X9_isAsSeen_X_60 _ _ _ _ _ _ hh, e3]
        exact ih (i + 3) _ _ (by omega) (by omega) (by omega)
      · exact ⟨0, zq_X9_isAsSeen_X_58 I J h _ _ _ hh, Or.inl rfl⟩
end ZHU
theorem zh_relX (v z : Nat) (h : z < 4) (M : zm_I) : zo_Rel v (3 + z) M = zo_see (54 + 2 * z) 1 (55 + 2 * z) 0 M := by
  have hz4 : z = 0 ∨ z = 1 ∨ z = 2 ∨ z = 3 := by omega
  rcases hz4 with rfl | rfl | rfl | rfl <;> rfl
theorem zh_isRow (z : Nat) (h : z < 4) : zm_isRow (54 + 2 * z) := by
  unfold zm_isRow
  omega
theorem zh_rsights (z : Nat) (hz : z < 4) (v : Nat) (hd : Nat × Option Nat × Bool × List (Nat × Nat)) : zt_Con zo_Om (zo_Rel v) (hd, (1, ([zjr 0, zjr (54 + 2 * z)], [], []), [], [(some (zj (.negSucc 5) (.negSucc 0)), [], [], []), (some (zj (.ofNat 0) (.ofNat 0)), [], [], [3 + z])])) zF_X9_refusalOfSights :=
  zh_pure (w0 := zW_X) (G := zo_g1) rfl (by decide +kernel) (fun as M hs _ _ hG => by
    obtain ⟨vs, rfl, h1⟩ := zh_ref hs
    obtain ⟨vs, rfl, h2⟩ := zh_ref h1
    obtain rfl := zh_nil h2
    obtain ⟨x, q1, q2⟩ := zh_rsV (I := M.1) (J := M.2) (zh_isRow z hz) (zh_rowG hG _ (zh_isRow z hz)) (hG 1 _ rfl 6 (.ofNat 0, .ofNat 5) rfl)
    refine ⟨_, q1, ?_⟩
    rcases q2 with q2 | ⟨rfl, q2⟩
    · exact ⟨_, List.mem_cons_self, zh_res q2.1 q2.2⟩
    · refine ⟨_, List.mem_of_getElem? (i := 1) rfl, zh_resF (by decide) (by decide) (fun f hf => ?_)⟩
      rcases List.mem_cons.mp hf with rfl | hf
      · rw [zh_relX v z hz]
        have e : 54 + 2 * z + 1 = 55 + 2 * z := by omega
        rw [e] at q2
        exact q2
      · cases hf)
theorem zh_rsights_n (v : Nat) (hd : Nat × Option Nat × Bool × List (Nat × Nat)) : zt_Con zo_Om (zo_Rel v) (hd, (1, ([zjr 0, (3, .ofNat 0, .ofNat 0, 0, [])], [], []), [], [(some (zj (.negSucc 1) (.negSucc 1)), [], [], [])])) zF_X9_refusalOfSights :=
  zh_pure (w0 := zW_X) (G := zo_g1) rfl (by decide +kernel) (fun as M hs _ _ hG => by
    obtain ⟨vs, rfl, h1⟩ := zh_ref hs
    obtain ⟨vs, rfl, h2⟩ := zh_null h1
    obtain rfl := zh_nil h2
    exact ⟨_, (zf_X9_refusalOfSights_Xn M.1 M.2).trans ((zq_X9_refusalOfSights_Xn_0 M.1 M.2).trans (zq_X9_refusalOfSights_Xn_11 M.1 M.2)), _, List.mem_cons_self, zh_res (by decide) (by decide)⟩)
/-- memories put together -/
theorem zh_iv_lt : ∀ (bs : List (Nat × Nat)) (n : Nat), zm_in bs n = true → zm_iv bs n < zm_tot bs
  | [], n, h => by cases h
  | (a, z) :: bs, n, h => by
    have h : ((Nat.ble a n && Nat.ble (n + 1) (a + z)) || zm_in bs n) = true := h
    show (if a ≤ n ∧ n < a + z then n - a else z + zm_iv bs n) < z + zm_tot bs
    by_cases c : a ≤ n ∧ n < a + z
    · rw [if_pos c]; omega
    · rw [if_neg c]
      rw [Bool.or_eq_true, Bool.and_eq_true, Nat.ble_eq, Nat.ble_eq] at h
      rcases h with h | h
      · exact absurd ⟨h.1, h.2⟩ c
      · have := zh_iv_lt bs n h
        omega
theorem zh_mrg1 (bs : List (Nat × Nat)) (M N : zm_I) (n i : Nat) : (zm_in bs n = true ∧ (zm_mrg bs M N).1 n i = N.1 (zm_iv bs n) i ∧ (zm_mrg bs M N).2 n i = N.2 (zm_iv bs n) i) ∨ (zm_in bs n = false ∧ (zm_mrg bs M N).1 n i = M.1 n i ∧ (zm_mrg bs M N).2 n i = M.2 n i) := by
  unfold zm_mrg
  dsimp only
  cases h : zm_in bs n with
  | true => exact Or.inl ⟨rfl, rfl, rfl⟩
  | false => exact Or.inr ⟨rfl, rfl, rfl⟩
theorem zh_mrgG {G G' : zt_G} {bs : List (Nat × Nat)} {M N : zm_I} (hG : zt_Gs G M) (hN : zt_Gs G' N) (hq : ∀ k, k < zm_tot bs → G[zm_fw bs k]? = G'[k]?) : zt_Gs G (zm_mrg bs M N) := by
  intro n g hg i b hb
  rcases zh_mrg1 bs M N n i with ⟨h1, h2, -⟩ | ⟨-, h2, -⟩
  · rw [h2]
    refine hN (zm_iv bs n) g ?_ i b hb
    rw [← hq _ (zh_iv_lt bs n h1), zm_fw_iv]
    exact hg
  · rw [h2]
    exact hG n g hg i b hb
theorem zh_subG {G G' : zt_G} {bs : List (Nat × Nat)} {M : zm_I} (hG : zt_Gs G M) (hl : G'.length = zm_tot bs) (hq : ∀ k, k < zm_tot bs → G[zm_fw bs k]? = G'[k]?) : zt_Gs G' (zm_sub2 bs M) := by
  intro n g hg i b hb
  have hn : n < zm_tot bs := by rw [← hl]; exact (List.getElem?_eq_some_iff.mp hg).1
  exact hG (zm_fw bs n) g (by rw [hq n hn]; exact hg) i b hb
theorem zh_asW : ((List.range 21).all (fun k => decide (zo_g1[zm_fw [(32, 11), (11, 10)] k]? = zo_g8[k]?))) = true := by decide +kernel
def zh_asWr : zt_W := [(32, 0, 400), (33, 0, 400), (34, 0, 400), (35, 0, 400), (36, 0, 400), (37, 0, 400), (38, 0, 400), (39, 0, 400), (40, 0, 400), (41, 0, 400), (42, 0, 400)]
theorem zh_asHit {n i : Nat} (h1 : 32 ≤ n) (h2 : n ≤ 42) (h3 : i ≤ 400) : zt_hit zh_asWr n i = true := by
  have : n = 32 ∨ n = 33 ∨ n = 34 ∨ n = 35 ∨ n = 36 ∨ n = 37 ∨ n = 38 ∨ n = 39 ∨ n = 40 ∨ n = 41 ∨ n = 42 := by omega
  rcases this with rfl | rfl | rfl | rfl | rfl | rfl | rfl | rfl | rfl | rfl | rfl <;> (simp [zt_hit, zh_asWr]; omega)
theorem zh_isAsSeen (z : Nat) (hz : z < 4) (v : Nat) (hd : Nat × Option Nat × Bool × List (Nat × Nat)) {hk : Nat × Option Nat × Bool × List (Nat × Nat)} {Wk : zt_W} (hkeep : zt_Con zo_Om (zo_Rel v) (hk, (8, ([zjr 0, zjr 11], [], []), Wk, [(none, [], [], [])])) zF_X3_keep) (hW : Wk.all (fun w => Nat.ble w.1 10 && Nat.ble w.2.2 400) = true) : zt_Con zo_Om (zo_Rel v) (hd, (1, ([zjr 0, zjr (54 + 2 * z)], [], [3 + z]), zh_asWr, zh_bool [3 + z])) zF_X9_isAsSeen :=
  zh_con (w0 := zW_X) (G := zo_g1) rfl (by decide +kernel) (fun as M hs _ hf hG => by
    obtain ⟨vs, rfl, h1⟩ := zh_ref hs
    obtain ⟨vs, rfl, h2⟩ := zh_ref h1
    obtain rfl := zh_nil h2
    have hh := zh_isRow z hz
    have hq : ∀ k, k < zm_tot [(32, 11), (11, 10)] → zo_g1[zm_fw [(32, 11), (11, 10)] k]? = zo_g8[k]? := fun k hk => of_decide_eq_true (List.all_eq_true.mp zh_asW k (List.mem_range.mpr hk))
    obtain ⟨x0, N, k1, k2, k3, o, ho, k4⟩ := hkeep zW_YB zo_g8 rfl zW_YB [.ref 0, .ref 11] (zm_sub2 [(32, 11), (11, 10)] M) ⟨rfl, fun n d h _ => h⟩ ⟨rfl, rfl, trivial⟩ zh_no zh_no (zh_subG hG rfl hq)
    have hx0 : x0 = none := by
      rcases List.mem_cons.mp ho with rfl | ho
      · exact k4.1
      · cases ho
    subst hx0
    have hrow : ∀ n i, zt_hit zh_asWr n i = false → (zm_mrg [(32, 11), (11, 10)] M N).1 n i = M.1 n i ∧ (zm_mrg [(32, 11), (11, 10)] M N).2 n i = M.2 n i := by
      intro n i hh9
      rcases zh_mrg1 [(32, 11), (11, 10)] M N n i with ⟨c1, c2, c3⟩ | ⟨-, c2, c3⟩
      · have hk0 : zt_hit Wk (zm_iv [(32, 11), (11, 10)] n) i = false := by
          cases hk9 : zt_hit Wk (zm_iv [(32, 11), (11, 10)] n) i with
          | false => rfl
          | true =>
            exfalso
            obtain ⟨w, hw1, hw2⟩ := List.any_eq_true.mp hk9
            have hw3 := List.all_eq_true.mp hW w hw1
            simp only [Bool.and_eq_true, Nat.ble_eq] at hw2 hw3
            have hw4 := Nat.eq_of_beq_eq_true hw2.1.1
            have hlt : zm_iv [(32, 11), (11, 10)] n ≤ 10 := by omega
            have en := zm_fw_iv [(32, 11), (11, 10)] n
            have e2 : zm_fw [(32, 11), (11, 10)] (zm_iv [(32, 11), (11, 10)] n) = 32 + zm_iv [(32, 11), (11, 10)] n := if_pos (by omega)
            rw [zh_asHit (by omega) (by omega) (by omega)] at hh9
            cases hh9
        have k5 := k3 _ _ hk0
        have en := zm_fw_iv [(32, 11), (11, 10)] n
        rw [c2, c3, k5.1, k5.2]
        show M.1 (zm_fw [(32, 11), (11, 10)] (zm_iv [(32, 11), (11, 10)] n)) i = _ ∧ M.2 (zm_fw [(32, 11), (11, 10)] (zm_iv [(32, 11), (11, 10)] n)) i = _
        rw [en]
        exact ⟨rfl, rfl⟩
      · exact ⟨c2, c3⟩
    have hr := hf (3 + z) List.mem_cons_self
    have hno : ∀ n i, 54 ≤ n → zt_hit zh_asWr n i = false := fun n i hn => by
      cases hk9 : zt_hit zh_asWr n i with
      | false => rfl
      | true =>
        exfalso
        obtain ⟨w, hw1, hw2⟩ := List.any_eq_true.mp hk9
        simp only [Bool.and_eq_true] at hw2
        have hw4 := Nat.eq_of_beq_eq_true hw2.1.1
        have hw5 := List.all_eq_true.mp (show zh_asWr.all (fun w => Nat.ble w.1 42) = true by decide) w hw1
        rw [Nat.ble_eq] at hw5
        omega
    have hr2 : zo_Rel v (3 + z) (zm_mrg [(32, 11), (11, 10)] M N) := by
      rw [zh_relX v z hz] at hr ⊢
      refine ⟨by rw [(hrow _ _ (hno _ _ (by omega))).1]; exact hr.1, fun i hi hl => ?_⟩
      rw [(hrow _ _ (hno _ _ (by omega))).1] at hl
      rw [(hrow _ _ (hno _ _ (by omega))).2]
      exact hr.2 i hi hl
    have hG2 := zh_mrgG hG k2 hq
    have hsee := hr2
    rw [zh_relX v z hz] at hsee
    have e55 : 55 + 2 * z = 54 + 2 * z + 1 := by omega
    rw [e55] at hsee
    obtain ⟨x, q1, q2⟩ := zh_as13 (I := (zm_mrg [(32, 11), (11, 10)] M N).1) (J := (zm_mrg [(32, 11), (11, 10)] M N).2) hh (zh_rowG hG2 _ hh) hsee 100 0 none none (by omega) (by omega) (by omega)
    refine ⟨_, _, (zf_X9_isAsSeen_X M.1 M.2 _).trans ((zc_X9_isAsSeen_X_0 M.1 M.2 _ hh k1).trans ((zq_X9_isAsSeen_X_11 _ _ _ hh).trans q1)), hG2, hrow, zh_bools q2 (fun f hf9 => ?_)⟩
    rcases List.mem_cons.mp hf9 with rfl | hf9
    · exact hr2
    · cases hf9)
