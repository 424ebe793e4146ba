/-! CONTRACTS BY HAND: sights of the reference -/
def zh_inr (a b c : Int64) : Int32 := if a < b then 0 else if c < a then 0 else 1
theorem zh_cmp_gt (a c : Int64) : (0 < lg_cmp a c) ↔ c < a := lg_cmp_gt a c
theorem zh_inV (I : Nat → Nat → Int32) (J : Nat → Nat → Int64) (a b c : Int64) : zF_X10_in zW_M [.long a, .long b, .long c] (I, J) = some (some (.int (zh_inr a b c)), (I, J)) := by
  unfold zh_inr
  rw [zf_X10_in_M, zq_X10_in_M_0]
  by_cases h1 : a < b
  · rw [if_pos ((lg_cmp_lt a b).mpr h1), if_pos h1, zq_X10_in_M_17, zq_X10_in_M_18, if_pos (Or.inl rfl)]
  · rw [if_neg (fun q => h1 ((lg_cmp_lt a b).mp q)), if_neg h1, zq_X10_in_M_6]
    by_cases h2 : c < a
    · rw [if_pos ((zh_cmp_gt a c).mpr h2), if_pos h2, zq_X10_in_M_17, zq_X10_in_M_18, if_pos (Or.inl rfl)]
    · rw [if_neg (fun q => h2 ((zh_cmp_gt a c).mp q)), if_neg h2, zq_X10_in_M_13, zq_X10_in_M_18, if_pos (Or.inr rfl)]
theorem zh_inr_ne {a b c : Int64} (h : ¬ zh_inr a b c = 0) : b.toInt ≤ a.toInt ∧ a.toInt ≤ c.toInt := by
  unfold zh_inr at h
  by_cases h1 : a < b
  · rw [if_pos h1] at h; exact absurd rfl h
  · rw [if_neg h1] at h
    by_cases h2 : c < a
    · rw [if_pos h2] at h; exact absurd rfl h
    · rw [Int64.lt_iff_toInt_lt] at h1 h2
      omega
theorem zh_inr_b (a b c : Int64) : zh_inr a b c = 0 ∨ zh_inr a b c = 1 := by
  unfold zh_inr
  split
  · exact Or.inl rfl
  · split
    · exact Or.inl rfl
    · exact Or.inr rfl
theorem zh_isSlotV (I : Nat → Nat → Int32) (J : Nat → Nat → Int64) (l : Int32) : zF_X10_isSlot zW_M [.int l] (I, J) = some (some (.int (zh_inr (Int32.toInt64 l) 0 3)), (I, J)) := by
  rw [zf_X10_isSlot_M, zc_X10_isSlot_M_0 _ _ _ (zh_inV I J _ _ _), zq_X10_isSlot_M_9, if_pos (zh_inr_b _ _ _)]
theorem zh_slot {l : Int32} (h : ¬ zh_inr (Int32.toInt64 l) 0 3 = 0) : 0 ≤ l.toInt ∧ l.toInt ≤ 3 := by
  have := zh_inr_ne h
  rw [Int32.toInt_toInt64] at this
  exact this
theorem zh_isBenchV (I : Nat → Nat → Int32) (J : Nat → Nat → Int64) : zF_X10_isBench zW_M [.ref 0] (I, J) = some (some (.int (if I 6 0 ≤ 0 then 0 else 1)), (I, J)) := by
  rw [zf_X10_isBench_M, zq_X10_isBench_M_0, if_neg (by decide)]
  show (if I 6 0 ≤ 0 then _ else _) = _
  split
  · rw [zq_X10_isBench_M_13, zq_X10_isBench_M_14, if_pos (Or.inl rfl)]
  · rw [zq_X10_isBench_M_9, zq_X10_isBench_M_14, if_pos (Or.inr rfl)]
theorem zh_isCallerV (I : Nat → Nat → Int32) (J : Nat → Nat → Int64) (x : Int64) : zF_X10_isCaller zW_M [.ref 0, .long x] (I, J) = some (some (.int (zh_inr x 0 (Int32.toInt64 (I 7 5) - 1))), (I, J)) := by
  have e : zF_X10_callers zW_M [.ref 0] (I, J) = some (some (.int (I 7 5)), (I, J)) := by
    rw [zf_X10_callers_M, zq_X10_callers_M_0, if_neg (by decide)]
    rfl
  rw [zf_X10_isCaller_M, zc_X10_isCaller_M_0 _ _ _ e, zc_X10_isCaller_M_6 _ _ _ _ _ _ (zh_inV I J _ _ _), zq_X10_isCaller_M_12, if_pos (zh_inr_b _ _ _)]
theorem zh_caller {I : Nat → Nat → Int32} {x : Int64} (h0 : 0 ≤ (I 7 5).toInt ∧ (I 7 5).toInt ≤ 5) (h : ¬ zh_inr x 0 (Int32.toInt64 (I 7 5) - 1) = 0) : 0 ≤ x.toInt ∧ x.toInt ≤ 4 := by
  have := zh_inr_ne h
  have e : (Int32.toInt64 (I 7 5) - 1).toInt = (I 7 5).toInt - 1 := by
    rw [Int64.toInt_sub, Int32.toInt_toInt64]
    have e1 : (1 : Int64).toInt = 1 := by decide
    rw [e1]
    exact zt_bmL (by omega) (by omega)
  rw [e] at this
  have e0 : (0 : Int64).toInt = 0 := by decide
  omega
theorem zh_rem32 (a b : Int32) (hb : b.toInt ≠ 0) : (a - a / b * b).toInt = a.toInt.tmod b.toInt := by
  have ha := zt_rgI a
  have hb2 := zt_rgI b
  rw [Int32.toInt_sub, Int32.toInt_mul, Int32.toInt_div, Int.bmod_mul_bmod, Int.sub_bmod_bmod]
  have e : a.toInt - a.toInt.tdiv b.toInt * b.toInt = a.toInt.tmod b.toInt := by
    have := Int.tdiv_mul_add_tmod a.toInt b.toInt
    omega
  rw [e]
  have h1 : (a.toInt.tmod b.toInt).natAbs < b.toInt.natAbs := by
    rw [Int.natAbs_tmod]
    exact Nat.mod_lt _ (by omega)
  exact zt_bmI (by omega) (by omega)
theorem zh_three {a : Int32} (h0 : 0 ≤ a.toInt) (h : a - a / 3 * 3 = 0) : a.toInt % 3 = 0 := by
  have e3 : (3 : Int32).toInt = 3 := by decide
  have := zh_rem32 a 3 (by rw [e3]; omega)
  rw [h, e3, zh_z0, Int.tmod_eq_emod_of_nonneg h0] at this
  omega
theorem zh_two {a : Int32} (h0 : 0 ≤ a.toInt) (h : a - a / 2 * 2 = 0) : a.toInt % 2 = 0 := by
  have e3 : (2 : Int32).toInt = 2 := by decide
  have := zh_rem32 a 2 (by rw [e3]; omega)
  rw [h, e3, zh_z0, Int.tmod_eq_emod_of_nonneg h0] at this
  omega
theorem zh_c60 : (60 : Int32).toInt = 60 := by decide
theorem zh_c2 : (2 : Int32).toInt = 2 := by decide
theorem zh_c3 : (3 : Int32).toInt = 3 := by decide
theorem zh_c61 : (61 : Int32).toInt = 61 := by decide
theorem zh_k60 {l1 l2 : Int32} {z i : Nat} (hz : l1.toInt = z) (h4 : z < 4) (hi : l2.toInt = i) (h60 : i < 60) : (60 * l1 + l2).toInt = (60 * z + i : Nat) := by
  have e1 : (60 * l1).toInt = 60 * z := by rw [zh_mul (by rw [zh_c60]; omega) (by rw [zh_c60]; omega), zh_c60, hz]
  rw [zh_add (by omega) (by omega), e1, hi]
  omega
theorem zh_cl {x : Int32} {n : Nat} (h : x.toInt = n) : x.toNatClampNeg = n := by
  have := zs_clamp (i := x) (by omega)
  omega
section ZHS
variable {I : Nat → Nat → Int32} {J : Nat → Nat → Int64} {l1 : Int32} {z : Nat}
theorem zh_ws46 (hz : l1.toInt = z) (h4 : z < 4) (hm : 0 ≤ (I 2 z).toInt ∧ (I 2 z).toInt ≤ 60) (h3 : (I 2 z).toInt % 3 = 0) (hc : 0 ≤ (I 7 5).toInt ∧ (I 7 5).toInt ≤ 5) : ∀ (n i : Nat) (l3 : Option Value), i % 3 = 0 → i ≤ 60 → 60 - i < n → (∀ j : Nat, j < i → (j % 3 = 0 → 0 ≤ (J 3 (60 * z + j)).toInt ∧ (J 3 (60 * z + j)).toInt ≤ 4) ∧ (j % 3 = 1 → 0 ≤ (J 3 (60 * z + j)).toInt ∧ (J 3 (60 * z + j)).toInt ≤ 60)) → ∃ x, zv_X10_whyNotSeen_M_46 I J l1 (Int32.ofNat i) l3 = some (some (.int x), (I, J)) ∧ (x = -2 ∨ (x = 0 ∧ zo_see 2 z 3 (60 * z) (I, J))) := by
  intro n
  induction n with
  | zero => intro i l3 _ _ h; omega
  | succ n ih =>
    intro i l3 hi3 hi60 hn hacc
    have ecl := zh_cl hz
    have eo : (Int32.ofNat i).toInt = i := zh_of (by omega)
    rw [zq_X10_whyNotSeen_M_46, if_neg (zh_in (by omega) (by omega)), ecl]
    split
    · next hle =>
      rw [zh_le, eo] at hle
      exact ⟨0, zq_X10_whyNotSeen_M_123 I J l1 _ l3, Or.inr ⟨rfl, h3, fun j hj hl => hacc j (by have hl : (j : Int) < (I 2 z).toInt := hl; omega)⟩⟩
    · next hle =>
      rw [zh_le, eo] at hle
      have hi57 : i ≤ 57 := by omega
      have ek := zh_k60 hz h4 eo (by omega)
      have ek1 : (60 * l1 + Int32.ofNat i + 1).toInt = (60 * z + (i + 1) : Nat) := by rw [zh_add (by rw [zh_p1]; omega) (by rw [zh_p1]; omega), ek, zh_p1]; omega
      have ek2 : (60 * l1 + Int32.ofNat i + 2).toInt = (60 * z + (i + 2) : Nat) := by rw [zh_add (by rw [zh_c2]; omega) (by rw [zh_c2]; omega), ek, zh_c2]; omega
      have e114 : ∀ l3, zv_X10_whyNotSeen_M_114 I J l1 (Int32.ofNat i) l3 = some (some (.int (-2)), (I, J)) := fun l3 => zq_X10_whyNotSeen_M_114 I J l1 _ l3
      rw [zq_X10_whyNotSeen_M_56, if_neg (zh_in (by omega) (by omega)), zc_X10_whyNotSeen_M_70 _ _ _ _ _ _ (zh_isCallerV I J _), zq_X10_whyNotSeen_M_73]
      split
      · exact ⟨_, e114 _, Or.inl rfl⟩
      · next hb1 =>
        rw [zq_X10_whyNotSeen_M_76, if_neg (zh_in (by omega) (by omega)), zc_X10_whyNotSeen_M_84 _ _ _ _ _ _ (zh_inV I J _ _ _), zq_X10_whyNotSeen_M_91]
        split
        · exact ⟨_, e114 _, Or.inl rfl⟩
        · next hb2 =>
          rw [zq_X10_whyNotSeen_M_94, if_neg (zh_in (by omega) (by omega)), zc_X10_whyNotSeen_M_102 _ _ _ _ _ _ (zh_inV I J _ _ _), zq_X10_whyNotSeen_M_111]
          split
          · exact ⟨_, e114 _, Or.inl rfl⟩
          · next hb3 =>
            have c1 := zh_caller hc hb1
            have c2 := zh_inr_ne hb2
            rw [zh_cl ek] at c1
            rw [zh_cl ek1] at c2
            have e0 : (0 : Int64).toInt = 0 := by decide
            have e60 : (60 : Int64).toInt = 60 := by decide
            rw [e0, e60] at c2
            have e3 : Int32.ofNat i + 3 = Int32.ofNat (i + 3) := by
              apply Int32.toInt_inj.mp
              rw [zh_add (by rw [zh_c3]; omega) (by rw [zh_c3]; omega), eo, zh_c3, zh_of (by omega)]
              omega
            rw [zq_X10_whyNotSeen_M_117, e3]
            refine ih (i + 3) _ (by omega) (by omega) (by omega) (fun j hj => ?_)
            by_cases hji : j < i
            · exact hacc j hji
            · have hj3 : j = i ∨ j = i + 1 ∨ j = i + 2 := by omega
              rcases hj3 with rfl | rfl | rfl
              · exact ⟨fun _ => c1, fun h => by omega⟩
              · exact ⟨fun h => by omega, fun _ => c2⟩
              · exact ⟨fun h => by omega, fun h => by omega⟩
end ZHS
theorem zh_seenV (I : Nat → Nat → Int32) (J : Nat → Nat → Int64) (l1 : Int32) (hm : ∀ i, 0 ≤ (I 2 i).toInt ∧ (I 2 i).toInt ≤ 60) (hc : 0 ≤ (I 7 5).toInt ∧ (I 7 5).toInt ≤ 5) : ∃ x : Int32, zF_X10_whyNotSeen zW_M [.ref 0, .int l1] (I, J) = some (some (.int x), (I, J)) ∧ ((-6 ≤ x.toInt ∧ x.toInt ≤ -1) ∨ (x = 0 ∧ (0 < (I 6 0).toInt) ∧ ∃ z : Nat, z < 4 ∧ l1.toInt = z ∧ zo_see 2 z 3 (60 * z) (I, J))) := by
  have e2 : (-2 : Int32).toInt = -2 := by decide
  have e6 : (-6 : Int32).toInt = -6 := by decide
  have e14 : zv_X10_whyNotSeen_M_14 I J l1 = some (some (.int (-2)), (I, J)) := zq_X10_whyNotSeen_M_14 I J l1
  rw [zf_X10_whyNotSeen_M, zc_X10_whyNotSeen_M_0 _ _ _ (zh_isSlotV I J l1), zq_X10_whyNotSeen_M_4]
  split
  · exact ⟨_, e14, Or.inl (by omega)⟩
  · next hs =>
    have hs := zh_slot hs
    obtain ⟨z, hz⟩ : ∃ z : Nat, l1.toInt = z := ⟨l1.toInt.toNat, by omega⟩
    have h4 : z < 4 := by omega
    rw [zc_X10_whyNotSeen_M_7 _ _ _ (zh_isBenchV I J), zq_X10_whyNotSeen_M_11]
    by_cases q : I 6 0 ≤ 0
    · rw [if_pos q, if_pos rfl]
      exact ⟨_, e14, Or.inl (by omega)⟩
    · rw [if_neg q, if_neg (by decide)]
      have hb0 : 0 < (I 6 0).toInt := by
        rw [zh_le, zh_z0] at q; omega
      rw [zq_X10_whyNotSeen_M_17, if_neg (zh_in (by omega) (by omega))]
      split
      · exact ⟨_, zq_X10_whyNotSeen_M_27 I J l1, Or.inl (by omega)⟩
      · rw [zq_X10_whyNotSeen_M_30, if_neg (zh_in (by omega) (by omega)), zh_cl hz]
        split
        · next h3 =>
          rw [zq_X10_whyNotSeen_M_44]
          obtain ⟨x, q1, q2⟩ := zh_ws46 (J := J) hz h4 (hm z) (zh_three (hm z).1 h3) hc 100 0 none (by omega) (by omega) (by omega) (fun j hj => by omega)
          refine ⟨x, q1, ?_⟩
          rcases q2 with rfl | ⟨rfl, q2⟩
          · exact Or.inl (by omega)
          · exact Or.inr ⟨rfl, hb0, z, h4, hz, q2⟩
        · exact ⟨_, zq_X10_whyNotSeen_M_41 I J l1, Or.inl (by omega)⟩
def zh_seenO : List zt_O := [(some (zj (.negSucc 5) (.negSucc 0)), [], [], []), (some (zj (.ofNat 0) (.ofNat 0)), [(1, .ofNat 0, .ofNat 0)], [], [7]), (some (zj (.ofNat 0) (.ofNat 0)), [(1, .ofNat 1, .ofNat 1)], [], [8]), (some (zj (.ofNat 0) (.ofNat 0)), [(1, .ofNat 2, .ofNat 2)], [], [9]), (some (zj (.ofNat 0) (.ofNat 0)), [(1, .ofNat 3, .ofNat 3)], [], [10])]
theorem zh_seenR {v : Nat} {N : zm_I} {l1 x : Int32} {lo : Int} {f : Nat} (hx : x = 0) (hl : l1.toInt = lo) (hf : zo_Rel v f N) : zt_res1 (zo_Rel v) [.ref 0, .int l1] (some (.int x)) N (some (zj (.ofNat 0) (.ofNat 0)), [(1, lo, lo)], [], [f]) := by
  subst hx
  refine ⟨⟨_, rfl, zh_v_int (by decide) (by decide)⟩, fun q hq => ?_, zh_no, fun g hg => ?_⟩
  · rcases List.mem_cons.mp hq with rfl | hq
    · exact ⟨_, _, rfl, rfl, by show lo ≤ _; omega, by show _ ≤ lo; omega⟩
    · cases hq
  · rcases List.mem_cons.mp hg with rfl | hg
    · exact hf
    · cases hg
theorem zh_wseen (pre : List zt_C) (v : Nat) (hd : Nat × Option Nat × Bool × List (Nat × Nat)) : zt_Con zo_Om (zo_Rel v) (hd, (22, ([zjr 0, zt_top], pre, []), [], zh_seenO)) zF_X10_whyNotSeen :=
  zh_pure (w0 := zW_M) (G := zo_g22) rfl (by decide +kernel) (fun as M hs _ _ hG => by
    obtain ⟨vs, rfl, h1⟩ := zh_ref hs
    obtain ⟨l1, vs, rfl, h2⟩ := zh_top h1
    obtain rfl := zh_nil h2
    obtain ⟨x, q1, q2⟩ := zh_seenV M.1 M.2 l1 (fun i => zh_ga hG (n := 2) (b := (.ofNat 0, .ofNat 60)) rfl i) (hG 7 _ rfl 5 (.ofNat 0, .ofNat 5) rfl)
    refine ⟨_, q1, ?_⟩
    rcases q2 with q2 | ⟨hx, -, z, h4, hz, q2⟩
    · exact ⟨_, List.mem_cons_self, zh_res q2.1 q2.2⟩
    · have hz4 : z = 0 ∨ z = 1 ∨ z = 2 ∨ z = 3 := by omega
      rcases hz4 with rfl | rfl | rfl | rfl
      · exact ⟨_, List.mem_of_getElem? (i := 1) rfl, zh_seenR hx hz q2⟩
      · exact ⟨_, List.mem_of_getElem? (i := 2) rfl, zh_seenR hx hz q2⟩
      · exact ⟨_, List.mem_of_getElem? (i := 3) rfl, zh_seenR hx hz q2⟩
      · exact ⟨_, List.mem_of_getElem? (i := 4) rfl, zh_seenR hx hz q2⟩)
theorem zh_wseen_E (pre : List zt_C) (v : Nat) (hd : Nat × Option Nat × Bool × List (Nat × Nat)) : zt_Con zo_Om (zo_Rel v) (hd, (22, ([zjr 0, zt_top], ((1, 6, 0), .negSucc 2147483647, .ofNat 0) :: pre, []), [], [(some (zj (.negSucc 5) (.negSucc 0)), [], [], [])])) zF_X10_whyNotSeen :=
  zh_pure (w0 := zW_M) (G := zo_g22) rfl (by decide +kernel) (fun as M hs hc _ hG => by
    obtain ⟨vs, rfl, h1⟩ := zh_ref hs
    obtain ⟨l1, vs, rfl, h2⟩ := zh_top h1
    obtain rfl := zh_nil h2
    obtain ⟨x, q1, q2⟩ := zh_seenV M.1 M.2 l1 (fun i => zh_ga hG (n := 2) (b := (.ofNat 0, .ofNat 60)) rfl i) (hG 7 _ rfl 5 (.ofNat 0, .ofNat 5) rfl)
    have h6 : Int.negSucc 2147483647 ≤ (M.1 6 0).toInt ∧ (M.1 6 0).toInt ≤ 0 := hc _ List.mem_cons_self
    refine ⟨_, q1, ?_⟩
    rcases q2 with q2 | ⟨-, hb, -⟩
    · exact ⟨_, List.mem_cons_self, zh_res q2.1 q2.2⟩
    · omega)
section ZHT
variable {I : Nat → Nat → Int32} {J : Nat → Nat → Int64} {l1 : Int32} {z : Nat}
theorem zh_l2i {x : Int64} {lo hi : Int} (h1 : lo ≤ x.toInt) (h2 : x.toInt ≤ hi) (h3 : -2147483648 ≤ lo) (h4 : hi ≤ 2147483647) : (Int64.toInt32 x).toInt = x.toInt := by
  rw [Int64.toInt_toInt32]
  exact zt_bmI (by omega) (by omega)
theorem zh_is2 (hz : l1.toInt = z) (h4 : z < 4) (hm : 0 ≤ (I 2 z).toInt ∧ (I 2 z).toInt ≤ 60) (hs : zo_see 2 z 3 (60 * z) (I, J)) : ∀ (n i : Nat) (l3 : Option Value), i % 3 = 0 → i ≤ 60 → 60 - i < n → ∃ x, zv_X10_isSeen_M_2 I J l1 (Int32.ofNat i) l3 = some (some (.int x), (I, J)) ∧ (x = 0 ∨ x = 1) := by
  intro n
  induction n with
  | zero => intro i l3 _ _ h; omega
  | succ n ih =>
    intro i l3 hi3 hi60 hn
    have ecl := zh_cl hz
    have eo : (Int32.ofNat i).toInt = i := zh_of (by omega)
    have h3 : (I 2 z).toInt % 3 = 0 := hs.1
    rw [zq_X10_isSeen_M_2, if_neg (zh_in (by omega) (by omega)), ecl]
    split
    · exact ⟨1, zq_X10_isSeen_M_65 I J l1 _ l3, Or.inr rfl⟩
    · next hle =>
      rw [zh_le, eo] at hle
      have hi57 : i ≤ 57 := by omega
      have ek := zh_k60 hz h4 eo (by omega)
      have ek1 : (60 * l1 + Int32.ofNat i + 1).toInt = (60 * z + (i + 1) : Nat) := by rw [zh_add (by rw [zh_p1]; omega) (by rw [zh_p1]; omega), ek, zh_p1]; omega
      have ek2 : (60 * l1 + Int32.ofNat i + 2).toInt = (60 * z + (i + 2) : Nat) := by rw [zh_add (by rw [zh_c2]; omega) (by rw [zh_c2]; omega), ek, zh_c2]; omega
      have c1 := (hs.2 i (by omega) (by show (i : Int) < (I 2 z).toInt; omega)).1 hi3
      have c2 := (hs.2 (i + 1) (by omega) (by show ((i + 1 : Nat) : Int) < (I 2 z).toInt; omega)).2 (by omega)
      dsimp only at c1 c2
      rw [zq_X10_isSeen_M_12, if_neg (zh_in (by omega) (by omega)), if_neg (zh_in (by omega) (by omega)), zh_cl ek, zh_cl ek1]
      have d1 := zh_l2i c1.1 c1.2 (by omega) (by omega)
      have d2 := zh_l2i c2.1 c2.2 (by omega) (by omega)
      have e61 : (61 * Int64.toInt32 (J 3 (60 * z + i))).toInt = 61 * (J 3 (60 * z + i)).toInt := by rw [zh_mul (by rw [zh_c61, d1]; omega) (by rw [zh_c61, d1]; omega), zh_c61, d1]
      have es : (61 * Int64.toInt32 (J 3 (60 * z + i)) + Int64.toInt32 (J 3 (60 * z + (i + 1)))).toInt = 61 * (J 3 (60 * z + i)).toInt + (J 3 (60 * z + (i + 1))).toInt := by rw [zh_add (by rw [e61, d2]; omega) (by rw [e61, d2]; omega), e61, d2]
      rw [if_neg (zh_in (by omega) (by omega)), if_neg (zh_in (by omega) (by omega))]
      split
      · have e3 : Int32.ofNat i + 3 = Int32.ofNat (i + 3) := by
          apply Int32.toInt_inj.mp
          rw [zh_add (by rw [zh_c3]; omega) (by rw [zh_c3]; omega), eo, zh_c3, zh_of (by omega)]
          omega
        rw [zq_X10_isSeen_M_59, e3]
        exact ih (i + 3) _ (by omega) (by omega) (by omega)
      · exact ⟨0, zq_X10_isSeen_M_57 I J l1 _ _, Or.inl rfl⟩
end ZHT
theorem zh_relM (v z : Nat) (h : z < 4) (M : zm_I) : zo_Rel v (7 + z) M = zo_see 2 z 3 (60 * z) M := by
  have hz4 : z = 0 ∨ z = 1 ∨ z = 2 ∨ z = 3 := by omega
  rcases hz4 with rfl | rfl | rfl | rfl <;> rfl
theorem zh_isSeen (z : Nat) (hz : z < 4) (v : Nat) (hd : Nat × Option Nat × Bool × List (Nat × Nat)) : zt_Con zo_Om (zo_Rel v) (hd, (22, ([zjr 0, zj (.ofNat z) (.ofNat z)], [], [7 + z]), [], zh_bool [7 + z])) zF_X10_isSeen :=
  zh_pure (w0 := zW_M) (G := zo_g22) rfl (by decide +kernel) (fun as M hs _ hf hG => by
    obtain ⟨vs, rfl, h1⟩ := zh_ref hs
    obtain ⟨l1, vs, rfl, h2, h3, h4⟩ := zh_int h1
    obtain rfl := zh_nil h4
    have h2 : (z : Int) ≤ l1.toInt := h2
    have h3 : l1.toInt ≤ (z : Int) := h3
    have hr := hf (7 + z) List.mem_cons_self
    rw [zh_relM v z hz] at hr
    obtain ⟨x, q1, q2⟩ := zh_is2 (I := M.1) (J := M.2) (l1 := l1) (z := z) (by omega) hz (zh_ga hG (n := 2) (b := (.ofNat 0, .ofNat 60)) rfl z) hr 100 0 none (by omega) (by omega) (by omega)
    exact ⟨_, (zf_X10_isSeen_M M.1 M.2 l1).trans ((zq_X10_isSeen_M_0 M.1 M.2 l1).trans q1), zh_bools q2 hf⟩)
