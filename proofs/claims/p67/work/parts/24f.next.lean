/-! CONTRACTS BY HAND: next -/
def zh_nP (I0 : Nat → Nat → Int32) (J0 : Nat → Nat → Int64) (a : Int) (I : Nat → Nat → Int32) (J : Nat → Nat → Int64) : Prop := (∀ n i, ¬ (n = 0 ∧ 7 ≤ i ∧ i ≤ 11) → I n i = I0 n i ∧ J n i = J0 n i) ∧ I 0 11 = I0 0 11 ∧ (a ≤ (I 0 7).toInt ∧ (I 0 7).toInt ≤ (I0 0 6).toInt) ∧ (0 ≤ (I 0 8).toInt ∧ (I 0 8).toInt ≤ 4) ∧ (0 ≤ (I 0 9).toInt ∧ (I 0 9).toInt ≤ 800)
section ZHN
variable {I0 I : Nat → Nat → Int32} {J0 J : Nat → Nat → Int64} {a : Int}
theorem zh_nP_f (h : zh_nP I0 J0 a I J) {j : Nat} (hj : 7 ≤ j ∧ j ≤ 10) (x : Int32) : ∀ n i, ¬ (n = 0 ∧ 7 ≤ i ∧ i ≤ 11) → zm_w I 0 j x n i = I0 n i ∧ J n i = J0 n i := fun n i hn => by
  rw [zh_w2 I x (fun e => hn ⟨e.1, by omega⟩)]
  exact h.1 n i hn
theorem zh_nP_7 (h : zh_nP I0 J0 a I J) (hl : (I 0 7).toInt < (I0 0 6).toInt) (h8 : (I0 0 6).toInt ≤ 800) (ha : 0 ≤ a) : zh_nP I0 J0 (a + 1) (zm_w I 0 7 (I 0 7 + 1)) J := by
  have h3 := h.2.2.1
  have e : (I 0 7 + 1).toInt = (I 0 7).toInt + 1 := by rw [zh_add (by rw [zh_p1]; omega) (by rw [zh_p1]; omega), zh_p1]
  refine ⟨zh_nP_f h (by omega) _, ?_, ?_, ?_, ?_⟩
  · rw [zh_w2 I _ (by omega)]; exact h.2.1
  · rw [zh_w1, e]; omega
  · rw [zh_w2 I _ (by omega)]; exact h.2.2.2.1
  · rw [zh_w2 I _ (by omega)]; exact h.2.2.2.2
theorem zh_nP_8 (h : zh_nP I0 J0 a I J) {x : Int32} (h0 : 0 ≤ x.toInt) (h4 : x.toInt ≤ 4) : zh_nP I0 J0 a (zm_w I 0 8 x) J := by
  refine ⟨zh_nP_f h (by omega) _, ?_, ?_, ?_, ?_⟩
  · rw [zh_w2 I _ (by omega)]; exact h.2.1
  · rw [zh_w2 I _ (by omega)]; exact h.2.2.1
  · rw [zh_w1]; omega
  · rw [zh_w2 I _ (by omega)]; exact h.2.2.2.2
theorem zh_nP_9 (h : zh_nP I0 J0 a I J) {x : Int32} (h0 : 0 ≤ x.toInt) (h4 : x.toInt ≤ 800) : zh_nP I0 J0 a (zm_w I 0 9 x) J := by
  refine ⟨zh_nP_f h (by omega) _, ?_, ?_, ?_, ?_⟩
  · rw [zh_w2 I _ (by omega)]; exact h.2.1
  · rw [zh_w2 I _ (by omega)]; exact h.2.2.1
  · rw [zh_w2 I _ (by omega)]; exact h.2.2.2.1
  · rw [zh_w1]; omega
theorem zh_nP_10 (h : zh_nP I0 J0 a I J) (x : Int32) : zh_nP I0 J0 a (zm_w I 0 10 x) J := by
  refine ⟨zh_nP_f h (by omega) _, ?_, ?_, ?_, ?_⟩
  · rw [zh_w2 I _ (by omega)]; exact h.2.1
  · rw [zh_w2 I _ (by omega)]; exact h.2.2.1
  · rw [zh_w2 I _ (by omega)]; exact h.2.2.2.1
  · rw [zh_w2 I _ (by omega)]; exact h.2.2.2.2
theorem zh_nP_J (h : zh_nP I0 J0 a I J) (x : Int64) : zh_nP I0 J0 a I (zm_wl J 0 11 x) := by
  refine ⟨fun n i hn => ⟨(h.1 n i hn).1, ?_⟩, h.2⟩
  unfold zm_wl
  rw [if_neg (fun e => hn ⟨e.1, by omega⟩)]
  exact (h.1 n i hn).2
theorem zh_nP_a (h : zh_nP I0 J0 a I J) {b : Int} (hb : b ≤ a) : zh_nP I0 J0 b I J := ⟨h.1, h.2.1, ⟨Int.le_trans hb h.2.2.1.1, h.2.2.1.2⟩, h.2.2.2⟩
theorem zh_nP_6 (h : zh_nP I0 J0 a I J) : I 0 6 = I0 0 6 := (h.1 0 6 (by omega)).1
def zh_ib (I : Nat → Nat → Int32) (k lo hi : Int32) : Int32 := if I 0 6 ≤ k then 0 else if I 5 (Int32.toNatClampNeg k) < lo then 0 else if hi < I 5 (Int32.toNatClampNeg k) then 0 else 1
theorem zh_isByte (I : Nat → Nat → Int32) (J : Nat → Nat → Int64) {k : Int32} (hk : 0 ≤ k.toInt) (h8 : (I 0 6).toInt ≤ 800) (lo hi : Int32) : zF_X10_isByte zW_M [.ref 0, .int k, .int lo, .int hi] (I, J) = some (some (.int (zh_ib I k lo hi)), (I, J)) := by
  have e0 : zv_X10_isByte_M_32 I J k lo hi = some (some (.int 0), (I, J)) := by rw [zq_X10_isByte_M_32, zq_X10_isByte_M_33, if_pos (Or.inl rfl)]
  rw [zf_X10_isByte_M, zq_X10_isByte_M_0]
  unfold zh_ib
  by_cases h1 : I 0 6 ≤ k
  · rw [if_pos h1, if_pos h1, e0]
  · rw [if_neg h1, if_neg h1, zq_X10_isByte_M_8]
    rw [zh_le] at h1
    have hin := zh_in (x := k) (n := 800) hk (by omega)
    rw [if_neg hin]
    by_cases h2 : I 5 (Int32.toNatClampNeg k) < lo
    · rw [if_pos h2, if_pos h2, e0]
    · rw [if_neg h2, if_neg h2, zq_X10_isByte_M_18, if_neg hin]
      by_cases h3 : hi < I 5 (Int32.toNatClampNeg k)
      · rw [if_pos h3, if_pos h3, e0]
      · rw [if_neg h3, if_neg h3, zq_X10_isByte_M_28, zq_X10_isByte_M_33, if_pos (Or.inr rfl)]
theorem zh_ib_lt {I : Nat → Nat → Int32} {k lo hi : Int32} (h : ¬ zh_ib I k lo hi = 0) : k.toInt < (I 0 6).toInt := by
  unfold zh_ib at h
  by_cases h1 : I 0 6 ≤ k
  · rw [if_pos h1] at h
    exact absurd rfl h
  · rw [zh_le] at h1
    omega
/-- what next comes to -/
def zh_nR (I0 : Nat → Nat → Int32) (J0 : Nat → Nat → Int64) (R : zm_R) : Prop := ∃ I' J', R = some (none, (I', J')) ∧ zh_nP I0 J0 (I0 0 7).toInt I' J' ∧ ((I' 0 8).toInt = 0 → (I' 0 7).toInt = (I0 0 6).toInt) ∧ ((I' 0 8).toInt ≠ 0 → (I0 0 7).toInt + 1 ≤ (I' 0 7).toInt)
variable (h8 : (I0 0 6).toInt ≤ 800) (h7 : 0 ≤ (I0 0 7).toInt)
theorem zh_nEnd (h : zh_nP I0 J0 ((I0 0 7).toInt + 1) I J) (ht : (I 0 8).toInt ≠ 0) (l1 : Option Value) : zh_nR I0 J0 (zv_X10_next_M_307 I J l1) := ⟨I, J, zq_X10_next_M_307 I J l1, zh_nP_a h (by omega), fun e => absurd e ht, fun _ => h.2.2.1.1⟩
theorem zh_nBody (h8 : (I0 0 6).toInt ≤ 800) (h7 : 0 ≤ (I0 0 7).toInt) (h : zh_nP I0 J0 (I0 0 7).toInt I J) (hl : (I 0 7).toInt < (I0 0 6).toInt) (l1 : Int32) : ∃ J', zv_X10_next_M_117 I J l1 = zv_X10_next_M_102 (zm_w I 0 7 (I 0 7 + 1)) J' (l1 + 1) ∧ zh_nP I0 J0 ((I0 0 7).toInt + 1) (zm_w I 0 7 (I 0 7 + 1)) J' := by
  have hlo := h.2.2.1
  have hin := zh_in (x := I 0 7) (n := 800) (by omega) (by omega)
  have k153 : ∀ s0 : Int64, ∃ J', zv_X10_next_M_153 I J l1 s0 = zv_X10_next_M_102 (zm_w I 0 7 (I 0 7 + 1)) J' (l1 + 1) ∧ zh_nP I0 J0 ((I0 0 7).toInt + 1) (zm_w I 0 7 (I 0 7 + 1)) J' := by
    intro s0
    rw [zq_X10_next_M_153]
    split
    · rw [zq_X10_next_M_169]
      exact ⟨_, rfl, zh_nP_7 (zh_nP_J h _) hl h8 h7⟩
    · rw [zq_X10_next_M_162, zq_X10_next_M_169]
      exact ⟨_, rfl, zh_nP_7 (zh_nP_J (zh_nP_J h _) _) hl h8 h7⟩
  rw [zq_X10_next_M_117]
  split
  · rw [zq_X10_next_M_130, if_neg hin]
    exact k153 _
  · rw [zq_X10_next_M_124]
    exact k153 _
theorem zh_n102 (h8 : (I0 0 6).toInt ≤ 800) (h7 : 0 ≤ (I0 0 7).toInt) : ∀ (n : Nat) (I : Nat → Nat → Int32) (J : Nat → Nat → Int64) (l1 : Int32), zh_nP I0 J0 ((I0 0 7).toInt + 1) I J → (I 0 8).toInt ≠ 0 → (I0 0 6).toInt - (I 0 7).toInt < n → zh_nR I0 J0 (zv_X10_next_M_102 I J l1) := by
  intro n
  induction n with
  | zero => intro I J l1 h ht hn; have := h.2.2.1; omega
  | succ n ih =>
    intro I J l1 h ht hn
    have h6 := zh_nP_6 h
    have hlo := h.2.2.1
    rw [zc_X10_next_M_102 _ _ _ (zh_isByte I J (by omega) (by rw [h6]; exact h8) _ _), zq_X10_next_M_114]
    split
    · rw [zq_X10_next_M_185]
      exact zh_nEnd h ht _
    · next hb =>
      have hl := zh_ib_lt hb
      rw [h6] at hl
      obtain ⟨J', e, hP⟩ := zh_nBody h8 h7 (zh_nP_a h (by omega)) hl l1
      rw [e]
      refine ih _ _ _ hP ?_ ?_
      · rw [zh_w2 I _ (by omega)]; exact ht
      · rw [zh_w1, zh_add (by rw [zh_p1]; omega) (by rw [zh_p1]; omega), zh_p1]; omega
theorem zh_nBody2 (h8 : (I0 0 6).toInt ≤ 800) (h7 : 0 ≤ (I0 0 7).toInt) (h : zh_nP I0 J0 (I0 0 7).toInt I J) (hl : (I 0 7).toInt < (I0 0 6).toInt) : ∃ x : Int32, zv_X10_next_M_223 I J = zv_X10_next_M_208 (zm_w (zm_w I 0 10 x) 0 7 (I 0 7 + 1)) J ∧ zh_nP I0 J0 ((I0 0 7).toInt + 1) (zm_w (zm_w I 0 10 x) 0 7 (I 0 7 + 1)) J := by
  have hlo := h.2.2.1
  have hin := zh_in (x := I 0 7) (n := 800) (by omega) (by omega)
  have k258 : ∀ s0 : Int32, ∃ x : Int32, zv_X10_next_M_258 I J s0 = zv_X10_next_M_208 (zm_w (zm_w I 0 10 x) 0 7 (I 0 7 + 1)) J ∧ zh_nP I0 J0 ((I0 0 7).toInt + 1) (zm_w (zm_w I 0 10 x) 0 7 (I 0 7 + 1)) J := by
    intro s0
    refine ⟨s0, ?_, ?_⟩
    · rw [zq_X10_next_M_258, zh_w2 I s0 (by omega : ¬ (0 = 0 ∧ 7 = 10))]
    · have := zh_nP_7 (zh_nP_10 h s0) (by rw [zh_w2 I s0 (by omega)]; exact hl) h8 h7
      rw [zh_w2 I s0 (by omega : ¬ (0 = 0 ∧ 7 = 10))] at this
      exact this
  rw [zq_X10_next_M_223]
  split
  · rw [zq_X10_next_M_238, if_neg hin]
    exact k258 _
  · rw [zq_X10_next_M_233]
    exact k258 _
theorem zh_n208 (h8 : (I0 0 6).toInt ≤ 800) (h7 : 0 ≤ (I0 0 7).toInt) : ∀ (n : Nat) (I : Nat → Nat → Int32) (J : Nat → Nat → Int64), zh_nP I0 J0 ((I0 0 7).toInt + 1) I J → (I 0 8).toInt ≠ 0 → (I0 0 6).toInt - (I 0 7).toInt < n → zh_nR I0 J0 (zv_X10_next_M_208 I J) := by
  intro n
  induction n with
  | zero => intro I J h ht hn; have := h.2.2.1; omega
  | succ n ih =>
    intro I J h ht hn
    have h6 := zh_nP_6 h
    have hlo := h.2.2.1
    rw [zc_X10_next_M_208 _ _ (zh_isByte I J (by omega) (by rw [h6]; exact h8) _ _), zq_X10_next_M_220]
    split
    · exact zh_nEnd h ht _
    · next hb =>
      have hl := zh_ib_lt hb
      rw [h6] at hl
      obtain ⟨x, e, hP⟩ := zh_nBody2 h8 h7 (zh_nP_a h (by omega)) hl
      rw [e]
      refine ih _ _ hP ?_ ?_
      · rw [zh_w2 _ _ (by omega), zh_w2 I _ (by omega)]; exact ht
      · rw [zh_w1, zh_add (by rw [zh_p1]; omega) (by rw [zh_p1]; omega), zh_p1]; omega
theorem zh_ib_8 (I : Nat → Nat → Int32) (x k lo hi : Int32) : zh_ib (zm_w I 0 8 x) k lo hi = zh_ib I k lo hi := by
  unfold zh_ib
  rw [zh_w2 I x (by omega), zh_w2 I x (by omega)]
theorem zh_n80 (h8 : (I0 0 6).toInt ≤ 800) (h7 : 0 ≤ (I0 0 7).toInt) (h : zh_nP I0 J0 (I0 0 7).toInt I J) (hl : (I 0 7).toInt < (I0 0 6).toInt) : zh_nR I0 J0 (zv_X10_next_M_80 I J) := by
  have h6 := zh_nP_6 h
  have hlo := h.2.2.1
  have hin := zh_in (x := I 0 7) (n := 800) (by omega) (by omega)
  rw [zc_X10_next_M_80 _ _ (zh_isByte I J (by omega) (by rw [h6]; exact h8) _ _), zq_X10_next_M_92]
  split
  · rw [zc_X10_next_M_188 _ _ (zh_isByte I J (by omega) (by rw [h6]; exact h8) _ _), zq_X10_next_M_200]
    split
    · have k294 : ∀ s0 : Int32, 1 ≤ s0.toInt → s0.toInt ≤ 4 → zh_nR I0 J0 (zv_X10_next_M_294 I J s0) := by
        intro s0 h1 h4
        rw [zq_X10_next_M_294]
        refine zh_nEnd (zh_nP_7 (zh_nP_8 h (by omega) h4) (by rw [zh_w2 I s0 (by omega)]; exact hl) h8 h7) ?_ _
        rw [zh_w2 _ _ (by omega), zh_w1]
        omega
      rw [zq_X10_next_M_274, if_neg hin]
      split
      · rw [zq_X10_next_M_289]
        exact k294 3 (by decide) (by decide)
      · rw [zq_X10_next_M_293]
        exact k294 4 (by decide) (by decide)
    · next hb =>
      have e2 : (2 : Int32).toInt = 2 := by decide
      have hP2 := zh_nP_8 h (x := 2) (by omega) (by omega)
      have e7 : (zm_w I 0 8 2) 0 7 = I 0 7 := zh_w2 I _ (by omega)
      have e6 : (zm_w I 0 8 2) 0 6 = I 0 6 := zh_w2 I _ (by omega)
      rw [zq_X10_next_M_203, zc_X10_next_M_208 _ _ (zh_isByte (zm_w I 0 8 2) J (by rw [e7]; omega) (by rw [e6, h6]; exact h8) _ _), zq_X10_next_M_220, e7, zh_ib_8, if_neg hb]
      obtain ⟨x, e, hP⟩ := zh_nBody2 h8 h7 hP2 (by rw [e7]; exact hl)
      rw [e]
      refine zh_n208 h8 h7 900 _ _ hP ?_ ?_
      · rw [zh_w2 _ _ (by omega), zh_w2 _ _ (by omega), zh_w1, e2]; omega
      · rw [zh_w1, e7, zh_add (by rw [zh_p1]; omega) (by rw [zh_p1]; omega), zh_p1]; omega
  · next hb =>
    have hP2 := zh_nP_8 h (x := 1) (by rw [zh_p1]; omega) (by rw [zh_p1]; omega)
    have e7 : (zm_w I 0 8 1) 0 7 = I 0 7 := zh_w2 I _ (by omega)
    have e6 : (zm_w I 0 8 1) 0 6 = I 0 6 := zh_w2 I _ (by omega)
    rw [zq_X10_next_M_95, zc_X10_next_M_102 _ _ _ (zh_isByte (zm_w I 0 8 1) J (by rw [e7]; omega) (by rw [e6, h6]; exact h8) _ _), zq_X10_next_M_114, e7, zh_ib_8, if_neg hb]
    obtain ⟨J', e, hP⟩ := zh_nBody h8 h7 hP2 (by rw [e7]; exact hl) 0
    rw [e]
    refine zh_n102 h8 h7 900 _ _ _ hP ?_ ?_
    · rw [zh_w2 _ _ (by omega), zh_w1, zh_p1]; omega
    · rw [zh_w1, e7, zh_add (by rw [zh_p1]; omega) (by rw [zh_p1]; omega), zh_p1]; omega
theorem zh_n0 (h8 : (I0 0 6).toInt ≤ 800) (h7 : 0 ≤ (I0 0 7).toInt) : ∀ (n : Nat) (I : Nat → Nat → Int32) (J : Nat → Nat → Int64), zh_nP I0 J0 (I0 0 7).toInt I J → (I0 0 6).toInt - (I 0 7).toInt < n → zh_nR I0 J0 (zv_X10_next_M_0 I J) := by
  intro n
  induction n with
  | zero => intro I J h hn; have := h.2.2.1; omega
  | succ n ih =>
    intro I J h hn
    have h6 := zh_nP_6 h
    have hlo := h.2.2.1
    have k30 : ∀ lo hi, ¬ zh_ib I (I 0 7) lo hi = 0 → zh_nR I0 J0 (zv_X10_next_M_30 I J) := by
      intro lo hi hb
      have hl := zh_ib_lt hb
      rw [h6] at hl
      rw [zq_X10_next_M_30]
      refine ih _ _ (zh_nP_a (zh_nP_7 h hl h8 h7) (by omega)) ?_
      rw [zh_w1, zh_add (by rw [zh_p1]; omega) (by rw [zh_p1]; omega), zh_p1]; omega
    rw [zc_X10_next_M_0 _ _ (zh_isByte I J (by omega) (by rw [h6]; exact h8) _ _), zq_X10_next_M_12]
    split
    · rw [zc_X10_next_M_15 _ _ (zh_isByte I J (by omega) (by rw [h6]; exact h8) _ _), zq_X10_next_M_27]
      split
      · have hP : zh_nP I0 J0 (I0 0 7).toInt (zm_w (zm_w I 0 9 (I 0 7)) 0 10 0) (zm_wl J 0 11 0) := zh_nP_J (zh_nP_10 (zh_nP_9 h (by omega) (by omega)) 0) 0
        have e7 : (zm_w (zm_w I 0 9 (I 0 7)) 0 10 0) 0 7 = I 0 7 := by rw [zh_w2 _ _ (by omega), zh_w2 _ _ (by omega)]
        have e6 : (zm_w (zm_w I 0 9 (I 0 7)) 0 10 0) 0 6 = I0 0 6 := by rw [zh_w2 _ _ (by omega), zh_w2 _ _ (by omega), h6]
        rw [zq_X10_next_M_43, e7, e6]
        split
        · next he =>
          have he := congrArg Int32.toInt he
          rw [zq_X10_next_M_72]
          refine ⟨_, _, zq_X10_next_M_307 _ _ _, zh_nP_8 hP (by rw [zh_z0]; omega) (by rw [zh_z0]; omega), fun _ => ?_, fun e => ?_⟩
          · rw [zh_w2 _ _ (by omega), e7]; exact he
          · rw [zh_w1, zh_z0] at e; exact absurd rfl e
        · next he =>
          refine zh_n80 h8 h7 hP ?_
          rw [e7]
          have : (I 0 7).toInt ≠ (I0 0 6).toInt := fun e => he (Int32.toInt_inj.mp e)
          omega
      · next hb => exact k30 _ _ hb
    · next hb => exact k30 _ _ hb
end ZHN
theorem zh_nextV (M : zm_I) (hG : zt_Gs zo_g22 M) (ha : (M.1 0 7).toInt ≤ (M.1 0 6).toInt) : ∃ N, zF_X10_next zW_M [.ref 0] M = some (none, N) ∧ zt_Gs zo_g22 N ∧ zt_fr [(0, 7, 11)] M N ∧ (N.1 0 7).toInt ≤ (N.1 0 6).toInt ∧ zo_mu N ≤ zo_mu M ∧ ((M.1 0 8).toInt ≠ 0 → zo_mu N < zo_mu M) := by
  have g6 : 0 ≤ (M.1 0 6).toInt ∧ (M.1 0 6).toInt ≤ 800 := hG 0 _ rfl 6 (.ofNat 0, .ofNat 800) rfl
  have g7 : 0 ≤ (M.1 0 7).toInt ∧ (M.1 0 7).toInt ≤ 800 := hG 0 _ rfl 7 (.ofNat 0, .ofNat 800) rfl
  have g8 : 0 ≤ (M.1 0 8).toInt ∧ (M.1 0 8).toInt ≤ 4 := hG 0 _ rfl 8 (.ofNat 0, .ofNat 4) rfl
  have g9 : 0 ≤ (M.1 0 9).toInt ∧ (M.1 0 9).toInt ≤ 800 := hG 0 _ rfl 9 (.ofNat 0, .ofNat 800) rfl
  obtain ⟨I', J', e, hP, q1, q2⟩ := zh_n0 (I0 := M.1) (J0 := M.2) g6.2 g7.1 900 M.1 M.2 ⟨fun _ _ _ => ⟨rfl, rfl⟩, rfl, ⟨Int.le_refl _, ha⟩, g8, g9⟩ (by omega)
  have e6 := zh_nP_6 hP
  have hlo := hP.2.2.1
  refine ⟨(I', J'), (zf_X10_next_M M.1 M.2).trans e, ?_, ?_, ?_, ?_, ?_⟩
  · intro n g hg i b hb
    by_cases hc : n = 0 ∧ 7 ≤ i ∧ i ≤ 11
    · obtain ⟨rfl, h1, h2⟩ := hc
      rw [show zo_g22[0]? = some (zo_g22.getD 0 []) from rfl] at hg
      cases hg
      have hi : i = 7 ∨ i = 8 ∨ i = 9 ∨ i = 10 ∨ i = 11 := by omega
      rcases hi with rfl | rfl | rfl | rfl | rfl
      · have hb : some ((Int.ofNat 0, Int.ofNat 800) : Int × Int) = some b := hb
        cases hb
        show (0 : Int) ≤ (I' 0 7).toInt ∧ (I' 0 7).toInt ≤ 800
        omega
      · have hb : some ((Int.ofNat 0, Int.ofNat 4) : Int × Int) = some b := hb
        cases hb
        exact hP.2.2.2.1
      · have hb : some ((Int.ofNat 0, Int.ofNat 800) : Int × Int) = some b := hb
        cases hb
        exact hP.2.2.2.2
      · have hb : some ((Int.negSucc 2147483647, Int.ofNat 2147483647) : Int × Int) = some b := hb
        cases hb
        exact zt_rgI _
      · show _ ≤ (I' 0 11).toInt ∧ (I' 0 11).toInt ≤ _
        rw [hP.2.1]
        exact hG 0 _ rfl 11 b hb
    · show _ ≤ (I' n i).toInt ∧ (I' n i).toInt ≤ _
      rw [(hP.1 n i hc).1]
      exact hG n g hg i b hb
  · intro n i hh
    exact hP.1 n i (fun c => by
      have : zt_hit [(0, 7, 11)] n i = true := by rw [c.1]; simp [zt_hit]; omega
      rw [this] at hh
      cases hh)
  · show (I' 0 7).toInt ≤ (I' 0 6).toInt
    rw [e6]; exact hlo.2
  · unfold zo_mu
    dsimp only
    rw [e6]
    by_cases h0 : (I' 0 8).toInt = 0
    · have := q1 h0
      rw [if_pos h0]
      omega
    · have := q2 h0
      rw [if_neg h0]
      omega
  · intro ht
    unfold zo_mu
    dsimp only
    rw [e6, if_neg ht]
    by_cases h0 : (I' 0 8).toInt = 0
    · have := q1 h0
      rw [if_pos h0]
      omega
    · have := q2 h0
      rw [if_neg h0]
      omega
theorem zh_nextC (v : Nat) (hd : Nat × Option Nat × Bool × List (Nat × Nat)) (pre : List zt_C) (fl fo : List Nat) (h1 : ∀ M : zm_I, zt_Gs zo_g22 M → (∀ c ∈ pre, zt_cs [] M c) → (∀ f ∈ fl, zo_Rel v f M) → (M.1 0 7).toInt ≤ (M.1 0 6).toInt ∧ ∀ N : zm_I, (N.1 0 7).toInt ≤ (N.1 0 6).toInt → zo_mu N ≤ zo_mu M → ((M.1 0 8).toInt ≠ 0 → zo_mu N < zo_mu M) → ∀ f ∈ fo, zo_Rel v f N) (hp : ∀ c ∈ pre, c.1.1 = 1) : zt_Con zo_Om (zo_Rel v) (hd, (22, ([zjr 0], pre, fl), [(0, 7, 11)], [(none, [], [], fo)])) zF_X10_next :=
  zh_con (w0 := zW_M) (G := zo_g22) rfl (by decide +kernel) (fun as M hs hc hf hG => by
    obtain ⟨vs, rfl, h2⟩ := zh_ref hs
    obtain rfl := zh_nil h2
    have hc' : ∀ c ∈ pre, zt_cs [] M c := fun c hm => by
      have h := hc c hm
      have h1 := hp c hm
      unfold zt_cs at h ⊢
      rw [h1] at h ⊢
      exact h
    obtain ⟨ha, hk⟩ := h1 M hG hc' hf
    obtain ⟨N, q1, q2, q3, q4, q5, q6⟩ := zh_nextV M hG ha
    exact ⟨none, N, q1, q2, q3, _, List.mem_cons_self, ⟨rfl, zh_no, zh_no, hk N q4 q5 q6⟩⟩)
theorem zh_next_a (v : Nat) (hd : Nat × Option Nat × Bool × List (Nat × Nat)) : zt_Con zo_Om (zo_Rel v) (hd, (22, ([zjr 0], [((1, 0, 7), .ofNat 0, .ofNat 0)], []), [(0, 7, 11)], [(none, [], [], [2])])) zF_X10_next := zh_nextC v hd _ _ _ (fun M hG hc _ => by
  have h7 : (0 : Int) ≤ (M.1 0 7).toInt ∧ (M.1 0 7).toInt ≤ 0 := hc _ List.mem_cons_self
  have g6 : 0 ≤ (M.1 0 6).toInt ∧ (M.1 0 6).toInt ≤ 800 := hG 0 _ rfl 6 (.ofNat 0, .ofNat 800) rfl
  refine ⟨by omega, fun N h1 _ _ f hf => ?_⟩
  simp only [List.mem_cons, List.not_mem_nil, or_false] at hf
  subst hf
  exact h1) (fun c hc => by simp only [List.mem_cons, List.not_mem_nil, or_false] at hc; rw [hc])
theorem zh_next_d (v : Nat) (hd : Nat × Option Nat × Bool × List (Nat × Nat)) : zt_Con zo_Om (zo_Rel v) (hd, (22, ([zjr 0], [], [0, 2]), [(0, 7, 11)], [(none, [], [], [0, 2])])) zF_X10_next := zh_nextC v hd _ _ _ (fun M hG hc hf => by
  have h0 : (M.1 0 7).toInt ≤ (M.1 0 6).toInt ∧ zo_mu M ≤ v := hf 0 (by simp)
  refine ⟨h0.1, fun N h1 h2 _ f hf => ?_⟩
  simp only [List.mem_cons, List.not_mem_nil, or_false] at hf
  rcases hf with rfl | rfl
  · exact ⟨h1, Nat.le_trans h2 h0.2⟩
  · exact h1) zh_no
theorem zh_next_b (v : Nat) (hd : Nat × Option Nat × Bool × List (Nat × Nat)) : zt_Con zo_Om (zo_Rel v) (hd, (22, ([zjr 0], [((1, 0, 8), .ofNat 1, .ofNat 4)], [0, 2]), [(0, 7, 11)], [(none, [], [], [0, 1, 2])])) zF_X10_next := zh_nextC v hd _ _ _ (fun M hG hc hf => by
  have h0 : (M.1 0 7).toInt ≤ (M.1 0 6).toInt ∧ zo_mu M ≤ v := hf 0 (by simp)
  have h8 : (1 : Int) ≤ (M.1 0 8).toInt ∧ (M.1 0 8).toInt ≤ 4 := hc _ List.mem_cons_self
  refine ⟨h0.1, fun N h1 h2 h3 f hf => ?_⟩
  simp only [List.mem_cons, List.not_mem_nil, or_false] at hf
  rcases hf with rfl | rfl | rfl
  · exact ⟨h1, Nat.le_trans h2 h0.2⟩
  · exact Nat.lt_of_lt_of_le (h3 (by omega)) h0.2
  · exact h1) (fun c hc => by simp only [List.mem_cons, List.not_mem_nil, or_false] at hc; rw [hc])
theorem zh_next_c (v : Nat) (hd : Nat × Option Nat × Bool × List (Nat × Nat)) : zt_Con zo_Om (zo_Rel v) (hd, (22, ([zjr 0], [((1, 0, 8), .ofNat 1, .ofNat 4)], [0, 1, 2]), [(0, 7, 11)], [(none, [], [], [0, 1, 2])])) zF_X10_next := zh_nextC v hd _ _ _ (fun M hG hc hf => by
  have h0 : (M.1 0 7).toInt ≤ (M.1 0 6).toInt ∧ zo_mu M ≤ v := hf 0 (by simp)
  have h8 : (1 : Int) ≤ (M.1 0 8).toInt ∧ (M.1 0 8).toInt ≤ 4 := hc _ List.mem_cons_self
  refine ⟨h0.1, fun N h1 h2 h3 f hf => ?_⟩
  simp only [List.mem_cons, List.not_mem_nil, or_false] at hf
  rcases hf with rfl | rfl | rfl
  · exact ⟨h1, Nat.le_trans h2 h0.2⟩
  · exact Nat.lt_of_lt_of_le (h3 (by omega)) h0.2
  · exact h1) (fun c hc => by simp only [List.mem_cons, List.not_mem_nil, or_false] at hc; rw [hc])
