/-! CONTRACTS BY HAND: marks and paste of the reference -/
theorem zh_gsx {G : zt_G} {M : zm_I} {I' : Nat → Nat → Int32} {J' : Nat → Nat → Int64} (hG : zt_Gs G M) (h : ∀ n i, I' n i = M.1 n i ∨ ∀ g b, G[n]? = some g → g[i % g.length]? = some b → b.1 ≤ (I' n i).toInt ∧ (I' n i).toInt ≤ b.2) : zt_Gs G (I', J') := by
  intro n g hg i b hb
  rcases h n i with e | e
  · show _ ≤ (I' n i).toInt ∧ (I' n i).toInt ≤ _
    rw [e]
    exact hG n g hg i b hb
  · exact e g b hg hb
def zh_mP (I0 I : Nat → Nat → Int32) : Prop := (∀ n i, ¬ ((n = 28 ∧ i ≤ 9) ∨ (n = 29 ∧ i ≤ 9) ∨ (n = 0 ∧ i = 50)) → I n i = I0 n i) ∧ (∀ i, 0 ≤ (I 29 i).toInt ∧ (I 29 i).toInt ≤ 9) ∧ 0 ≤ (I 0 50).toInt ∧ (I 0 50).toInt ≤ 10
section ZHM
variable {I0 I : Nat → Nat → Int32} {J : Nat → Nat → Int64} {l1 : Int32} {z : Nat}
theorem zh_mP_28 (h : zh_mP I0 I) {c : Nat} (hc : c ≤ 9) (x : Int32) : zh_mP I0 (zm_w I 28 c x) := by
  refine ⟨fun n i hn => ?_, fun i => ?_, ?_⟩
  · rw [zh_w2 I x (by omega)]; exact h.1 n i hn
  · rw [zh_w2 I x (by omega)]; exact h.2.1 i
  · rw [zh_w2 I x (by omega)]; exact h.2.2
theorem zh_mP_50 (h : zh_mP I0 I) {x : Int32} (h0 : 0 ≤ x.toInt) (h1 : x.toInt ≤ 10) : zh_mP I0 (zm_w I 0 50 x) := by
  refine ⟨fun n i hn => ?_, fun i => ?_, ?_⟩
  · rw [zh_w2 I x (by omega)]; exact h.1 n i hn
  · rw [zh_w2 I x (by omega)]; exact h.2.1 i
  · rw [zh_w1]; omega
theorem zh_mP_29 (h : zh_mP I0 I) {c : Nat} (hc : c ≤ 9) {x : Int32} (h0 : 0 ≤ x.toInt) (h1 : x.toInt ≤ 9) : zh_mP I0 (zm_w I 29 c x) := by
  refine ⟨fun n i hn => ?_, fun i => ?_, ?_⟩
  · rw [zh_w2 I x (by omega)]; exact h.1 n i hn
  · by_cases e : i = c
    · subst e; rw [zh_w1]; omega
    · rw [zh_w2 I x (by omega)]; exact h.2.1 i
  · rw [zh_w2 I x (by omega)]; exact h.2.2
def zh_cnt (n : Nat) : Nat := n % 2 + n / 2 % 2 + n / 4 % 2 + n / 8 % 2 + n / 16 % 2 + n / 32 % 2 + n / 64 % 2 + n / 128 % 2 + n / 256 % 2 + n / 512 % 2
theorem zh_cnt10 (n : Nat) : zh_cnt n ≤ 10 := by
  unfold zh_cnt
  omega
set_option maxRecDepth 100000 in
theorem zh_bits : ∀ n, n < 1024 → ∀ k, k < 10 → ((Int32.ofNat n >>> (Int32.ofNat k &&& 31)) &&& 1) ≠ 1 → (Int32.ofNat n ||| ((1 : Int32) <<< (Int32.ofNat k &&& 31))) = Int32.ofNat (n + 2 ^ k) ∧ n + 2 ^ k < 1024 ∧ zh_cnt (n + 2 ^ k) = zh_cnt n + 1 := by decide +kernel
theorem zh_isBitV (I : Nat → Nat → Int32) (J : Nat → Nat → Int64) (a b : Int32) : zF_X10_isBit zW_M [.int a, .int b] (I, J) = some (some (.int (if ((a >>> (b &&& 31)) &&& 1) = 1 then 1 else 0)), (I, J)) := by
  rw [zf_X10_isBit_M, zq_X10_isBit_M_0]
  split
  · rw [zq_X10_isBit_M_9, zq_X10_isBit_M_14, if_pos (Or.inr rfl)]
  · rw [zq_X10_isBit_M_13, zq_X10_isBit_M_14, if_pos (Or.inl rfl)]
theorem zh_lm84 : ∀ (f : Nat) (I : Nat → Nat → Int32) (n k : Nat), zh_mP I0 I → n < 1024 → k ≤ 10 → (I 0 50).toInt = zh_cnt n → (10 - zh_cnt n) * 11 + (10 - k) < f → ∃ I', zv_X10_laysMarks_M_84 I J l1 (Int32.ofNat n) (Int32.ofNat k) = some (none, (I', J)) ∧ zh_mP I0 I' := by
  intro f
  induction f with
  | zero => intro I n k _ _ _ _ h; omega
  | succ f ih =>
    intro I n k hI hn hk hc hf
    have ek : (Int32.ofNat k).toInt = k := zh_of (by omega)
    have e10 : (10 : Int32).toInt = 10 := by decide
    rw [zq_X10_laysMarks_M_84]
    split
    · exact ⟨I, zq_X10_laysMarks_M_148 I J l1 _ _, hI⟩
    · next h10 =>
      rw [zh_le, e10, ek] at h10
      have e1 : Int32.ofNat k + 1 = Int32.ofNat (k + 1) := by
        apply Int32.toInt_inj.mp
        rw [zh_add (by rw [zh_p1]; omega) (by rw [zh_p1]; omega), ek, zh_p1, zh_of (by omega)]
        omega
      have k111 : ∃ I', zv_X10_laysMarks_M_111 I J l1 (Int32.ofNat n) (Int32.ofNat k) = some (none, (I', J)) ∧ zh_mP I0 I' := by
        rw [zq_X10_laysMarks_M_111, e1]
        exact ih I n (k + 1) hI hn (by omega) hc (by omega)
      rw [zc_X10_laysMarks_M_90 _ _ _ _ _ (zh_isBitV I J _ _), zq_X10_laysMarks_M_95]
      by_cases hb : ((Int32.ofNat n >>> (Int32.ofNat k &&& 31)) &&& 1) = 1
      · rw [if_pos hb, if_neg (by decide)]
        exact k111
      · rw [if_neg hb, if_pos rfl, zq_X10_laysMarks_M_98, if_neg (zh_in (by omega) (by omega))]
        split
        · obtain ⟨b1, b2, b3⟩ := zh_bits n hn k (by omega) hb
          have hc10 := zh_cnt10 (n + 2 ^ k)
          have hcl : (I 0 50).toNatClampNeg = zh_cnt n := zh_cl hc
          rw [zq_X10_laysMarks_M_117, if_neg (zh_in (by omega) (by omega)), b1, zh_w2 I _ (by omega), hcl]
          have e50 : (I 0 50 + 1).toInt = (zh_cnt n : Int) + 1 := by rw [zh_add (by rw [zh_p1]; omega) (by rw [zh_p1]; omega), hc, zh_p1]
          refine ih _ (n + 2 ^ k) 0 (zh_mP_50 (zh_mP_29 hI (by omega) (by omega) (by omega)) (by omega) (by omega)) b2 (by omega) ?_ (by omega)
          rw [zh_w1, e50]
          omega
        · exact k111
theorem zh_lm23 (hz : l1.toInt = z) (h4 : z < 4) (hm : 0 ≤ (I0 2 z).toInt ∧ (I0 2 z).toInt ≤ 60) (h2 : (I0 2 z).toInt % 2 = 0) (hJ : ∀ j : Nat, j < 60 → (j : Int) < (I0 2 z).toInt → 0 ≤ (J 3 (60 * z + j)).toInt ∧ (J 3 (60 * z + j)).toInt ≤ 9) : ∀ (n i : Nat) (I : Nat → Nat → Int32), zh_mP I0 I → i % 2 = 0 → i ≤ 60 → 60 - i < n → ∃ I', zv_X10_laysMarks_M_23 I J l1 (Int32.ofNat i) = some (none, (I', J)) ∧ zh_mP I0 I' := by
  intro n
  induction n with
  | zero => intro i I _ _ _ h; omega
  | succ n ih =>
    intro i I hI hi2 hi60 hn
    have ecl := zh_cl hz
    have eo : (Int32.ofNat i).toInt = i := zh_of (by omega)
    have em : I 2 z = I0 2 z := hI.1 2 z (by omega)
    rw [zq_X10_laysMarks_M_23, if_neg (zh_in (by omega) (by omega)), ecl, em]
    split
    · rw [zq_X10_laysMarks_M_75]
      exact zh_lm84 1000 _ 0 0 (zh_mP_50 hI (by rw [zh_z0]; omega) (by rw [zh_z0]; omega)) (by omega) (by omega) (by rw [zh_w1, zh_z0]; decide) (by rw [show zh_cnt 0 = 0 by decide]; omega)
    · next hle =>
      rw [zh_le, eo] at hle
      have ek := zh_k60 hz h4 eo (by omega)
      have ek1 : (60 * l1 + Int32.ofNat i + 1).toInt = (60 * z + (i + 1) : Nat) := by rw [zh_add (by rw [zh_p1]; omega) (by rw [zh_p1]; omega), ek, zh_p1]; omega
      have c1 := hJ i (by omega) (by omega)
      have d1 := zh_l2i c1.1 c1.2 (by omega) (by omega)
      have hin := zh_in (x := Int64.toInt32 (J 3 (60 * z + i))) (n := 10) (by omega) (by omega)
      have hcl : (Int64.toInt32 (J 3 (60 * z + i))).toNatClampNeg ≤ 9 := by have := zs_clamp (i := Int64.toInt32 (J 3 (60 * z + i))) (by omega); omega
      rw [zq_X10_laysMarks_M_33, if_neg (zh_in (by omega) (by omega)), zh_cl ek, if_neg hin, if_neg (zh_in (by omega) (by omega)), if_neg hin]
      have e2 : Int32.ofNat i + 2 = Int32.ofNat (i + 2) := by
        apply Int32.toInt_inj.mp
        rw [zh_add (by rw [zh_c2]; omega) (by rw [zh_c2]; omega), eo, zh_c2, zh_of (by omega)]
        omega
      rw [e2]
      exact ih (i + 2) _ (zh_mP_28 hI hcl _) (by omega) (by omega) (by omega)
theorem zh_lm2 (hz : l1.toInt = z) (h4 : z < 4) (hm : 0 ≤ (I0 2 z).toInt ∧ (I0 2 z).toInt ≤ 60) (h2 : (I0 2 z).toInt % 2 = 0) (hJ : ∀ j : Nat, j < 60 → (j : Int) < (I0 2 z).toInt → 0 ≤ (J 3 (60 * z + j)).toInt ∧ (J 3 (60 * z + j)).toInt ≤ 9) : ∀ (n k : Nat) (I : Nat → Nat → Int32), zh_mP I0 I → k ≤ 10 → 10 - k < n → ∃ I', zv_X10_laysMarks_M_2 I J l1 (Int32.ofNat k) = some (none, (I', J)) ∧ zh_mP I0 I' := by
  intro n
  induction n with
  | zero => intro k I _ _ h; omega
  | succ n ih =>
    intro k I hI hk hn
    have ek : (Int32.ofNat k).toInt = k := zh_of (by omega)
    have e10 : (10 : Int32).toInt = 10 := by decide
    rw [zq_X10_laysMarks_M_2]
    split
    · rw [zq_X10_laysMarks_M_21]
      exact zh_lm23 hz h4 hm h2 hJ 100 0 I hI (by omega) (by omega) (by omega)
    · next h10 =>
      rw [zh_le, e10, ek] at h10
      have e1 : Int32.ofNat k + 1 = Int32.ofNat (k + 1) := by
        apply Int32.toInt_inj.mp
        rw [zh_add (by rw [zh_p1]; omega) (by rw [zh_p1]; omega), ek, zh_p1, zh_of (by omega)]
        omega
      rw [zq_X10_laysMarks_M_8, if_neg (zh_in (by omega) (by omega)), zh_cl ek, e1]
      exact ih (k + 1) _ (zh_mP_28 hI (by omega) _) (by omega) (by omega)
theorem zh_wm46 (hP : zh_mP I I) (hz : l1.toInt = z) (h4 : z < 4) (hm : 0 ≤ (I 2 z).toInt ∧ (I 2 z).toInt ≤ 60) (h2 : (I 2 z).toInt % 2 = 0) : ∀ (n i : Nat), i ≤ 60 → 60 - i < n → (∀ j : Nat, j < i → 0 ≤ (J 3 (60 * z + j)).toInt ∧ (J 3 (60 * z + j)).toInt ≤ 9) → ∃ x I', zv_X10_whyNotMarks_M_46 I J l1 (Int32.ofNat i) = some (some (.int x), (I', J)) ∧ (x = -2 ∨ x = 0) ∧ zh_mP I I' := by
  intro n
  induction n with
  | zero => intro i _ h; omega
  | succ n ih =>
    intro i hi60 hn hacc
    have ecl := zh_cl hz
    have eo : (Int32.ofNat i).toInt = i := zh_of (by omega)
    rw [zq_X10_whyNotMarks_M_46, if_neg (zh_in (by omega) (by omega)), ecl]
    split
    · next hle =>
      rw [zh_le, eo] at hle
      obtain ⟨I', q1, q2⟩ := zh_lm2 (I0 := I) (J := J) hz h4 hm h2 (fun j _ hj => hacc j (by omega)) 100 0 I hP (by omega) (by omega)
      rw [zc_X10_whyNotMarks_M_86 _ _ _ _ ((zf_X10_laysMarks_M I J l1).trans ((zq_X10_laysMarks_M_0 I J l1).trans q1))]
      exact ⟨0, I', zq_X10_whyNotMarks_M_91 _ _ _ _, Or.inr rfl, q2⟩
    · next hle =>
      rw [zh_le, eo] at hle
      have ek := zh_k60 hz h4 eo (by omega)
      rw [zq_X10_whyNotMarks_M_56, if_neg (zh_in (by omega) (by omega)), zc_X10_whyNotMarks_M_67 _ _ _ _ _ (zh_inV I J _ _ _), zq_X10_whyNotMarks_M_74]
      split
      · exact ⟨-2, I, zq_X10_whyNotMarks_M_77 I J l1 _, Or.inl rfl, hP⟩
      · next hb =>
        have c := zh_inr_ne hb
        have e0 : (0 : Int64).toInt = 0 := by decide
        have e9 : (9 : Int64).toInt = 9 := by decide
        rw [zh_cl ek, e0, e9] at c
        have e1 : Int32.ofNat i + 1 = Int32.ofNat (i + 1) := by
          apply Int32.toInt_inj.mp
          rw [zh_add (by rw [zh_p1]; omega) (by rw [zh_p1]; omega), eo, zh_p1, zh_of (by omega)]
          omega
        rw [zq_X10_whyNotMarks_M_80, e1]
        refine ih (i + 1) (by omega) (by omega) (fun j hj => ?_)
        by_cases hji : j < i
        · exact hacc j hji
        · have : j = i := by omega
          subst this
          exact c
theorem zh_marksV (hP : zh_mP I I) (hm : ∀ i, 0 ≤ (I 2 i).toInt ∧ (I 2 i).toInt ≤ 60) (l1 : Int32) : ∃ (x : Int32) (I' : Nat → Nat → Int32), zF_X10_whyNotMarks zW_M [.ref 0, .int l1] (I, J) = some (some (.int x), (I', J)) ∧ ((-6 ≤ x.toInt ∧ x.toInt ≤ -1) ∨ x = 0) ∧ zh_mP I I' := by
  have e2 : (-2 : Int32).toInt = -2 := by decide
  have e6 : (-6 : Int32).toInt = -6 := by decide
  have e14 : zv_X10_whyNotMarks_M_14 I J l1 = some (some (.int (-2)), (I, J)) := zq_X10_whyNotMarks_M_14 I J l1
  rw [zf_X10_whyNotMarks_M, zc_X10_whyNotMarks_M_0 _ _ _ (zh_isSlotV I J l1), zq_X10_whyNotMarks_M_4]
  split
  · exact ⟨_, I, e14, Or.inl (by omega), hP⟩
  · next hs =>
    have hs := zh_slot hs
    obtain ⟨z, hz⟩ : ∃ z : Nat, l1.toInt = z := ⟨l1.toInt.toNat, by omega⟩
    have h4 : z < 4 := by omega
    rw [zc_X10_whyNotMarks_M_7 _ _ _ (zh_isBenchV I J), zq_X10_whyNotMarks_M_11]
    by_cases q : I 6 0 ≤ 0
    · rw [if_pos q, if_pos rfl]
      exact ⟨_, I, e14, Or.inl (by omega), hP⟩
    · rw [if_neg q, if_neg (by decide), zq_X10_whyNotMarks_M_17, if_neg (zh_in (by omega) (by omega))]
      split
      · exact ⟨_, I, zq_X10_whyNotMarks_M_27 I J l1, Or.inl (by omega), hP⟩
      · rw [zq_X10_whyNotMarks_M_30, if_neg (zh_in (by omega) (by omega)), zh_cl hz]
        split
        · next h3 =>
          rw [zq_X10_whyNotMarks_M_44]
          obtain ⟨x, I', q1, q2, q3⟩ := zh_wm46 (J := J) hP hz h4 (hm z) (zh_two (hm z).1 h3) 100 0 (by omega) (by omega) (fun j hj => by omega)
          refine ⟨x, I', q1, ?_, q3⟩
          rcases q2 with rfl | rfl
          · exact Or.inl (by omega)
          · exact Or.inr rfl
        · exact ⟨_, I, zq_X10_whyNotMarks_M_41 I J l1, Or.inl (by omega), hP⟩
end ZHM
theorem zh_marks (pre : List zt_C) (v : Nat) (hd : Nat × Option Nat × Bool × List (Nat × Nat)) : zt_Con zo_Om (zo_Rel v) (hd, (22, ([zjr 0, zt_top], pre, []), [(0, 50, 50), (28, 0, 9), (29, 0, 9)], [(some (zj (.negSucc 5) (.negSucc 0)), [], [], []), (some (zj (.ofNat 0) (.ofNat 0)), [], [], [])])) zF_X10_whyNotMarks :=
  zh_con (w0 := zW_M) (G := zo_g22) rfl (by decide +kernel) (fun as M hs _ _ hG => by
    obtain ⟨vs, rfl, h1⟩ := zh_ref hs
    obtain ⟨l1, vs, rfl, h2⟩ := zh_top h1
    obtain rfl := zh_nil h2
    have hP : zh_mP M.1 M.1 := ⟨fun _ _ _ => rfl, fun i => zh_ga hG (n := 29) (b := (.ofNat 0, .ofNat 9)) rfl i, hG 0 _ rfl 50 (.ofNat 0, .ofNat 10) rfl⟩
    obtain ⟨x, I', q1, q2, q3⟩ := zh_marksV (J := M.2) hP (fun i => zh_ga hG (n := 2) (b := (.ofNat 0, .ofNat 60)) rfl i) l1
    refine ⟨_, (I', M.2), q1, zh_gsx hG (fun n i => ?_), fun n i hh => ⟨q3.1 n i (fun c => ?_), rfl⟩, ?_⟩
    · by_cases c : (n = 28 ∧ i ≤ 9) ∨ (n = 29 ∧ i ≤ 9) ∨ (n = 0 ∧ i = 50)
      · right
        intro g b hg hb
        rcases c with ⟨rfl, c⟩ | ⟨rfl, c⟩ | ⟨rfl, rfl⟩
        · rw [show zo_g22[28]? = some [(Int.negSucc 2147483647, Int.ofNat 2147483647)] from rfl] at hg
          cases hg
          simp [Nat.mod_one] at hb
          subst hb
          exact zt_rgI _
        · rw [show zo_g22[29]? = some [(Int.ofNat 0, Int.ofNat 9)] from rfl] at hg
          cases hg
          simp [Nat.mod_one] at hb
          subst hb
          exact q3.2.1 i
        · rw [show zo_g22[0]? = some (zo_g22.getD 0 []) from rfl] at hg
          cases hg
          have hb : some ((Int.ofNat 0, Int.ofNat 10) : Int × Int) = some b := hb
          cases hb
          exact q3.2.2
      · exact Or.inl (q3.1 n i c)
    · have : zt_hit [(0, 50, 50), (28, 0, 9), (29, 0, 9)] n i = true := by
        rcases c with ⟨rfl, c⟩ | ⟨rfl, c⟩ | ⟨rfl, rfl⟩
        · simp [zt_hit]; omega
        · simp [zt_hit]; omega
        · rfl
      rw [this] at hh
      cases hh
    · rcases q2 with q2 | rfl
      · exact ⟨_, List.mem_cons_self, zh_res q2.1 q2.2⟩
      · exact ⟨_, List.mem_of_getElem? (i := 1) rfl, zh_res (by decide) (by decide)⟩)
/-- paste -/
def zh_pJ (J0 J : Nat → Nat → Int64) : Prop := ∀ n i, ¬ ((n = 3 ∧ i ≤ 239) ∨ (n = 4 ∧ i ≤ 59)) → J n i = J0 n i
theorem zh_pJ_w {J0 J : Nat → Nat → Int64} (h : zh_pJ J0 J) {n i : Nat} (hn : (n = 3 ∧ i ≤ 239) ∨ (n = 4 ∧ i ≤ 59)) (x : Int64) : zh_pJ J0 (zm_wl J n i x) := by
  intro a b hab
  unfold zm_wl
  rw [if_neg (fun e => hab (by rw [e.1, e.2]; exact hn))]
  exact h a b hab
section ZHQ
variable {I : Nat → Nat → Int32} {J0 : Nat → Nat → Int64} {l1 l2 l3 l4 l5 : Int32} {z y i k n : Nat}
theorem zh_k3 {a b c : Int32} {z i x : Nat} (hz : a.toInt = z) (h4 : z < 4) (hi : b.toInt = i) (h60 : i ≤ 60) (hx : c.toInt = x) (hxx : i + x < 60) : (60 * a + b + c).toInt = (60 * z + i + x : Nat) := by
  have e1 : (60 * a).toInt = 60 * z := by rw [zh_mul (by rw [zh_c60]; omega) (by rw [zh_c60]; omega), zh_c60, hz]
  have e2 : (60 * a + b).toInt = 60 * z + i := by rw [zh_add (by omega) (by omega), e1, hi]
  rw [zh_add (by omega) (by omega), e2, hx]
  omega
theorem zh_pm155 (hy : l3.toInt = y) (hy4 : y < 4) (hk : l4.toInt = k) (hn : l5.toInt = n) (hkn : k + n ≤ 60) : ∀ (f x : Nat) (J : Nat → Nat → Int64), zh_pJ J0 J → x ≤ n → n - x < f → ∃ J', zv_X10_paste_M_155 I J l1 l2 l3 l4 l5 (Int32.ofNat x) = some (some (.int 0), (I, J')) ∧ zh_pJ J0 J' := by
  intro f
  induction f with
  | zero => intro x J _ _ h; omega
  | succ f ih =>
    intro x J hJ hx hf
    have eo : (Int32.ofNat x).toInt = x := zh_of (by omega)
    rw [zq_X10_paste_M_155]
    split
    · exact ⟨J, zq_X10_paste_M_190 I J l1 l2 l3 l4 l5 _, hJ⟩
    · next hle =>
      rw [zh_le, eo] at hle
      have ek := zh_k3 hy hy4 hk (by omega) eo (by omega)
      rw [zq_X10_paste_M_162, if_neg (zh_in (by omega) (by omega)), if_neg (zh_in (by omega) (by omega)), zh_cl ek]
      have e1 : Int32.ofNat x + 1 = Int32.ofNat (x + 1) := by
        apply Int32.toInt_inj.mp
        rw [zh_add (by rw [zh_p1]; omega) (by rw [zh_p1]; omega), eo, zh_p1, zh_of (by omega)]
        omega
      rw [e1]
      exact ih (x + 1) _ (zh_pJ_w hJ (by omega) _) (by omega) (by omega)
theorem zh_pm118 (hz : l1.toInt = z) (hz4 : z < 4) (hi : l2.toInt = i) (hy : l3.toInt = y) (hy4 : y < 4) (hk : l4.toInt = k) (hn : l5.toInt = n) (hin : i + n ≤ 60) (hkn : k + n ≤ 60) : ∀ (f x : Nat) (J : Nat → Nat → Int64), zh_pJ J0 J → x ≤ n → n - x < f → ∃ J', zv_X10_paste_M_118 I J l1 l2 l3 l4 l5 (Int32.ofNat x) = some (some (.int 0), (I, J')) ∧ zh_pJ J0 J' := by
  intro f
  induction f with
  | zero => intro x J _ _ h; omega
  | succ f ih =>
    intro x J hJ hx hf
    have eo : (Int32.ofNat x).toInt = x := zh_of (by omega)
    rw [zq_X10_paste_M_118]
    split
    · rw [zq_X10_paste_M_152]
      exact zh_pm155 hy hy4 hk hn hkn 100 0 J hJ (by omega) (by omega)
    · next hle =>
      rw [zh_le, eo] at hle
      have ek := zh_k3 hz hz4 hi (by omega) eo (by omega)
      rw [zq_X10_paste_M_125, if_neg (zh_in (by omega) (by omega)), if_neg (zh_in (by omega) (by omega)), zh_cl eo]
      have e1 : Int32.ofNat x + 1 = Int32.ofNat (x + 1) := by
        apply Int32.toInt_inj.mp
        rw [zh_add (by rw [zh_p1]; omega) (by rw [zh_p1]; omega), eo, zh_p1, zh_of (by omega)]
        omega
      rw [e1]
      exact ih (x + 1) _ (zh_pJ_w hJ (by omega) _) (by omega) (by omega)
theorem zh_ladd {a b : Int32} (h : 0 ≤ a.toInt) (h' : 0 ≤ b.toInt) : (Int32.toInt64 a + Int32.toInt64 b).toInt = a.toInt + b.toInt := by
  have h1 := zt_rgI a
  have h2 := zt_rgI b
  rw [Int64.toInt_add, Int32.toInt_toInt64, Int32.toInt_toInt64]
  exact zt_bmL (by omega) (by omega)
theorem zh_pasteV (J : Nat → Nat → Int64) (hm : ∀ i, 0 ≤ (I 2 i).toInt ∧ (I 2 i).toInt ≤ 60) : ∃ (x : Int32) (J' : Nat → Nat → Int64), zF_X10_paste zW_M [.ref 0, .int l1, .int l2, .int l3, .int l4, .int l5] (I, J) = some (some (.int x), (zm_w I 0 0 0, J')) ∧ (-8 ≤ x.toInt ∧ x.toInt ≤ 0) ∧ zh_pJ J J' := by
  have e2 : (-2 : Int32).toInt = -2 := by decide
  have e6 : (-6 : Int32).toInt = -6 := by decide
  have e7 : (-7 : Int32).toInt = -7 := by decide
  have e8 : (-8 : Int32).toInt = -8 := by decide
  have hJ : zh_pJ J J := fun _ _ _ => rfl
  have hm' : ∀ i, 0 ≤ ((zm_w I 0 0 0) 2 i).toInt ∧ ((zm_w I 0 0 0) 2 i).toInt ≤ 60 := fun i => by rw [zh_w2 I _ (by omega)]; exact hm i
  rw [zf_X10_paste_M, zc_X10_paste_M_0 _ _ _ _ _ _ _ (zh_isSlotV _ J l1)]
  generalize zm_w I 0 0 0 = I at hm'
  have e19 : zv_X10_paste_M_19 I J l1 l2 l3 l4 l5 = some (some (.int (-2)), (I, J)) := zq_X10_paste_M_19 I J l1 l2 l3 l4 l5
  have e42 : zv_X10_paste_M_42 I J l1 l2 l3 l4 l5 = some (some (.int (-6)), (I, J)) := zq_X10_paste_M_42 I J l1 l2 l3 l4 l5
  have e112 : zv_X10_paste_M_112 I J l1 l2 l3 l4 l5 = some (some (.int (-7)), (I, J)) := zq_X10_paste_M_112 I J l1 l2 l3 l4 l5
  rw [zq_X10_paste_M_9]
  split
  · exact ⟨_, J, e19, by omega, hJ⟩
  · next hs =>
    have hs := zh_slot hs
    obtain ⟨z, hz⟩ : ∃ z : Nat, l1.toInt = z := ⟨l1.toInt.toNat, by omega⟩
    rw [zc_X10_paste_M_12 _ _ _ _ _ _ _ (zh_isSlotV _ J l3), zq_X10_paste_M_16]
    split
    · exact ⟨_, J, e19, by omega, hJ⟩
    · next hs3 =>
      have hs3 := zh_slot hs3
      obtain ⟨y, hy⟩ : ∃ y : Nat, l3.toInt = y := ⟨l3.toInt.toNat, by omega⟩
      have i1 := zh_in (x := l1) (n := 4) (by omega) (by omega)
      have i3 := zh_in (x := l3) (n := 4) (by omega) (by omega)
      rw [zq_X10_paste_M_22, if_neg i1]
      split
      · exact ⟨_, J, e42, by omega, hJ⟩
      · rw [zq_X10_paste_M_32, if_neg i3]
        split
        · exact ⟨_, J, e42, by omega, hJ⟩
        · rw [zq_X10_paste_M_45, if_neg i1, if_neg i3]
          split
          · rw [zq_X10_paste_M_63]
            split
            · exact ⟨_, J, e112, by omega, hJ⟩
            · next h2 =>
              rw [zh_lt, zh_z0] at h2
              rw [zq_X10_paste_M_67]
              split
              · exact ⟨_, J, e112, by omega, hJ⟩
              · next h4 =>
                rw [zh_lt, zh_z0] at h4
                rw [zq_X10_paste_M_72]
                split
                · exact ⟨_, J, e112, by omega, hJ⟩
                · next h5 =>
                  rw [zh_lt, zh_z0] at h5
                  rw [zq_X10_paste_M_77, if_neg i1]
                  split
                  · exact ⟨_, J, e112, by omega, hJ⟩
                  · next hc1 =>
                    rw [zh_cmp_gt, Int64.lt_iff_toInt_lt, zh_ladd (by omega) (by omega), Int32.toInt_toInt64, zh_cl hz] at hc1
                    have m1 := hm' z
                    rw [zq_X10_paste_M_94, if_neg i3]
                    split
                    · next hc2 =>
                      have hc2 : ¬ (0 < lg_cmp (Int32.toInt64 l4 + Int32.toInt64 l5) (Int32.toInt64 (I 2 (Int32.toNatClampNeg l3)))) := Int32.not_lt.mpr hc2
                      rw [zh_cmp_gt, Int64.lt_iff_toInt_lt, zh_ladd (by omega) (by omega), Int32.toInt_toInt64, zh_cl hy] at hc2
                      have m2 := hm' y
                      rw [zq_X10_paste_M_115]
                      obtain ⟨J', q1, q2⟩ := zh_pm118 (I := I) (J0 := J) (l1 := l1) (l2 := l2) (l3 := l3) (l4 := l4) (l5 := l5) (z := z) (y := y) (i := l2.toInt.toNat) (k := l4.toInt.toNat) (n := l5.toInt.toNat) hz (by omega) (by omega) hy (by omega) (by omega) (by omega) (by omega) (by omega) 100 0 J hJ (by omega) (by omega)
                      exact ⟨0, J', q1, by rw [zh_z0]; omega, q2⟩
                    · exact ⟨_, J, e112, by omega, hJ⟩
          · exact ⟨_, J, zq_X10_paste_M_60 I J l1 l2 l3 l4 l5, by omega, hJ⟩
end ZHQ
theorem zh_pasteM (v : Nat) (hd : Nat × Option Nat × Bool × List (Nat × Nat)) : zt_Con zo_Om (zo_Rel v) (hd, (22, ([zjr 0, zt_top, zt_top, zt_top, zt_top, zt_top], [], []), [(0, 0, 0), (3, 0, 239), (4, 0, 59)], [(some (zj (.negSucc 7) (.ofNat 0)), [], [], [])])) zF_X10_paste :=
  zh_con (w0 := zW_M) (G := zo_g22) rfl (by decide +kernel) (fun as M hs _ _ hG => by
    obtain ⟨vs, rfl, h1⟩ := zh_ref hs
    obtain ⟨l1, vs, rfl, h2⟩ := zh_top h1
    obtain ⟨l2, vs, rfl, h3⟩ := zh_top h2
    obtain ⟨l3, vs, rfl, h4⟩ := zh_top h3
    obtain ⟨l4, vs, rfl, h5⟩ := zh_top h4
    obtain ⟨l5, vs, rfl, h6⟩ := zh_top h5
    obtain rfl := zh_nil h6
    obtain ⟨x, J', q1, q2, q3⟩ := zh_pasteV (I := M.1) (l1 := l1) (l2 := l2) (l3 := l3) (l4 := l4) (l5 := l5) M.2 (fun i => zh_ga hG (n := 2) (b := (.ofNat 0, .ofNat 60)) rfl i)
    refine ⟨_, (zm_w M.1 0 0 0, J'), q1, zh_gsx hG (fun n i => ?_), fun n i hh => ?_, _, List.mem_cons_self, zh_res q2.1 q2.2⟩
    · by_cases c : n = 0 ∧ i = 0
      · obtain ⟨rfl, rfl⟩ := c
        right
        intro g b hg hb
        rw [show zo_g22[0]? = some (zo_g22.getD 0 []) from rfl] at hg
        cases hg
        have hb : some ((Int.negSucc 2147483647, Int.ofNat 2147483647) : Int × Int) = some b := hb
        cases hb
        exact zt_rgI _
      · exact Or.inl (zh_w2 _ _ c)
    · have hk : ∀ P : Prop, (P → zt_hit [(0, 0, 0), (3, 0, 239), (4, 0, 59)] n i = true) → ¬ P := fun P hp h => by
        rw [hp h] at hh
        cases hh
      refine ⟨zh_w2 _ _ (hk _ (fun c => by rw [c.1, c.2]; rfl)), q3 n i (hk _ (fun c => ?_))⟩
      rcases c with ⟨rfl, c⟩ | ⟨rfl, c⟩
      · simp [zt_hit]; omega
      · simp [zt_hit]; omega)
