/-! CONTRACTS BY HAND: the class's pile of marks -/
def zh_fW : zm_L := [(.inr (.int, 10), [])]
section ZHF
variable (I : Nat → Nat → Int32) (J : Nat → Nat → Int64)
noncomputable def zh_fV (pc : Nat) (ls : List (Option Value)) (M : zm_I) : zm_R := zm_V zT_J7_fill_53178 zh_fW (pc, ls, [], M)
theorem zh_f_0 (v : Int32) : zh_fV 0 [some (.ref 0), some (.int v), none, none] (I, J) = zh_fV 5 [some (.ref 0), some (.int v), some (.int 0), some (.int 10)] (I, J) := zh_st (T := zT_J7_fill_53178) (wl := zh_fW) (S := (0, [some (.ref 0), some (.int v), none, none], [], (I, J))) (f := fun q => q (5, [some (.ref 0), some (.int v), some (.int 0), some (.int 10)], [], (I, J))) (fun _ => rfl)
theorem zh_f_5 (v i n : Int32) : zh_fV 5 [some (.ref 0), some (.int v), some (.int i), some (.int n)] (I, J) = if n ≤ i then zh_fV 20 [some (.ref 0), some (.int v), some (.int i), some (.int n)] (I, J) else zh_fV 10 [some (.ref 0), some (.int v), some (.int i), some (.int n)] (I, J) := zh_st (T := zT_J7_fill_53178) (wl := zh_fW) (S := (5, [some (.ref 0), some (.int v), some (.int i), some (.int n)], [], (I, J))) (f := fun q => if n ≤ i then q (20, [some (.ref 0), some (.int v), some (.int i), some (.int n)], [], (I, J)) else q (10, [some (.ref 0), some (.int v), some (.int i), some (.int n)], [], (I, J))) (fun _ => rfl)
theorem zh_f_10 (v i n : Int32) : zh_fV 10 [some (.ref 0), some (.int v), some (.int i), some (.int n)] (I, J) = if i < 0 ∨ 10 ≤ i.toNatClampNeg then none else zh_fV 5 [some (.ref 0), some (.int v), some (.int (i + 1)), some (.int n)] (zm_w I 0 i.toNatClampNeg v, J) := zh_st (T := zT_J7_fill_53178) (wl := zh_fW) (S := (10, [some (.ref 0), some (.int v), some (.int i), some (.int n)], [], (I, J))) (f := fun q => if i < 0 ∨ 10 ≤ i.toNatClampNeg then none else q (5, [some (.ref 0), some (.int v), some (.int (i + 1)), some (.int n)], [], (zm_w I 0 i.toNatClampNeg v, J))) (fun _ => rfl)
theorem zh_f_20 (ls : List (Option Value)) : zh_fV 20 ls (I, J) = some (none, (I, J)) := zh_st (T := zT_J7_fill_53178) (wl := zh_fW) (S := (20, ls, [], (I, J))) (f := fun _ => some (none, (I, J))) (fun _ => rfl)
end ZHF
theorem zh_fill5 {I0 : Nat → Nat → Int32} (J : Nat → Nat → Int64) (v : Int32) : ∀ (f x : Nat) (I : Nat → Nat → Int32), (∀ n i, ¬ (n = 0 ∧ i ≤ 9) → I n i = I0 n i) → x ≤ 10 → 10 - x < f → ∃ I', zh_fV 5 [some (.ref 0), some (.int v), some (.int (Int32.ofNat x)), some (.int 10)] (I, J) = some (none, (I', J)) ∧ ∀ n i, ¬ (n = 0 ∧ i ≤ 9) → I' n i = I0 n i := by
  intro f
  induction f with
  | zero => intro x I _ _ h; omega
  | succ f ih =>
    intro x I hI hx hf
    have eo : (Int32.ofNat x).toInt = x := zh_of (by omega)
    have e10 : (10 : Int32).toInt = 10 := by decide
    rw [zh_f_5]
    split
    · exact ⟨I, zh_f_20 I J _, hI⟩
    · next hle =>
      rw [zh_le, eo, e10] at hle
      rw [zh_f_10, if_neg (zh_in (by omega) (by omega)), zh_cl eo, zh_ofadd (k := 1) zh_p1 (by omega)]
      refine ih (x + 1) _ (fun n i hn => ?_) (by omega) (by omega)
      rw [zh_w2 I v (fun e => hn ⟨e.1, by omega⟩)]
      exact hI n i hn
theorem zh_fillV (M : zm_I) : ∃ I', zF_J7_fill_53178 [(.inr (.int, 10), [])] [.ref 0, .int 0] M = some (none, (I', M.2)) ∧ ∀ n i, ¬ (n = 0 ∧ i ≤ 9) → I' n i = M.1 n i := by
  obtain ⟨I', q1, q2⟩ := zh_fill5 (I0 := M.1) M.2 0 100 0 M.1 (fun _ _ _ => rfl) (by omega) (by omega)
  exact ⟨I', (zh_f_0 M.1 M.2 0).trans q1, q2⟩
def zh_soP (I0 I : Nat → Nat → Int32) : Prop := (∀ n i, ¬ ((n = 0 ∧ i = 0) ∨ (n = 1 ∧ i ≤ 9) ∨ (n = 2 ∧ i ≤ 9)) → I n i = I0 n i) ∧ (0 ≤ (I 0 0).toInt ∧ (I 0 0).toInt ≤ 1) ∧ ∀ i, 0 ≤ (I 1 i).toInt ∧ (I 1 i).toInt ≤ 9
section ZHO
variable {I0 I : Nat → Nat → Int32} {J : Nat → Nat → Int64}
theorem zh_soP_0 (h : zh_soP I0 I) {x : Int32} (h0 : 0 ≤ x.toInt) (h1 : x.toInt ≤ 1) : zh_soP I0 (zm_w I 0 0 x) := by
  refine ⟨fun n i hn => ?_, ?_, fun i => ?_⟩
  · rw [zh_w2 I x (by omega)]; exact h.1 n i hn
  · rw [zh_w1]; omega
  · rw [zh_w2 I x (by omega)]; exact h.2.2 i
theorem zh_soP_2 (h : zh_soP I0 I) {c : Nat} (hc : c ≤ 9) (x : Int32) : zh_soP I0 (zm_w I 2 c x) := by
  refine ⟨fun n i hn => ?_, ?_, fun i => ?_⟩
  · rw [zh_w2 I x (by omega)]; exact h.1 n i hn
  · rw [zh_w2 I x (by omega)]; exact h.2.1
  · rw [zh_w2 I x (by omega)]; exact h.2.2 i
theorem zh_soP_1 (h : zh_soP I0 I) {c : Nat} (hc : c ≤ 9) {x : Int32} (h0 : 0 ≤ x.toInt) (h1 : x.toInt ≤ 9) : zh_soP I0 (zm_w I 1 c x) := by
  refine ⟨fun n i hn => ?_, ?_, fun i => ?_⟩
  · rw [zh_w2 I x (by omega)]; exact h.1 n i hn
  · rw [zh_w2 I x (by omega)]; exact h.2.1
  · by_cases e : i = c
    · subst e; rw [zh_w1]; omega
    · rw [zh_w2 I x (by omega)]; exact h.2.2 i
theorem zh_ltc2 (l1 : Int32) : ∀ (f k : Nat), k ≤ 10 → 10 - k < f → ∃ r : Int32, zv_X5_leastToCut_PR_2 I J l1 (Int32.ofNat k) = some (some (.int r), (I, J)) ∧ -1 ≤ r.toInt ∧ r.toInt ≤ 9 := by
  intro f
  induction f with
  | zero => intro k _ h; omega
  | succ f ih =>
    intro k hk hf
    have ek : (Int32.ofNat k).toInt = k := zh_of (by omega)
    have e10 : (10 : Int32).toInt = 10 := by decide
    rw [zq_X5_leastToCut_PR_2]
    split
    · exact ⟨-1, zq_X5_leastToCut_PR_37 I J l1 _, by rw [zh_m1]; omega, by rw [zh_m1]; omega⟩
    · next h10 =>
      rw [zh_le, e10, ek] at h10
      have k31 : ∃ r : Int32, zv_X5_leastToCut_PR_31 I J l1 (Int32.ofNat k) = some (some (.int r), (I, J)) ∧ -1 ≤ r.toInt ∧ r.toInt ≤ 9 := by
        rw [zq_X5_leastToCut_PR_31, zh_ofadd (k := 1) zh_p1 (by omega)]
        exact ih (k + 1) (by omega) (by omega)
      rw [zq_X5_leastToCut_PR_8]
      split
      · rw [zq_X5_leastToCut_PR_16, if_neg (zh_in (by omega) (by omega))]
        split
        · exact ⟨_, zq_X5_leastToCut_PR_29 I J l1 _, by omega, by omega⟩
        · exact k31
      · exact k31
theorem zh_ltcV (I : Nat → Nat → Int32) (J : Nat → Nat → Int64) (l1 : Int32) : ∃ r : Int32, zF_X5_leastToCut zW_PR [.ref 0, .int l1] (I, J) = some (some (.int r), (I, J)) ∧ -1 ≤ r.toInt ∧ r.toInt ≤ 9 := by
  obtain ⟨r, q1, q2⟩ := zh_ltc2 (I := I) (J := J) l1 100 0 (by omega) (by omega)
  exact ⟨r, (zf_X5_leastToCut_PR I J l1).trans ((zq_X5_leastToCut_PR_0 I J l1).trans q1), q2⟩
theorem zh_so57 : ∀ (f k : Nat) (I : Nat → Nat → Int32) (l2 : Int32) (l4 : Option Value), zh_soP I0 I → k ≤ 10 → 10 - k < f → ∃ I', zv_X5_sort_PR_57 I J l2 (Int32.ofNat k) l4 = some (none, (I', J)) ∧ zh_soP I0 I' := by
  intro f
  induction f with
  | zero => intro k I l2 l4 _ _ h; omega
  | succ f ih =>
    intro k I l2 l4 hI hk hf
    have ek : (Int32.ofNat k).toInt = k := zh_of (by omega)
    have e10 : (10 : Int32).toInt = 10 := by decide
    have e120 : ∀ l4, zv_X5_sort_PR_120 I J l2 (Int32.ofNat k) l4 = some (none, (I, J)) := fun l4 => zq_X5_sort_PR_120 I J l2 _ l4
    rw [zq_X5_sort_PR_57]
    split
    · exact ⟨I, e120 _, hI⟩
    · next h10 =>
      rw [zh_le, e10, ek] at h10
      rw [zq_X5_sort_PR_63]
      split
      · exact ⟨I, e120 _, hI⟩
      · obtain ⟨r, q1, q2, q3⟩ := zh_ltcV I J l2
        rw [zc_X5_sort_PR_70 _ _ _ _ _ q1]
        have k114 : ∀ (I9 : Nat → Nat → Int32) (l2 : Int32), zh_soP I0 I9 → ∃ I', zv_X5_sort_PR_114 I9 J l2 (Int32.ofNat k) r = some (none, (I', J)) ∧ zh_soP I0 I' := fun I9 l2 h9 => by
          rw [zq_X5_sort_PR_114, zh_ofadd (k := 1) zh_p1 (by omega)]
          exact ih (k + 1) _ _ _ h9 (by omega) (by omega)
        rw [zq_X5_sort_PR_75]
        split
        · rw [zq_X5_sort_PR_88, zq_X5_sort_PR_89, if_pos (Or.inl rfl), zh_w1, if_pos rfl]
          exact k114 _ _ (zh_soP_0 hI (by rw [zh_z0]; omega) (by rw [zh_z0]; omega))
        · next hne =>
          have hr0 : 0 ≤ r.toInt := by
            have : r.toInt ≠ -1 := fun e => hne (Int32.toInt_inj.mp (e.trans zh_m1.symm))
            omega
          rw [zq_X5_sort_PR_84, zq_X5_sort_PR_89, if_pos (Or.inr rfl), zh_w1, if_neg (by decide), zq_X5_sort_PR_99, if_neg (zh_in (by omega) (by omega)), zh_cl ek]
          exact k114 _ _ (zh_soP_1 (zh_soP_0 hI (by rw [zh_p1]; omega) (by rw [zh_p1]; omega)) (by omega) hr0 q3)
theorem zh_so10 (hm : 0 ≤ (I0 3 1).toInt ∧ (I0 3 1).toInt ≤ 60) (h2 : (I0 3 1).toInt % 2 = 0) (hJ : ∀ j : Nat, (j : Int) < (I0 3 1).toInt → 0 ≤ (J 4 j).toInt ∧ (J 4 j).toInt ≤ 9) : ∀ (f i : Nat) (I : Nat → Nat → Int32), zh_soP I0 I → i % 2 = 0 → i ≤ 60 → 60 - i < f → ∃ I', zv_X5_sort_PR_10 I J (Int32.ofNat i) = some (none, (I', J)) ∧ zh_soP I0 I' := by
  intro f
  induction f with
  | zero => intro i I _ _ _ h; omega
  | succ f ih =>
    intro i I hI hi2 hi60 hf
    have e1 : Int32.ofNat i + 1 = Int32.ofNat (i + 1) := zh_ofadd zh_p1 (by omega)
    have e2 : Int32.ofNat i + 2 = Int32.ofNat (i + 2) := zh_ofadd zh_c2 (by omega)
    have eo : (Int32.ofNat i).toInt = i := zh_of (by omega)
    have eo1 : (Int32.ofNat (i + 1)).toInt = (i + 1 : Nat) := zh_of (by omega)
    have em : I 3 1 = I0 3 1 := hI.1 3 1 (by omega)
    rw [zq_X5_sort_PR_10, e1, em]
    split
    · rw [zq_X5_sort_PR_48]
      exact zh_so57 100 0 _ _ _ (zh_soP_0 hI (by rw [zh_p1]; omega) (by rw [zh_p1]; omega)) (by omega) (by omega)
    · next hle =>
      rw [zh_le, eo1] at hle
      have c1 := hJ i (by omega)
      have d1 := zh_l2i c1.1 c1.2 (by omega) (by omega)
      have hin := zh_in (x := Int64.toInt32 (J 4 i)) (n := 10) (by omega) (by omega)
      have hcl : (Int64.toInt32 (J 4 i)).toNatClampNeg ≤ 9 := by have := zs_clamp (i := Int64.toInt32 (J 4 i)) (by omega); omega
      rw [zc_X5_sort_PR_20 _ _ _ (zh_intAtV (zm_sub2 [(3, 2)] (I, J)) (by omega) (by omega))]
      simp only [zm_mrg_id]
      rw [zh_cl eo, zh_sub2, zq_X5_sort_PR_29, if_neg hin, zc_X5_sort_PR_31 _ _ _ _ _ (by rw [e1]; exact zh_intAtV (zm_sub2 [(3, 2)] (I, J)) (by omega) (by omega))]
      simp only [zm_mrg_id]
      rw [zq_X5_sort_PR_39, if_neg hin, e2]
      exact ih (i + 2) _ (zh_soP_2 hI hcl _) (by omega) (by omega) (by omega)
end ZHO
theorem zh_sortV (M : zm_I) (hP : zh_soP M.1 M.1) (hm : 0 ≤ (M.1 3 1).toInt ∧ (M.1 3 1).toInt ≤ 60) (h2 : (M.1 3 1).toInt % 2 = 0) (hJ : ∀ j : Nat, (j : Int) < (M.1 3 1).toInt → 0 ≤ (M.2 4 j).toInt ∧ (M.2 4 j).toInt ≤ 9) : ∃ I', zF_X5_sort zW_PR [.ref 0, .ref 3] M = some (none, (I', M.2)) ∧ zh_soP M.1 I' := by
  obtain ⟨F, f1, f2⟩ := zh_fillV (zm_sub2 [(2, 1)] M)
  have hmem : ∀ n i, (zm_mrg [(2, 1)] M (F, (zm_sub2 [(2, 1)] M).2)).2 n i = M.2 n i ∧ (¬ (n = 2 ∧ i ≤ 9) → (zm_mrg [(2, 1)] M (F, (zm_sub2 [(2, 1)] M).2)).1 n i = M.1 n i) := by
    intro n i
    have en := zm_fw_iv [(2, 1)] n
    rcases zh_mrg1 [(2, 1)] M (F, (zm_sub2 [(2, 1)] M).2) n i with ⟨c1, c2, c3⟩ | ⟨-, c2, c3⟩
    · have h0 := zh_iv_lt _ _ c1
      have h0 : zm_iv [(2, 1)] n < 1 := h0
      have h00 : zm_iv [(2, 1)] n = 0 := by omega
      rw [c2, c3]
      dsimp only
      refine ⟨?_, fun hn => ?_⟩
      · show M.2 (zm_fw [(2, 1)] (zm_iv [(2, 1)] n)) i = _
        rw [en]
      · rw [h00] at en ⊢
        have en : 2 + 0 = n := en
        rw [f2 0 i (fun e => hn ⟨by omega, e.2⟩)]
        show M.1 (zm_fw [(2, 1)] 0) i = _
        show M.1 (2 + 0) i = _
        rw [en]
    · exact ⟨c3, fun _ => c2⟩
  have hJ2 : (zm_mrg [(2, 1)] M (F, (zm_sub2 [(2, 1)] M).2)).2 = M.2 := by
    funext n i
    exact (hmem n i).1
  have hP2 : zh_soP M.1 (zm_mrg [(2, 1)] M (F, (zm_sub2 [(2, 1)] M).2)).1 := by
    refine ⟨fun n i hn => (hmem n i).2 (fun e => hn (Or.inr (Or.inr e))), ?_, fun i => ?_⟩
    · rw [(hmem 0 0).2 (by omega)]; exact hP.2.1
    · rw [(hmem 1 i).2 (by omega)]; exact hP.2.2 i
  obtain ⟨I', q1, q2⟩ := zh_so10 (I0 := M.1) (J := M.2) hm h2 hJ 100 0 _ hP2 (by omega) (by omega) (by omega)
  refine ⟨I', (zf_X5_sort_PR M.1 M.2).trans ((zc_X5_sort_PR_0 M.1 M.2 f1).trans ((zq_X5_sort_PR_8 _ _).trans ?_)), q2⟩
  rw [hJ2]
  exact q1
section ZHP
variable {I : Nat → Nat → Int32} {J : Nat → Nat → Int64} {h : Nat} {l1 : Int32}
/-- the pile behind -/
def zh_piP (I : Nat → Nat → Int32) (J : Nat → Nat → Int64) (N : zm_I) : Prop := (∀ n i, ¬ ((n = 63 ∧ i = 0) ∨ (n = 64 ∧ i ≤ 9) ∨ (n = 65 ∧ i ≤ 9)) → N.1 n i = I n i ∧ N.2 n i = J n i) ∧ (∀ n i, N.2 n i = J n i) ∧ (0 ≤ (N.1 63 0).toInt ∧ (N.1 63 0).toInt ≤ 1) ∧ ∀ i, 0 ≤ (N.1 64 i).toInt ∧ (N.1 64 i).toInt ≤ 9
theorem zh_pi44 (hh : zm_isRow h) (h0 : 0 ≤ (I 63 0).toInt ∧ (I 63 0).toInt ≤ 1) (ho : ∀ i, 0 ≤ (I 64 i).toInt ∧ (I 64 i).toInt ≤ 9) (hm : 0 ≤ (I h 1).toInt ∧ (I h 1).toInt ≤ 60) (h2 : (I h 1).toInt % 2 = 0) : ∀ (f i : Nat), i ≤ 60 → 60 - i < f → (∀ j : Nat, j < i → 0 ≤ (J (h + 1) j).toInt ∧ (J (h + 1) j).toInt ≤ 9) → ∃ x N, zv_X9_pileUp_X_44 I J h l1 (Int32.ofNat i) = some (some (.int x), N) ∧ (x = -2 ∨ x = 0) ∧ zh_piP I J N := by
  intro f
  induction f with
  | zero => intro i _ h; omega
  | succ f ih =>
    intro i hi60 hf hacc
    have eo : (Int32.ofNat i).toInt = i := zh_of (by omega)
    have hid : zh_piP I J (I, J) := ⟨fun _ _ _ => ⟨rfl, rfl⟩, fun _ _ => rfl, h0, ho⟩
    rw [zq_X9_pileUp_X_44 _ _ _ _ _ hh]
    split
    · next hle =>
      rw [zh_le, eo] at hle
      have hP : zh_soP (zm_sub2 [(63, 3), (h, 2)] (I, J)).1 (zm_sub2 [(63, 3), (h, 2)] (I, J)).1 := ⟨fun _ _ _ => rfl, h0, ho⟩
      obtain ⟨I', q1, q2⟩ := zh_sortV (zm_sub2 [(63, 3), (h, 2)] (I, J)) hP hm h2 (fun j hj => hacc j (by have hj : (j : Int) < (I h 1).toInt := hj; omega))
      rw [zc_X9_pileUp_X_72 _ _ _ _ _ hh q1, zq_X9_pileUp_X_80 _ _ _ _ _ hh]
      have hdis : zm_dis [(63, 3), (h, 2)] = true := by rcases hh with rfl | rfl | rfl | rfl <;> rfl
      refine ⟨0, _, rfl, Or.inr rfl, ?_, ?_, ?_, ?_⟩
      · intro n i9 hn
        have en := zm_fw_iv [(63, 3), (h, 2)] n
        rcases zh_mrg1 [(63, 3), (h, 2)] (I, J) (I', (zm_sub2 [(63, 3), (h, 2)] (I, J)).2) n i9 with ⟨c1, c2, c3⟩ | ⟨-, c2, c3⟩
        · rw [c2, c3]
          dsimp only
          rw [q2.1 (zm_iv [(63, 3), (h, 2)] n) i9 (fun e => hn ?_)]
          · show I (zm_fw [(63, 3), (h, 2)] (zm_iv [(63, 3), (h, 2)] n)) i9 = _ ∧ J (zm_fw [(63, 3), (h, 2)] (zm_iv [(63, 3), (h, 2)] n)) i9 = _
            rw [en]
            exact ⟨rfl, rfl⟩
          · rcases e with ⟨e, e9⟩ | ⟨e, e9⟩ | ⟨e, e9⟩
            · rw [e] at en
              have en : 63 + 0 = n := en
              exact Or.inl ⟨by omega, e9⟩
            · rw [e] at en
              have en : 63 + 1 = n := en
              exact Or.inr (Or.inl ⟨by omega, e9⟩)
            · rw [e] at en
              have en : 63 + 2 = n := en
              exact Or.inr (Or.inr ⟨by omega, e9⟩)
        · exact ⟨c2, c3⟩
      · intro n i9
        have en := zm_fw_iv [(63, 3), (h, 2)] n
        rcases zh_mrg1 [(63, 3), (h, 2)] (I, J) (I', (zm_sub2 [(63, 3), (h, 2)] (I, J)).2) n i9 with ⟨c1, c2, c3⟩ | ⟨-, c2, c3⟩
        · rw [c3]
          show J (zm_fw [(63, 3), (h, 2)] (zm_iv [(63, 3), (h, 2)] n)) i9 = _
          rw [en]
        · exact c3
      · have := zt_mrg_fw (bs := [(63, 3), (h, 2)]) hdis (k := 0) (show 0 < 3 + (2 + 0) by omega) (I, J) (I', (zm_sub2 [(63, 3), (h, 2)] (I, J)).2) 0
        have this : (zm_mrg [(63, 3), (h, 2)] (I, J) (I', (zm_sub2 [(63, 3), (h, 2)] (I, J)).2)).1 63 0 = I' 0 0 := this
        dsimp only
        rw [this]
        exact q2.2.1
      · intro i9
        have := zt_mrg_fw (bs := [(63, 3), (h, 2)]) hdis (k := 1) (show 1 < 3 + (2 + 0) by omega) (I, J) (I', (zm_sub2 [(63, 3), (h, 2)] (I, J)).2) i9
        have this : (zm_mrg [(63, 3), (h, 2)] (I, J) (I', (zm_sub2 [(63, 3), (h, 2)] (I, J)).2)).1 64 i9 = I' 1 i9 := this
        dsimp only
        rw [this]
        exact q2.2.2 i9
    · next hle =>
      rw [zh_le, eo] at hle
      rw [zc_X9_pileUp_X_52 _ _ _ _ _ hh (zh_withinV (zm_sub2 [(h, 2)] (I, J)) (by omega) (by omega) _ _)]
      simp only [zm_mrg_id]
      rw [zq_X9_pileUp_X_60 _ _ _ _ _ _ hh, zh_cl eo, zh_sub2]
      split
      · exact ⟨-2, _, zq_X9_pileUp_X_63 I J h l1 _ hh, Or.inl rfl, hid⟩
      · next hb =>
        have c := zh_inr_ne hb
        have c9 : (9 : Int32).toInt = 9 := by decide
        rw [Int32.toInt_toInt64, Int32.toInt_toInt64, c9, zh_z0] at c
        rw [zq_X9_pileUp_X_66 _ _ _ _ _ hh, zh_ofadd (k := 1) zh_p1 (by omega)]
        refine ih (i + 1) (by omega) (by omega) (fun j hj => ?_)
        by_cases hji : j < i
        · exact hacc j hji
        · have : j = i := by omega
          subst this
          exact c
theorem zh_pileV (h0 : 0 ≤ (I 63 0).toInt ∧ (I 63 0).toInt ≤ 1) (ho : ∀ i, 0 ≤ (I 64 i).toInt ∧ (I 64 i).toInt ≤ 9) (hm : ∀ h, zm_isRow h → 0 ≤ (I h 1).toInt ∧ (I h 1).toInt ≤ 60) (l1 : Int32) : ∃ (x : Int32) (N : zm_I), zF_X9_pileUp zW_X [.ref 0, .int l1] (I, J) = some (some (.int x), N) ∧ ((-6 ≤ x.toInt ∧ x.toInt ≤ -1) ∨ x = 0) ∧ zh_piP I J N := by
  have e2 : (-2 : Int32).toInt = -2 := by decide
  have e6 : (-6 : Int32).toInt = -6 := by decide
  have hid : zh_piP I J (I, J) := ⟨fun _ _ _ => ⟨rfl, rfl⟩, fun _ _ => rfl, h0, ho⟩
  rcases zh_rowAt (I := I) (J := J) l1 with ⟨h, hh, hr⟩ | hr
  · obtain ⟨r, q⟩ := zh_hasBenchV I J
    rw [zf_X9_pileUp_X, zc_X9_pileUp_X_0 _ _ _ hr, zq_X9_pileUp_X_5 _ _ _ _ hh, zc_X9_pileUp_X_10 _ _ _ _ hh q, zq_X9_pileUp_X_14 _ _ _ _ _ hh]
    split
    · exact ⟨_, _, zq_X9_pileUp_X_17 I J h l1 hh, Or.inl (by omega), hid⟩
    · obtain ⟨r2, q2⟩ := zh_isMadeV (zm_sub2 [(h, 2)] (I, J))
      rw [zc_X9_pileUp_X_20 _ _ _ _ hh q2]
      simp only [zm_mrg_id]
      rw [zq_X9_pileUp_X_24 _ _ _ _ _ hh]
      split
      · exact ⟨_, _, zq_X9_pileUp_X_27 I J h l1 hh, Or.inl (by omega), hid⟩
      · rw [zq_X9_pileUp_X_30 _ _ _ _ hh]
        split
        · next h3 =>
          rw [zq_X9_pileUp_X_42 _ _ _ _ hh]
          obtain ⟨x, N, q3, q4, q5⟩ := zh_pi44 (J := J) (l1 := l1) hh h0 ho (hm h hh) (zh_two (hm h hh).1 h3) 100 0 (by omega) (by omega) (fun j hj => by omega)
          refine ⟨x, N, q3, ?_, q5⟩
          rcases q4 with rfl | rfl
          · exact Or.inl (by omega)
          · exact Or.inr rfl
        · exact ⟨_, _, zq_X9_pileUp_X_39 I J h l1 hh, Or.inl (by omega), hid⟩
  · rw [zf_X9_pileUp_Xn, zc_X9_pileUp_Xn_0 _ _ _ hr, zq_X9_pileUp_Xn_5]
    exact ⟨_, _, zq_X9_pileUp_Xn_17 I J l1, Or.inl (by omega), hid⟩
end ZHP
theorem zh_pileUp (v : Nat) (hd : Nat × Option Nat × Bool × List (Nat × Nat)) : zt_Con zo_Om (zo_Rel v) (hd, (1, ([zjr 0, zt_top], [], []), [(63, 0, 0), (64, 0, 9), (65, 0, 9)], [(some (zj (.negSucc 5) (.negSucc 0)), [], [], []), (some (zj (.ofNat 0) (.ofNat 0)), [], [], [])])) zF_X9_pileUp :=
  zh_con (w0 := zW_X) (G := zo_g1) rfl (by decide +kernel) (fun as M hs _ _ hG => by
    obtain ⟨vs, rfl, h1⟩ := zh_ref hs
    obtain ⟨l1, vs, rfl, h2⟩ := zh_top h1
    obtain rfl := zh_nil h2
    obtain ⟨x, N, q1, q2, q3⟩ := zh_pileV (I := M.1) (J := M.2) (hG 63 _ rfl 0 (.ofNat 0, .ofNat 1) rfl) (fun i => zh_ga hG (n := 64) (b := (.ofNat 0, .ofNat 9)) rfl i) (zh_rowG hG) l1
    refine ⟨_, N, q1, zh_gsx (I' := N.1) (J' := N.2) hG (fun n i => ?_), fun n i hh => q3.1 n i (fun c => ?_), ?_⟩
    · by_cases c : (n = 63 ∧ i = 0) ∨ (n = 64 ∧ i ≤ 9) ∨ (n = 65 ∧ i ≤ 9)
      · right
        intro g b hg hb
        rcases c with ⟨rfl, rfl⟩ | ⟨rfl, c⟩ | ⟨rfl, c⟩
        · rw [show zo_g1[63]? = some (zo_g1.getD 63 []) from rfl] at hg
          cases hg
          have hb : some ((Int.ofNat 0, Int.ofNat 1) : Int × Int) = some b := hb
          cases hb
          exact q3.2.2.1
        · rw [show zo_g1[64]? = some [(Int.ofNat 0, Int.ofNat 9)] from rfl] at hg
          cases hg
          simp [Nat.mod_one] at hb
          subst hb
          exact q3.2.2.2 i
        · rw [show zo_g1[65]? = some [(Int.negSucc 2147483647, Int.ofNat 2147483647)] from rfl] at hg
          cases hg
          simp [Nat.mod_one] at hb
          subst hb
          exact zt_rgI _
      · exact Or.inl (q3.1 n i c).1
    · have : zt_hit [(63, 0, 0), (64, 0, 9), (65, 0, 9)] n i = true := by
        rcases c with ⟨rfl, rfl⟩ | ⟨rfl, c⟩ | ⟨rfl, c⟩
        · rfl
        · simp [zt_hit]; omega
        · simp [zt_hit]; omega
      rw [this] at hh
      cases hh
    · rcases q2 with q2 | rfl
      · exact ⟨_, List.mem_cons_self, zh_res q2.1 q2.2⟩
      · exact ⟨_, List.mem_of_getElem? (i := 1) rfl, zh_res (by decide) (by decide)⟩)
