/-! THE REFERENCE'S CHANCES: all ways to miss, one by one -/
theorem zch_sh : ∀ k, k < 11 → ((1 : Int32) <<< (Int32.ofNat k &&& 31)) = Int32.ofNat (2 ^ k) ∧ 2 ^ k < 1025 := by decide +kernel
theorem zch_bit : ∀ i, i < 10 → ∀ x, x < 1024 → ((((Int32.ofNat x : Int32) >>> (Int32.ofNat i &&& 31)) &&& 1) = 1 ↔ x.testBit i = true) := by decide +kernel
theorem zch_bv : ∀ x, x < 1024 → (Int32.toInt64 (Int32.ofNat x)).toBitVec = BitVec.ofNat 64 x := by decide +kernel
theorem zch_ms {x : Nat} (hx : x < 1024) : zd_bit (Int32.toInt64 (Int32.ofNat x)) = zca_ms x := by
  funext j
  unfold zd_bit zca_ms
  rw [zch_bv x hx, BitVec.getLsbD_ofNat]
  by_cases c : j < 64
  · rw [decide_eq_true c, Bool.true_and]
  · have : x < 2 ^ j := Nat.lt_of_lt_of_le hx (show (2 : Nat) ^ 10 ≤ 2 ^ j from Nat.pow_le_pow_right (by decide) (by omega))
    rw [decide_eq_false c, Bool.false_and, Nat.testBit_lt_two_pow this]
theorem zch_wb {o : Nat} (ho : o ≤ 10) (x : Nat) : ∀ k, zca_w o (10 - o) k x ≤ 10 ^ k
  | 0 => Nat.le_refl 1
  | k + 1 => by
    show zca_w o (10 - o) k x * (if x.testBit k = true then o else 10 - o) ≤ 10 ^ (k + 1)
    rw [Nat.pow_succ]
    exact Nat.mul_le_mul (zch_wb ho x k) (by split <;> omega)
section ZCI
variable {B : zdB} {I N : Nat → Nat → Int32} {J K : Nat → Nat → Int64}
theorem zch_48 {o k x : Nat} (ho : o ≤ 10) (hk : k ≤ 10) (hx : x < 1024) (h73 : I 7 3 = Int32.ofNat o) (l1 l3 l4 : Int32) (l5 : Int64) (l11 : Option Value) : ∀ (d i : Nat), i + d = k → zv_X10_weightOf_M_48 I J l1 (Int32.ofNat k) l3 l4 l5 (Int32.ofNat x) (Int64.ofNat (zca_w o (10 - o) i x)) (Int32.ofNat i) l11 = zv_X10_weightOf_M_95 I J l1 (Int32.ofNat k) l3 l4 l5 (Int32.ofNat x) (Int64.ofNat (zca_w o (10 - o) k x)) (Int32.ofNat k) l11 := by
  intro d
  induction d with
  | zero =>
    intro i h
    rw [zq_X10_weightOf_M_48, show i = k by omega, if_pos ((zp_le (by omega) (by omega)).mpr (Nat.le_refl k))]
  | succ d ih =>
    intro i h
    have ih := ih (i + 1) (by omega)
    rw [zq_X10_weightOf_M_48, if_neg (fun z => by have := (zp_le (by omega) (by omega)).mp z; omega), zc_X10_weightOf_M_54 _ _ _ _ _ _ _ _ _ _ _ (zh_isBitV I J _ _), zq_X10_weightOf_M_63]
    have e3 : Int32.toNatClampNeg 3 = 3 := by decide
    by_cases c : x.testBit i = true
    · have hw : zca_w o (10 - o) (i + 1) x = zca_w o (10 - o) i x * o := by
        show zca_w o (10 - o) i x * (if x.testBit i = true then o else 10 - o) = _
        rw [if_pos c]
      rw [hw, Int64.ofNat_mul] at ih
      rw [if_pos ((zch_bit i (by omega) x hx).mpr c), if_neg (by decide), zq_X10_weightOf_M_66, if_neg (by decide), e3, h73, (zcd_hd o (by omega)).2, zq_X10_weightOf_M_86, zp_o1 (by omega)]
      exact ih
    · have hw : zca_w o (10 - o) (i + 1) x = zca_w o (10 - o) i x * (10 - o) := by
        show zca_w o (10 - o) i x * (if x.testBit i = true then o else 10 - o) = _
        rw [if_neg c]
      rw [hw, Int64.ofNat_mul] at ih
      rw [if_neg (fun z => c ((zch_bit i (by omega) x hx).mp z)), if_pos rfl, zq_X10_weightOf_M_76, if_neg (by decide), e3, h73, (zcd_hd o (by omega)).1, zq_X10_weightOf_M_86, zp_o1 (by omega)]
      exact ih
/-- how many of those asked for have gone in -/
def zch_f (l1 : Int32) (I : Nat → Nat → Int32) (q : Nat) : Nat := if (l1 = -1 ∨ l1 = Int32.ofNat q) ∧ I 18 q ≠ -1 then 1 else 0
theorem zch_fb (l1 : Int32) (I : Nat → Nat → Int32) : ∀ n, zca_S (zch_f l1 I) n ≤ n
  | 0 => Nat.le_refl 0
  | n + 1 => by
    have h := zch_fb l1 I n
    show zca_S (zch_f l1 I) n + zch_f l1 I n ≤ n + 1
    have : zch_f l1 I n ≤ 1 := by
      unfold zch_f
      split <;> omega
    omega
theorem zch_124 {C : Nat} (hC : C ≤ 5) (h75 : I 7 5 = Int32.ofNat C) (l1 l2 l4 l7 : Int32) (l5 l8 : Int64) : ∀ (d q : Nat), q + d = C → zv_X10_weightOf_M_124 I J l1 l2 0 l4 l5 l7 l8 (Int32.ofNat (zca_S (zch_f l1 I) q)) (Int32.ofNat q) = zv_X10_weightOf_M_184 I J l1 l2 0 l4 l5 l7 l8 (Int32.ofNat (zca_S (zch_f l1 I) C)) (Int32.ofNat C) := by
  intro d
  induction d with
  | zero =>
    intro q h
    rw [zc_X10_weightOf_M_124 _ _ _ _ _ _ _ _ _ _ _ zdm_callers, zq_X10_weightOf_M_130, h75, show q = C by omega, if_pos ((zp_le (by omega) (by omega)).mpr (Nat.le_refl C))]
  | succ d ih =>
    intro q h
    have ih := ih (q + 1) (by omega)
    have b := zch_fb l1 I q
    have hs : zca_S (zch_f l1 I) (q + 1) = zca_S (zch_f l1 I) q + zch_f l1 I q := rfl
    rw [hs] at ih
    have no : zch_f l1 I q = 0 → zv_X10_weightOf_M_174 I J l1 l2 0 l4 l5 l7 l8 (Int32.ofNat (zca_S (zch_f l1 I) q)) (Int32.ofNat q) (Int32.ofNat (zca_S (zch_f l1 I) q)) = zv_X10_weightOf_M_184 I J l1 l2 0 l4 l5 l7 l8 (Int32.ofNat (zca_S (zch_f l1 I) C)) (Int32.ofNat C) := fun e => by
      rw [e, Nat.add_zero] at ih
      rw [zq_X10_weightOf_M_174, zq_X10_weightOf_M_175, Int32.add_zero, zp_o1 (by omega)]
      exact ih
    have yes : (l1 = -1 ∨ l1 = Int32.ofNat q) → zv_X10_weightOf_M_146 I J l1 l2 0 l4 l5 l7 l8 (Int32.ofNat (zca_S (zch_f l1 I) q)) (Int32.ofNat q) (Int32.ofNat (zca_S (zch_f l1 I) q)) = zv_X10_weightOf_M_184 I J l1 l2 0 l4 l5 l7 l8 (Int32.ofNat (zca_S (zch_f l1 I) C)) (Int32.ofNat C) := fun hl => by
      rw [zq_X10_weightOf_M_146, if_neg (zp_in (by omega) (by omega)), zp_cl (by omega)]
      by_cases g : I 18 q = -1
      · rw [if_pos g]
        exact no (if_neg (fun z => z.2 g))
      · rw [if_neg g, zq_X10_weightOf_M_157, if_pos rfl, zq_X10_weightOf_M_170, zq_X10_weightOf_M_175, zp_o1 (by omega), zp_o1 (by omega)]
        rw [show zch_f l1 I q = 1 from if_pos ⟨hl, g⟩] at ih
        exact ih
    rw [zc_X10_weightOf_M_124 _ _ _ _ _ _ _ _ _ _ _ zdm_callers, zq_X10_weightOf_M_130, h75, if_neg (fun z => by have := (zp_le (by omega) (by omega)).mp z; omega), zq_X10_weightOf_M_133]
    by_cases c1 : l1 = -1
    · rw [if_pos c1]
      exact yes (Or.inl c1)
    · rw [if_neg c1, zq_X10_weightOf_M_140]
      by_cases c2 : l1 = Int32.ofNat q
      · rw [if_pos c2]
        exact yes (Or.inr c2)
      · rw [if_neg c2]
        exact no (if_neg (fun z => z.1.elim c1 c2))
/-- the same, of a day -/
def zch_so (B : zdB) (l1 : Int32) (to x : Nat) : Nat := zca_S (fun q => if (l1 = -1 ∨ l1 = Int32.ofNat q) ∧ (zd_st B (zca_ms x) (to + 1)).2.1 q ≠ -1 then 1 else 0) B.1.1
theorem zch_34 (hv : zdMv B) {o k to : Nat} (ho : o ≤ 10) (hk : k ≤ 10) (ht : to ≤ 60) (l1 : Int32) : ∀ (d s : Nat) (I : Nat → Nat → Int32) (J : Nat → Nat → Int64) (l8 l10 l11 : Option Value), s + d = 2 ^ k → zdMb B I → zt_Gs zo_g22 (I, J) → I 7 3 = Int32.ofNat o → ∃ N, zv_X10_weightOf_M_34 I J l1 (Int32.ofNat k) 0 (Int32.ofNat to) (Int64.ofNat (zca_S (fun x => zca_w o (10 - o) k x * zch_so B l1 to x) s)) (Int32.ofNat s) l8 l10 l11 = some (some (.long (Int64.ofNat (zca_T o (10 - o) k (zch_so B l1 to)))), N) := by
  have hC := hv.1.1.1
  obtain ⟨sh, p2⟩ := zch_sh k (by omega)
  have p1 := (zce_pow k (by omega)).1
  have h63 : (2 : Nat) ^ 34 < 2 ^ 63 := by decide
  have le : ∀ {i j : Nat}, i < 2000 → j < 2000 → ((Int32.ofNat i : Int32) ≤ Int32.ofNat j ↔ i ≤ j) := fun {i j} h1 h2 => by
    rw [ze_le, zh_of (by omega), zh_of (by omega)]
    omega
  intro d
  induction d with
  | zero =>
    intro s I J l8 l10 l11 h hb hG h73
    have es : s = 2 ^ k := by omega
    refine ⟨(I, J), ?_⟩
    rw [zq_X10_weightOf_M_34, sh, es, if_pos ((le (by omega) (by omega)).mpr (Nat.le_refl _)), zq_X10_weightOf_M_201]
    rfl
  | succ d ih =>
    intro s I J l8 l10 l11 h hb hG h73
    have hs : s < 1024 := by omega
    have e48 := zch_48 (J := J) ho hk hs h73 l1 0 (Int32.ofNat to) (Int64.ofNat (zca_S (fun x => zca_w o (10 - o) k x * zch_so B l1 to x) s)) l11 k 0 (by omega)
    have wb := zch_wb ho s k
    have o1 : Int32.ofNat s + 1 = Int32.ofNat (s + 1) := Int32.toInt_inj.mp (by rw [ze_add (by rw [zh_of (by omega), ze_i1]; omega) (by rw [zh_of (by omega), ze_i1]; omega), zh_of (by omega), ze_i1, zh_of (by omega)]; omega)
    have hz : zca_S (fun x => zca_w o (10 - o) k x * zch_so B l1 to x) (s + 1) = zca_S (fun x => zca_w o (10 - o) k x * zch_so B l1 to x) s + zca_w o (10 - o) k s * zch_so B l1 to s := rfl
    have e1 : zv_X10_weightOf_M_34 I J l1 (Int32.ofNat k) 0 (Int32.ofNat to) (Int64.ofNat (zca_S (fun x => zca_w o (10 - o) k x * zch_so B l1 to x) s)) (Int32.ofNat s) l8 l10 l11 = zv_X10_weightOf_M_95 I J l1 (Int32.ofNat k) 0 (Int32.ofNat to) (Int64.ofNat (zca_S (fun x => zca_w o (10 - o) k x * zch_so B l1 to x) s)) (Int32.ofNat s) (Int64.ofNat (zca_w o (10 - o) k s)) (Int32.ofNat k) l11 := by
      rw [zq_X10_weightOf_M_34, sh, if_neg (fun z => by have := (le (by omega) (by omega)).mp z; omega), zq_X10_weightOf_M_42]
      exact e48
    by_cases c : zca_w o (10 - o) k s = 0
    · rw [c, Nat.zero_mul] at hz
      have hz := hz.trans (Nat.add_zero _)
      obtain ⟨N, q⟩ := ih (s + 1) I J (some (.long (Int64.ofNat (zca_w o (10 - o) k s)))) (some (.int (Int32.ofNat k))) l11 (by omega) hb hG h73
      refine ⟨N, ?_⟩
      rw [e1, zq_X10_weightOf_M_95, if_pos ((zce_cmp (by omega)).mpr c), zq_X10_weightOf_M_102, zq_X10_weightOf_M_195, o1, ← hz]
      exact q
    · obtain ⟨N1, r1, r2, r3⟩ := zdT_run (J := zm_wl J 0 28 (Int32.toInt64 (Int32.ofNat s))) hv ht hb hG
      have j28 : zm_wl J 0 28 (Int32.toInt64 (Int32.ofNat s)) 0 28 = Int32.toInt64 (Int32.ofNat s) := if_pos ⟨rfl, rfl⟩
      rw [j28, zch_ms hs] at r2
      have h18 : ∀ q, q < 5 → (N1 18 q ≠ -1 ↔ (zd_st B (zca_ms s) (to + 1)).2.1 q ≠ -1) := fun q hq => by
        rw [← r2.2.2.1 q hq]
        constructor
        · intro z y
          exact z (Int32.toInt_inj.mp (y.trans zh_m1.symm))
        · intro z y
          exact z (by rw [y, zh_m1])
      have so : zca_S (zch_f l1 N1) B.1.1 = zch_so B l1 to s := zca_S_c B.1.1 (fun q hq => by
        unfold zch_f
        by_cases y : (l1 = -1 ∨ l1 = Int32.ofNat q) ∧ N1 18 q ≠ -1
        · rw [if_pos y, if_pos ⟨y.1, (h18 q (by omega)).mp y.2⟩]
        · rw [if_neg y, if_neg (fun z => y ⟨z.1, (h18 q (by omega)).mpr z.2⟩)])
      have fb := zch_fb l1 N1 B.1.1
      obtain ⟨N, q⟩ := ih (s + 1) N1 (zm_wl J 0 28 (Int32.toInt64 (Int32.ofNat s))) (some (.long (Int64.ofNat (zca_w o (10 - o) k s)))) (some (.int (Int32.ofNat (zca_S (zch_f l1 N1) B.1.1)))) (some (.int (Int32.ofNat B.1.1))) (by omega) r2.1 r2.2.1.2.2.2 (by rw [r3 7 3 (by omega)]; exact h73)
      refine ⟨N, ?_⟩
      have e124 := zch_124 (J := zm_wl J 0 28 (Int32.toInt64 (Int32.ofNat s))) hC r2.1.1.1 l1 (Int32.ofNat k) (Int32.ofNat to) (Int32.ofNat s) (Int64.ofNat (zca_S (fun x => zca_w o (10 - o) k x * zch_so B l1 to x) s)) (Int64.ofNat (zca_w o (10 - o) k s)) B.1.1 0 (by omega)
      rw [e1, zq_X10_weightOf_M_95, if_neg (fun z => c ((zce_cmp (by omega)).mp z)), zc_X10_weightOf_M_105 _ _ _ _ _ _ _ _ _ _ _ r1, zq_X10_weightOf_M_118]
      refine Eq.trans e124 ?_
      rw [zq_X10_weightOf_M_184, zq_X10_weightOf_M_195, o1, (zcd_hd _ (show zca_S (zch_f l1 N1) B.1.1 < 11 by omega)).2, ← Int64.ofNat_mul, ← Int64.ofNat_add, so, ← hz]
      rw [so] at q
      exact q
end ZCI
