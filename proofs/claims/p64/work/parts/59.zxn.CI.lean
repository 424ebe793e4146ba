/-! BOTH CHANCES ARE ONE -/
section ZCJ
variable {B : zdB}
/-- how far the reference lives a day -/
def zci_to (B : zdB) (k : Nat) : Nat := if 60 ≤ k * B.2.2.2.2.2.2 then 60 else k * B.2.2.2.2.2.2
theorem zci_st (hE : 1 ≤ B.2.2.2.2.2.2) {k : Nat} (hk : k ≤ 10) (ms : Nat → Bool) : (zd_st B ms (zci_to B k + 1)).2.1 = (zd_st B ms (min (zcf_N B) k * B.2.2.2.2.2.2 + 1)).2.1 := by
  unfold zci_to
  have hn := Nat.div_mul_le_self 60 B.2.2.2.2.2.2
  have hl := Nat.lt_mul_div_succ 60 (show 0 < B.2.2.2.2.2.2 by omega)
  rw [Nat.mul_succ, Nat.mul_comm B.2.2.2.2.2.2] at hl
  by_cases c : k ≤ 60 / B.2.2.2.2.2.2
  · have em : min (zcf_N B) k = k := by
      unfold zcf_N
      omega
    have hk2 := Nat.mul_le_mul_right B.2.2.2.2.2.2 c
    rw [em]
    by_cases z : 60 ≤ k * B.2.2.2.2.2.2
    · rw [if_pos z, show k * B.2.2.2.2.2.2 = 60 by omega]
    · rw [if_neg z]
  · have em : min (zcf_N B) k = 60 / B.2.2.2.2.2.2 := by
      unfold zcf_N
      omega
    have hk2 := Nat.mul_le_mul_right B.2.2.2.2.2.2 (show 60 / B.2.2.2.2.2.2 + 1 ≤ k by omega)
    rw [Nat.succ_mul] at hk2
    rw [em, if_pos (by omega)]
    have b := zca_between (B := B) (ms := ms) (i := 60 / B.2.2.2.2.2.2) (60 - 60 / B.2.2.2.2.2.2 * B.2.2.2.2.2.2) (by omega)
    rw [show 60 / B.2.2.2.2.2.2 * B.2.2.2.2.2.2 + 1 + (60 - 60 / B.2.2.2.2.2.2 * B.2.2.2.2.2.2) = 60 + 1 by omega] at b
    exact b
def zci_G (B : zdB) (l1 : Int32) (m x : Nat) : Nat := zca_S (fun q => if l1 = -1 ∨ l1 = Int32.ofNat q then zca_g B (zca_ms x) m q else 0) B.1.1
theorem zci_so (hE : 1 ≤ B.2.2.2.2.2.2) {k : Nat} (hk : k ≤ 10) (l1 : Int32) (x : Nat) : zch_so B l1 (zci_to B k) x = zci_G B l1 (min (zcf_N B) k) x := by
  unfold zch_so zci_G
  refine zca_S_c _ (fun q _ => ?_)
  show (if (l1 = -1 ∨ l1 = Int32.ofNat q) ∧ (zd_st B (zca_ms x) (zci_to B k + 1)).2.1 q ≠ -1 then 1 else 0) = (if l1 = -1 ∨ l1 = Int32.ofNat q then zca_g B (zca_ms x) (min (zcf_N B) k) q else 0)
  rw [zci_st hE hk]
  unfold zca_g
  by_cases c : l1 = -1 ∨ l1 = Int32.ofNat q
  · rw [if_pos c]
    by_cases d : (zd_st B (zca_ms x) (min (zcf_N B) k * B.2.2.2.2.2.2 + 1)).2.1 q = -1
    · rw [if_pos d, if_neg (fun z => z.2 d)]
    · rw [if_neg d, if_pos ⟨c, d⟩]
  · rw [if_neg c, if_neg (fun z => c z.1)]
theorem zci_T (hE : 1 ≤ B.2.2.2.2.2.2) {o k : Nat} (ho : o ≤ 10) (hk : k ≤ 10) (l1 : Int32) : zca_T o (10 - o) k (zch_so B l1 (zci_to B k)) = 10 ^ (k - min (zcf_N B) k) * zca_T o (10 - o) (min (zcf_N B) k) (zci_G B l1 (min (zcf_N B) k)) := by
  have e : zca_T o (10 - o) k (zch_so B l1 (zci_to B k)) = zca_T o (10 - o) k (zci_G B l1 (min (zcf_N B) k)) := zca_T_c (fun x _ => zci_so hE hk l1 x)
  have l := zce_late (o := o) (h := 10 - o) (show 10 - o + o = 10 by omega) (F := zci_G B l1 (min (zcf_N B) k)) (m := min (zcf_N B) k) (fun j x hj hx => by
    unfold zci_G
    refine zca_S_c _ (fun q _ => ?_)
    show (if l1 = -1 ∨ l1 = Int32.ofNat q then zca_g B (zca_ms (2 ^ j + x)) (min (zcf_N B) k) q else 0) = _
    rw [zca_g_dep (ms := zca_ms (2 ^ j + x)) (ms' := zca_ms x) hE (fun i hi => zca_bitL (by omega))]) (k - min (zcf_N B) k)
  rw [show min (zcf_N B) k + (k - min (zcf_N B) k) = k by omega] at l
  exact e.trans l
theorem zci_S1 (f : Nat → Nat) (c : Nat) : ∀ n, zca_S (fun q => if q = c then f q else 0) n = if c < n then f c else 0
  | 0 => rfl
  | n + 1 => by
    show zca_S (fun q => if q = c then f q else 0) n + (if n = c then f n else 0) = _
    rw [zci_S1 f c n]
    by_cases e : n = c
    · rw [if_pos e, if_neg (by omega), if_pos (by omega), Nat.zero_add, e]
    · rw [if_neg e]
      by_cases l : c < n
      · rw [if_pos l, if_pos (by omega)]
        exact Nat.add_zero _
      · rw [if_neg l, if_neg (by omega)]
theorem zci_one {c : Nat} (hC : B.1.1 ≤ 5) (hc : c < B.1.1) (m x : Nat) : zci_G B (Int32.ofNat c) m x = zca_g B (zca_ms x) m c := by
  unfold zci_G
  have e := zci_S1 (fun q => zca_g B (zca_ms x) m q) c B.1.1
  rw [if_pos hc] at e
  refine Eq.trans (zca_S_c _ (fun q hq => ?_)) e
  show (if Int32.ofNat c = -1 ∨ Int32.ofNat c = Int32.ofNat q then zca_g B (zca_ms x) m q else 0) = if q = c then zca_g B (zca_ms x) m q else 0
  by_cases d : q = c
  · rw [if_pos d, if_pos (Or.inr (by rw [d]))]
  · rw [if_neg d, if_neg (fun z => z.elim (fun y => by
      have := congrArg Int32.toInt y
      rw [zp_o (by omega), zh_m1] at this
      omega) (fun y => d (by
      have := congrArg Int32.toInt y
      rw [zp_o (by omega), zp_o (by omega)] at this
      omega)))]
theorem zci_swap (o h m : Nat) (f : Nat → Nat → Nat) : ∀ n, zca_T o h m (fun x => zca_S (fun q => f q x) n) = zca_S (fun q => zca_T o h m (f q)) n
  | 0 => by
    have e := zca_T_mul o h m 0 (fun _ => 0)
    exact e.trans (Nat.zero_mul _)
  | n + 1 => by
    show zca_T o h m (fun x => zca_S (fun q => f q x) n + f n x) = zca_S (fun q => zca_T o h m (f q)) n + zca_T o h m (f n)
    rw [zca_T_add, zci_swap o h m f n]
/-- what a caller's chance, or the mean, is of -/
def zci_A (B : zdB) (o k : Nat) (l1 : Int32) : Nat := zca_T o (10 - o) (min (zcf_N B) k) (zci_G B l1 (min (zcf_N B) k))
theorem zci_Ac {o k c : Nat} (hC : B.1.1 ≤ 5) (hc : c < B.1.1) : zci_A B o k (Int32.ofNat c) = zcg_T B o k c := zca_T_c (fun x _ => zci_one hC hc _ x)
theorem zci_Am {o k : Nat} : zci_A B o k (-1) = zca_S (zcg_T B o k) B.1.1 := by
  have e := zci_swap o (10 - o) (min (zcf_N B) k) (fun q x => zca_g B (zca_ms x) (min (zcf_N B) k) q) B.1.1
  refine Eq.trans (zca_T_c (fun x _ => ?_)) e
  unfold zci_G
  exact zca_S_c _ (fun q _ => if_pos (Or.inl rfl))
theorem zci_Tm {o k : Nat} (ho : o ≤ 10) (c : Nat) : zcg_T B o k c ≤ 10 ^ (min (zcf_N B) k) := zce_Tle (o := o) (h := 10 - o) (show 10 - o + o = 10 by omega) (F := fun x => zca_g B (zca_ms x) (min (zcf_N B) k) c) (fun x => zce_g1 _ c) (min (zcf_N B) k)
theorem zci_Sm {o k : Nat} (ho : o ≤ 10) : ∀ n, zca_S (zcg_T B o k) n ≤ n * 10 ^ (min (zcf_N B) k)
  | 0 => Nat.zero_le _
  | n + 1 => by
    have := zci_Sm (k := k) ho n
    have := zci_Tm (B := B) (k := k) ho n
    show zca_S (zcg_T B o k) n + zcg_T B o k n ≤ (n + 1) * 10 ^ (min (zcf_N B) k)
    rw [Nat.succ_mul]
    omega
/-- the reference's answer is the class's -/
theorem zci_part {o k a : Nat} (hk : k ≤ 10) (ha : a ≤ 5 * 10 ^ (min (zcf_N B) k)) (w : Int32) (I : Nat → Nat → Int32) (J : Nat → Nat → Int64) : zF_X10_part zW_M [.long (Int64.ofNat (10 ^ (k - min (zcf_N B) k) * a)), .long (Int64.ofNat (10 ^ k)), .int w] (I, J) = some (some (.long (Int64.ofNat (zcg_q B k a w))), (I, J)) := by
  have ek : 10 ^ (k - min (zcf_N B) k) * 10 ^ (min (zcf_N B) k) = 10 ^ k := by
    rw [← Nat.pow_add]
    congr 1
    omega
  obtain ⟨p1, p2⟩ := zce_pow k (by omega)
  have b : 10 ^ (k - min (zcf_N B) k) * a ≤ 10 ^ (k - min (zcf_N B) k) * (5 * 10 ^ (min (zcf_N B) k)) := Nat.mul_le_mul_left _ ha
  rw [Nat.mul_left_comm, ek] at b
  have h := zce_partM I J (a := 10 ^ (k - min (zcf_N B) k) * a) (b := 10 ^ k) w (by
    have : (5 : Nat) * 2 ^ 34 < 2 ^ 63 := by decide
    omega) p1 p2
  rw [h]
  unfold zcg_q
  rw [← zce_same w a (k - min (zcf_N B) k) (min (zcf_N B) k), ek]
/-- the reference's weight -/
theorem zci_weight (hv : zdMv B) {I : Nat → Nat → Int32} {J : Nat → Nat → Int64} (h : zdMa B I) (hG : zt_Gs zo_g22 (I, J)) {o k : Nat} (ho : o ≤ 10) (hk : k ≤ 10) (h73 : I 7 3 = Int32.ofNat o) (l1 : Int32) : ∃ N, zF_X10_weightOf zW_M [.ref 0, .int l1, .int (Int32.ofNat k), .int 0] (I, J) = some (some (.long (Int64.ofNat (10 ^ (k - min (zcf_N B) k) * zci_A B o k l1))), N) := by
  obtain ⟨⟨-, hA, hE, -, -⟩, -, -⟩ := id hv
  obtain ⟨N1, K1, q1, q2, q3, q4, q5, -⟩ := zdm_lays hv h hG
  have h7 : N1 7 3 = Int32.ofNat o := (q5 7 3 (by decide)).trans h73
  have ht : zci_to B k ≤ 60 := by
    unfold zci_to
    split <;> omega
  obtain ⟨N, e⟩ := zch_34 hv ho hk ht l1 (2 ^ k) 0 N1 K1 none none none (by omega) q2 q4 h7
  refine ⟨N, ?_⟩
  have e : zv_X10_weightOf_M_34 N1 K1 l1 (Int32.ofNat k) 0 (Int32.ofNat (zci_to B k)) 0 0 none none none = some (some (.long (Int64.ofNat (zca_T o (10 - o) k (zch_so B l1 (zci_to B k))))), N) := e
  rw [zci_T hE.1 ho hk] at e
  have hkE : k * B.2.2.2.2.2.2 ≤ 10 * 30 := Nat.mul_le_mul hk hE.2
  have e60 : (60 : Int32) = Int32.ofNat 60 := rfl
  rw [zf_X10_weightOf_M, zc_X10_weightOf_M_0 _ _ _ _ _ q1, zq_X10_weightOf_M_4, q2.1.2.2.2.1, zcd_mul k (by omega) _ (by omega), e60]
  unfold zci_to at e
  by_cases c : 60 ≤ k * B.2.2.2.2.2.2
  · rw [if_pos c] at e
    rw [if_pos ((zp_le (by omega) (by omega)).mpr c), zq_X10_weightOf_M_24, zq_X10_weightOf_M_26]
    exact e
  · rw [if_neg c] at e
    rw [if_neg (fun z => c ((zp_le (by omega) (by omega)).mp z)), zq_X10_weightOf_M_15, q2.1.2.2.2.1, zcd_mul k (by omega) _ (by omega), zq_X10_weightOf_M_26]
    exact e
end ZCJ
