/-! bytes that are fed, on both sides -/
section ZPQ
theorem zp_bmod8 (x : Int) : x.bmod (2 ^ 8) = if x % 256 < 128 then x % 256 else x % 256 - 256 := by
  unfold Int.bmod
  rfl
theorem zp_sg8 {q x : Int} (h : x % 256 = q % 256) : zp_sg (x.bmod (2 ^ 8)) (q % 256) := by
  rw [zp_bmod8, h]
  have h1 := Int.emod_nonneg q (b := 256) (by decide)
  have h2 := Int.emod_lt_of_pos q (b := 256) (by decide)
  by_cases c : q % 256 < 128
  · rw [if_pos c]
    exact Or.inl ⟨rfl, c⟩
  · rw [if_neg c]
    exact Or.inr ⟨by omega, by omega⟩
theorem zp_u (v : Int32) : v.toInt = if v.toBitVec.toNat < 2147483648 then (v.toBitVec.toNat : Int) else (v.toBitVec.toNat : Int) - 4294967296 := by
  show v.toBitVec.toInt = _
  rw [BitVec.toInt_eq_toNat_cond]
  have := v.toBitVec.isLt
  split <;> split <;> omega
def zp_bX (l l2 : Int32) : Int32 := (((Int32.toUInt32 l >>> (Int32.toUInt32 l2 &&& Int32.toUInt32 31)).toInt32) &&& 255)
def zp_bM (l l2 : Int32) : Int32 := vp_nar .byte ((Int32.toInt8 (l >>> (l2 &&& 31))).toInt32)
theorem zp_bX_n (l l2 : Int32) (n : Nat) (h : ((Int32.toUInt32 l2 &&& Int32.toUInt32 31).toBitVec % (32 : BitVec 32)).toNat = n) : (zp_bX l l2).toBitVec.toNat = l.toBitVec.toNat / 2 ^ n % 2 ^ 8 := by
  unfold zp_bX
  rw [Int32.toBitVec_and, UInt32.toBitVec_toInt32, BitVec.toNat_and]
  have e1 : (Int32.toUInt32 l >>> (Int32.toUInt32 l2 &&& Int32.toUInt32 31)).toBitVec.toNat = l.toBitVec.toNat / 2 ^ n := by
    rw [UInt32.toBitVec_shiftRight, BitVec.ushiftRight_eq', BitVec.toNat_ushiftRight, h, Nat.shiftRight_eq_div_pow, Int32.toBitVec_toUInt32]
  rw [e1, show ((255 : Int32).toBitVec.toNat) = 2 ^ 8 - 1 by decide, Nat.and_two_pow_sub_one_eq_mod]
theorem zp_bM_n (l l2 : Int32) (n : Nat) (h : ((l2 &&& 31).toBitVec.smod (32 : BitVec 32)).toNat = n) : (zp_bM l l2).toInt = (l.toInt / ((2 ^ n : Nat) : Int)).bmod (2 ^ 8) := by
  unfold zp_bM
  rw [pk_vb, Int8.toInt_toInt32, Int32.toInt_toInt8]
  have e : (l >>> (l2 &&& 31)).toInt = l.toInt / ((2 ^ n : Nat) : Int) := by
    show (l >>> (l2 &&& 31)).toBitVec.toInt = _
    rw [Int32.toBitVec_shiftRight, BitVec.toInt_sshiftRight', h, Int.shiftRight_eq_div_pow]
    rfl
  rw [e]
theorem zp_bX_i (l l2 : Int32) (n : Nat) (h : ((Int32.toUInt32 l2 &&& Int32.toUInt32 31).toBitVec % (32 : BitVec 32)).toNat = n) : (zp_bX l l2).toInt = ((l.toBitVec.toNat / 2 ^ n : Nat) : Int) % 256 := by
  have e := zp_bX_n l l2 n h
  have e2 := zp_u (zp_bX l l2)
  rw [e] at e2
  generalize l.toBitVec.toNat / 2 ^ n = q at e2 ⊢
  rw [show (2 ^ 8 : Nat) = 256 from rfl] at e2
  rw [if_pos (by omega)] at e2
  rw [e2]
  omega
theorem zp_bts (l l2 : Int32) (n m : Nat) (hm : 2 ^ n = m) (h : ((Int32.toUInt32 l2 &&& Int32.toUInt32 31).toBitVec % (32 : BitVec 32)).toNat = n) (h2 : ((l2 &&& 31).toBitVec.smod (32 : BitVec 32)).toNat = n) (hd : m = 16777216 ∨ m = 65536 ∨ m = 256 ∨ m = 1) : (zp_bX l l2).toInt = ((l.toBitVec.toNat / m : Nat) : Int) % 256 ∧ zp_sg (zp_bM l l2).toInt (((l.toBitVec.toNat / m : Nat) : Int) % 256) := by
  rw [zp_bX_i l l2 n h, zp_bM_n l l2 n h2, hm]
  refine ⟨rfl, zp_sg8 ?_⟩
  have e := zp_u l
  have b := l.toBitVec.isLt
  generalize l.toBitVec.toNat = N at e b ⊢
  generalize l.toInt = z at e ⊢
  rcases hd with rfl | rfl | rfl | rfl
  · split at e <;> omega
  · split at e <;> omega
  · split at e <;> omega
  · split at e <;> omega
/-- byte j of a number -/
def zp_bv (l : Int32) (j : Nat) : Int := ((l.toBitVec.toNat / (if j = 0 then 16777216 else if j = 1 then 65536 else if j = 2 then 256 else 1) : Nat) : Int) % 256
def zpXt (T : Nat → Int) (n : Nat) (I : Nat → Nat → Int32) : Prop := I 0 1 = Int32.ofNat n ∧ ∀ i, i < n → (I 1 i).toInt = T i
def zpMt (T : Nat → Int) (n : Nat) (I : Nat → Nat → Int32) : Prop := I 0 6 = Int32.ofNat n ∧ ∀ i, i < n → zp_sg (I 5 i).toInt (T i)
def zp_ap (T : Nat → Int) (n : Nat) (l : Int32) : Nat → Int := fun i => if i < n then T i else zp_bv l (i - n)
section ZPQ1
variable {T : Nat → Int} {n : Nat} {I : Nat → Nat → Int32} {J : Nat → Nat → Int64} {l l2 : Int32}
theorem zp_pt1 {b : Nat} (hl : ¬ l2 < 0) (hb : n + b < 800) (h : I 0 1 = Int32.ofNat (n + b)) (hT : ∀ i, i < n + b → (I 1 i).toInt = zp_ap T n l i) (ht : (zp_bX l l2).toInt = zp_bv l b) : ∃ I', zv_X8_put_T_3 I J l l2 = zv_X8_put_T_3 I' J l (l2 + (-8)) ∧ I' 0 1 = Int32.ofNat (n + (b + 1)) ∧ ∀ i, i < n + (b + 1) → (I' 1 i).toInt = zp_ap T n l i := by
  have ei : (I 0 1).toInt = (n + b : Nat) := by rw [h, zp_o (by omega)]
  have ec : Int32.toNatClampNeg (I 0 1) = n + b := zh_cl ei
  refine ⟨_, (zq_X8_put_T_3 I J l l2).trans ((if_neg hl).trans ((zq_X8_put_T_7 I J l l2).trans ((if_neg (ze_800 (by omega))).trans ((zq_X8_put_T_17 I J l l2).trans (if_neg (ze_ix (by omega) (by omega))))))), ?_, fun i hi => ?_⟩
  · rw [ze_wi, ze_wo (by decide), h, zp_o1 (by omega)]
    rfl
  · rw [ze_wo (by decide), ec]
    by_cases c : i = n + b
    · subst c
      rw [ze_wi]
      have ea : zp_ap T n l (n + b) = zp_bv l b := by
        unfold zp_ap
        rw [if_neg (by omega), Nat.add_sub_cancel_left]
      rw [ea]
      exact ht
    · rw [ze_wj c]
      exact hT i (by omega)
theorem zp_fo1 {b : Nat} (hl : ¬ l2 < 0) (hb : n + b < 800) (h : I 0 6 = Int32.ofNat (n + b)) (hT : ∀ i, i < n + b → zp_sg (I 5 i).toInt (zp_ap T n l i)) (ht : zp_sg (zp_bM l l2).toInt (zp_bv l b)) : ∃ I', zv_X10_four_M_3 I J l l2 = zv_X10_four_M_3 I' J l (l2 + (-8)) ∧ I' 0 6 = Int32.ofNat (n + (b + 1)) ∧ (∀ i, i < n + (b + 1) → zp_sg (I' 5 i).toInt (zp_ap T n l i)) ∧ ∀ a c, ¬ (a = 0 ∧ c = 6) → a ≠ 5 → I' a c = I a c := by
  have ei : (I 0 6).toInt = (n + b : Nat) := by rw [h, zp_o (by omega)]
  have ec : Int32.toNatClampNeg (I 0 6) = n + b := zh_cl ei
  refine ⟨_, (zq_X10_four_M_3 I J l l2).trans ((if_neg hl).trans ((zq_X10_four_M_7 I J l l2).trans (if_neg (ze_ix (by omega) (by omega))))), ?_, fun i hi => ?_, fun a c h1 h2 => ?_⟩
  · rw [ze_wi, ze_wo (by decide), h, zp_o1 (by omega)]
    rfl
  · rw [ze_wo (by decide), ec]
    by_cases c : i = n + b
    · subst c
      rw [ze_wi]
      have ea : zp_ap T n l (n + b) = zp_bv l b := by
        unfold zp_ap
        rw [if_neg (by omega), Nat.add_sub_cancel_left]
      rw [ea]
      exact ht
    · rw [ze_wj c]
      exact hT i (by omega)
  · rw [zh_w2 _ _ h1, ze_wo h2]
theorem zp_s0 : (24 : Int32) + (-8) = 16 := by decide
theorem zp_s1 : (16 : Int32) + (-8) = 8 := by decide
theorem zp_s2 : (8 : Int32) + (-8) = 0 := by decide
theorem zp_s3 : (0 : Int32) + (-8) = -8 := by decide
theorem zp_b0 (l : Int32) : (zp_bX l 24).toInt = zp_bv l 0 ∧ zp_sg (zp_bM l 24).toInt (zp_bv l 0) := zp_bts l 24 24 16777216 (by decide) (by decide) (by decide) (Or.inl rfl)
theorem zp_b1 (l : Int32) : (zp_bX l 16).toInt = zp_bv l 1 ∧ zp_sg (zp_bM l 16).toInt (zp_bv l 1) := zp_bts l 16 16 65536 (by decide) (by decide) (by decide) (Or.inr (Or.inl rfl))
theorem zp_b2 (l : Int32) : (zp_bX l 8).toInt = zp_bv l 2 ∧ zp_sg (zp_bM l 8).toInt (zp_bv l 2) := zp_bts l 8 8 256 (by decide) (by decide) (by decide) (Or.inr (Or.inr (Or.inl rfl)))
theorem zp_b3 (l : Int32) : (zp_bX l 0).toInt = zp_bv l 3 ∧ zp_sg (zp_bM l 0).toInt (zp_bv l 3) := zp_bts l 0 0 1 (by decide) (by decide) (by decide) (Or.inr (Or.inr (Or.inr rfl)))
theorem zp_put (h : zpXt T n I) (hn : n ≤ 796) : ∃ I', zF_X8_put zW_T [.ref 0, .int l] (I, J) = some (none, (I', J)) ∧ zpXt (zp_ap T n l) (n + 4) I' := by
  obtain ⟨I1, a1, b1, c1⟩ := zp_pt1 (T := T) (n := n) (b := 0) (I := I) (J := J) (l := l) (l2 := 24) (by decide) (by omega) h.1 (fun i hi => by
    unfold zp_ap
    rw [if_pos (show i < n from hi)]
    exact h.2 i hi) (zp_b0 l).1
  obtain ⟨I2, a2, b2, c2⟩ := zp_pt1 (T := T) (n := n) (b := 1) (I := I1) (J := J) (l := l) (l2 := 16) (by decide) (by omega) b1 c1 (zp_b1 l).1
  obtain ⟨I3, a3, b3, c3⟩ := zp_pt1 (T := T) (n := n) (b := 2) (I := I2) (J := J) (l := l) (l2 := 8) (by decide) (by omega) b2 c2 (zp_b2 l).1
  obtain ⟨I4, a4, b4, c4⟩ := zp_pt1 (T := T) (n := n) (b := 3) (I := I3) (J := J) (l := l) (l2 := 0) (by decide) (by omega) b3 c3 (zp_b3 l).1
  rw [zp_s0] at a1
  rw [zp_s1] at a2
  rw [zp_s2] at a3
  rw [zp_s3] at a4
  refine ⟨I4, ?_, b4, c4⟩
  rw [zf_X8_put_T, zq_X8_put_T_0, a1, a2, a3, a4, zq_X8_put_T_3, if_pos (by decide), zq_X8_put_T_49]
theorem zp_four (h : zpMt T n I) (hn : n ≤ 796) : ∃ I', zF_X10_four zW_M [.ref 0, .int l] (I, J) = some (none, (I', J)) ∧ zpMt (zp_ap T n l) (n + 4) I' ∧ ∀ a c, ¬ (a = 0 ∧ c = 6) → a ≠ 5 → I' a c = I a c := by
  obtain ⟨I1, a1, b1, c1, d1⟩ := zp_fo1 (T := T) (n := n) (b := 0) (I := I) (J := J) (l := l) (l2 := 24) (by decide) (by omega) h.1 (fun i hi => by
    unfold zp_ap
    rw [if_pos (show i < n from hi)]
    exact h.2 i hi) (zp_b0 l).2
  obtain ⟨I2, a2, b2, c2, d2⟩ := zp_fo1 (T := T) (n := n) (b := 1) (I := I1) (J := J) (l := l) (l2 := 16) (by decide) (by omega) b1 c1 (zp_b1 l).2
  obtain ⟨I3, a3, b3, c3, d3⟩ := zp_fo1 (T := T) (n := n) (b := 2) (I := I2) (J := J) (l := l) (l2 := 8) (by decide) (by omega) b2 c2 (zp_b2 l).2
  obtain ⟨I4, a4, b4, c4, d4⟩ := zp_fo1 (T := T) (n := n) (b := 3) (I := I3) (J := J) (l := l) (l2 := 0) (by decide) (by omega) b3 c3 (zp_b3 l).2
  rw [zp_s0] at a1
  rw [zp_s1] at a2
  rw [zp_s2] at a3
  rw [zp_s3] at a4
  refine ⟨I4, ?_, ⟨b4, c4⟩, fun a c h1 h2 => (d4 a c h1 h2).trans ((d3 a c h1 h2).trans ((d2 a c h1 h2).trans (d1 a c h1 h2)))⟩
  rw [zf_X10_four_M, zq_X10_four_M_0, a1, a2, a3, a4, zq_X10_four_M_3, if_pos (by decide), zq_X10_four_M_36]
/-- what the tape holds behind a feed -/
def zp_ap5 (T : Nat → Int) (n : Nat) (a b c d e : Int32) : Nat → Int := zp_ap (zp_ap (zp_ap (zp_ap (zp_ap T n a) (n + 4) b) (n + 8) c) (n + 12) d) (n + 16) e
end ZPQ1
section ZPQ2
variable {T : Nat → Int} {n : Nat} {M : zm_I}
theorem zp_putX (l : Int32) (h : zpXt T n (fun k => M.1 (51 + k))) (hn : n ≤ 796) : ∃ N, zF_X8_put zW_T [.ref 0, .int l] (zm_sub2 [(51, 2)] M) = some (none, N) ∧ zpXt (zp_ap T n l) (n + 4) (fun k => (zm_mrg [(51, 2)] M N).1 (51 + k)) := by
  obtain ⟨I', e1, e2⟩ := zp_put (T := T) (n := n) (I := (zm_sub2 [(51, 2)] M).1) (J := (zm_sub2 [(51, 2)] M).2) (l := l) h hn
  exact ⟨_, e1, e2⟩
theorem zp_20 (h : n ≤ 800) {x : Int32} (hx : x = Int32.ofNat n) : (x + 20).toInt = (n + 20 : Nat) := by
  rw [ze_20 (by rw [hx, zp_o (by omega)]; omega) (by rw [hx, zp_o (by omega)]; omega), hx, zp_o (by omega)]
  omega
theorem zp_feedX (a b c d e : Int32) (h0 : zpXt T n (fun k => M.1 (51 + k))) (hn : n ≤ 800) {x : Int32} {N : zm_I} (h : zF_X9_feed zW_X [.ref 0, .int a, .int b, .int c, .int d, .int e] M = some (some (.int x), N)) : (n ≤ 780 ∧ x = Int32.ofNat (n + 20) ∧ zpXt (zp_ap5 T n a b c d e) (n + 20) (fun k => N.1 (51 + k))) ∨ (780 < n ∧ x = -1 ∧ N = M) := by
  have hz := (zf_X9_feed_X M.1 M.2 a b c d e).trans (zc_X9_feed_X_0 M.1 M.2 a b c d e (ze_roomX (M := M)))
  have hz : zF_X9_feed zW_X [.ref 0, .int a, .int b, .int c, .int d, .int e] M = _ := hz
  rw [h] at hz
  have hid : zm_mrg [(51, 2)] (M.1, M.2) (zm_sub2 [(51, 2)] M) = M := zm_mrg_id _ _
  rw [hid, zq_X9_feed_X_9] at hz
  have e20 : (M.1 51 1 + 20).toInt = (n + 20 : Nat) := zp_20 hn h0.1
  by_cases hr : n ≤ 780
  · have hr1 : ¬ (800 : Int32) < M.1 51 1 + 20 := by
      rw [Int32.lt_iff_toInt_lt, e20, show (800 : Int32).toInt = 800 by decide]
      omega
    rw [if_neg hr1, if_neg (by decide)] at hz
    obtain ⟨N1, p1, q1⟩ := zp_putX (M := M) a h0 (by omega)
    rw [zc_X9_feed_X_14 _ _ _ _ _ _ _ p1] at hz
    generalize zm_mrg [(51, 2)] (M.1, M.2) N1 = M1 at hz q1
    have q1 : zpXt (zp_ap T n a) (n + 4) (fun k => M1.1 (51 + k)) := q1
    obtain ⟨N2, p2, q2⟩ := zp_putX (M := M1) b q1 (by omega)
    rw [zc_X9_feed_X_22 _ _ _ _ _ _ _ p2] at hz
    generalize zm_mrg [(51, 2)] (M1.1, M1.2) N2 = M2 at hz q2
    obtain ⟨N3, p3, q3⟩ := zp_putX (M := M2) c q2 (by omega)
    rw [zc_X9_feed_X_30 _ _ _ _ _ _ _ p3] at hz
    generalize zm_mrg [(51, 2)] (M2.1, M2.2) N3 = M3 at hz q3
    obtain ⟨N4, p4, q4⟩ := zp_putX (M := M3) d q3 (by omega)
    rw [zc_X9_feed_X_38 _ _ _ _ _ _ _ p4] at hz
    generalize zm_mrg [(51, 2)] (M3.1, M3.2) N4 = M4 at hz q4
    obtain ⟨N5, p5, q5⟩ := zp_putX (M := M4) e q4 (by omega)
    rw [zc_X9_feed_X_47 _ _ _ _ _ _ _ p5] at hz
    generalize zm_mrg [(51, 2)] (M4.1, M4.2) N5 = M5 at hz q5
    rw [zq_X9_feed_X_56] at hz
    cases hz
    exact Or.inl ⟨hr, q5.1, q5⟩
  · have hr1 : (800 : Int32) < M.1 51 1 + 20 := by
      rw [Int32.lt_iff_toInt_lt, e20, show (800 : Int32).toInt = 800 by decide]
      omega
    rw [if_pos hr1, if_pos rfl, zq_X9_feed_X_12] at hz
    cases hz
    exact Or.inr ⟨by omega, rfl, rfl⟩
theorem zp_feedM (a b c d e : Int32) (h0 : zpMt T n M.1) (hn : n ≤ 800) {x : Int32} {N : zm_I} (h : zF_X10_feed zW_M [.ref 0, .int a, .int b, .int c, .int d, .int e] M = some (some (.int x), N)) : (n ≤ 780 ∧ x = Int32.ofNat (n + 20) ∧ zpMt (zp_ap5 T n a b c d e) (n + 20) N.1) ∨ (780 < n ∧ x = -1 ∧ N = (zm_w M.1 0 0 0, M.2)) := by
  have hz : zF_X10_feed zW_M [.ref 0, .int a, .int b, .int c, .int d, .int e] M = _ := zf_X10_feed_M M.1 M.2 a b c d e
  have e6 : zm_w M.1 0 0 0 0 6 = M.1 0 6 := ze_wj (by decide)
  rw [h, zq_X10_feed_M_0, e6] at hz
  have e20 : (M.1 0 6 + 20).toInt = (n + 20 : Nat) := zp_20 hn h0.1
  by_cases hr : n ≤ 780
  · have hr1 : M.1 0 6 + 20 ≤ (800 : Int32) := by
      rw [Int32.le_iff_toInt_le, e20, show (800 : Int32).toInt = 800 by decide]
      omega
    rw [if_pos hr1] at hz
    have q0 : zpMt T n (zm_w M.1 0 0 0) := ⟨e6.trans h0.1, fun i hi => by rw [ze_wo (by decide)]; exact h0.2 i hi⟩
    generalize zm_w M.1 0 0 0 = I0 at hz q0
    obtain ⟨I1, p1, q1, -⟩ := zp_four (I := I0) (J := M.2) (l := a) q0 (by omega)
    rw [zc_X10_feed_M_20 _ _ _ _ _ _ _ p1] at hz
    obtain ⟨I2, p2, q2, -⟩ := zp_four (I := I1) (J := M.2) (l := b) q1 (by omega)
    rw [zc_X10_feed_M_25 _ _ _ _ _ _ _ p2] at hz
    obtain ⟨I3, p3, q3, -⟩ := zp_four (I := I2) (J := M.2) (l := c) q2 (by omega)
    rw [zc_X10_feed_M_30 _ _ _ _ _ _ _ p3] at hz
    obtain ⟨I4, p4, q4, -⟩ := zp_four (I := I3) (J := M.2) (l := d) q3 (by omega)
    rw [zc_X10_feed_M_35 _ _ _ _ _ _ _ p4] at hz
    obtain ⟨I5, p5, q5, -⟩ := zp_four (I := I4) (J := M.2) (l := e) q4 (by omega)
    rw [zc_X10_feed_M_41 _ _ _ _ _ _ _ p5, zq_X10_feed_M_47] at hz
    cases hz
    exact Or.inl ⟨hr, q5.1, q5⟩
  · have hr1 : ¬ M.1 0 6 + 20 ≤ (800 : Int32) := by
      rw [Int32.le_iff_toInt_le, e20, show (800 : Int32).toInt = 800 by decide]
      omega
    rw [if_neg hr1, zq_X10_feed_M_18] at hz
    cases hz
    exact Or.inr ⟨by omega, rfl, rfl⟩
end ZPQ2
end ZPQ
