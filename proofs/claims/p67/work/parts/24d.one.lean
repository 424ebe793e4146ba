/-! CONTRACTS BY HAND: sizeOf, tens, common, turn, isWord -/
theorem zh_andlt {x : Int32} (h : x ≠ 0) : (x &&& (x - 1)).toBitVec.toNat < x.toBitVec.toNat := by
  have h0 : x.toBitVec.toNat ≠ 0 := fun e => h (by
    apply Int32.toBitVec_inj.mp
    apply BitVec.eq_of_toNat_eq
    rw [e]; rfl)
  have hb : x.toBitVec.toNat < 2 ^ 32 := x.toBitVec.isLt
  have e1 : (x &&& (x - 1)).toBitVec = x.toBitVec &&& (x.toBitVec - 1#32) := rfl
  rw [e1, BitVec.toNat_and, BitVec.toNat_sub]
  have h1 : (1#32).toNat = 1 := rfl
  rw [h1]
  have e2 : (2 ^ 32 - 1 + x.toBitVec.toNat) % 2 ^ 32 = x.toBitVec.toNat - 1 := by omega
  rw [e2]
  have := @Nat.and_le_right x.toBitVec.toNat (x.toBitVec.toNat - 1)
  omega
theorem zh_sizeOf4 (I : Nat → Nat → Int32) (J : Nat → Nat → Int64) (l0 : Int32) : ∀ (n : Nat) (l1 l2 : Int32), l2.toBitVec.toNat < n → ∃ x, zv_X10_sizeOf_M_4 I J l0 l1 l2 = some (some (.int x), (I, J)) := by
  intro n
  induction n with
  | zero => intro l1 l2 h; omega
  | succ n ih =>
    intro l1 l2 h
    rw [zq_X10_sizeOf_M_4]
    split
    · exact ⟨_, zq_X10_sizeOf_M_20 I J l0 l1 l2⟩
    · next h0 =>
      rw [zq_X10_sizeOf_M_8]
      have := zh_andlt h0
      exact ih _ _ (by omega)
theorem zh_sizeOf (v : Nat) (hd : Nat × Option Nat × Bool × List (Nat × Nat)) : zt_Con zo_Om (zo_Rel v) (hd, (22, ([zt_top], [], []), [], [(some zt_top, [], [], [])])) zF_X10_sizeOf :=
  zh_pure (w0 := zW_M) rfl (by decide +kernel) (fun as M hs _ _ hG => by
    obtain ⟨x, vs, rfl, h2⟩ := zh_top hs
    obtain rfl := zh_nil h2
    obtain ⟨y, hy⟩ := zh_sizeOf4 M.1 M.2 x _ 0 x (Nat.lt_succ_self _)
    exact ⟨_, (zf_X10_sizeOf_M M.1 M.2 x).trans ((zq_X10_sizeOf_M_0 M.1 M.2 x).trans hy), _, List.mem_cons_self, ⟨⟨_, rfl, zt_v_top y⟩, zh_no, zh_no, zh_no⟩⟩)
theorem zh_ten1 : ∀ k, k < 11 → Int32.ofNat (k + 1) ≠ 0 ∧ Int32.ofNat (k + 1) - 1 = Int32.ofNat k ∧ (10 : Int64) * Int64.ofNat (10 ^ k) = Int64.ofNat (10 ^ (k + 1)) := by decide +kernel
theorem zh_tensF (I : Nat → Nat → Int32) (J : Nat → Nat → Int64) : ∀ (k d : Nat), k < 11 → k < d → zF_X10_tens d zW_M [.int (Int32.ofNat k)] (I, J) = some (some (.long (Int64.ofNat (10 ^ k))), (I, J)) := by
  intro k
  induction k with
  | zero =>
    intro d _ hd
    cases d with
    | zero => omega
    | succ d =>
      show zm_F zm_V (zT_X10_tens (zF_X10_tens d)) 1 zW_M [.int (Int32.ofNat 0)] (I, J) = _
      rw [zf_X10_tens_M, zq_X10_tens_M_0, if_pos (by rfl), zq_X10_tens_M_4, zq_X10_tens_M_18]
      rfl
  | succ k ih =>
    intro d hk hd
    cases d with
    | zero => omega
    | succ d =>
      obtain ⟨h1, h2, h3⟩ := zh_ten1 k (by omega)
      show zm_F zm_V (zT_X10_tens (zF_X10_tens d)) 1 zW_M [.int (Int32.ofNat (k + 1))] (I, J) = _
      rw [zf_X10_tens_M, zq_X10_tens_M_0, if_neg h1, zc_X10_tens_M_8 _ _ _ _ (by rw [h2]; exact ih d (by omega) (by omega)), zq_X10_tens_M_17, zq_X10_tens_M_18, h3]
theorem zh_ten2 : ∀ k, k < 11 → (Int64.ofNat (10 ^ k)).toInt = ((10 ^ k : Nat) : Int) := by decide +kernel
theorem zh_tens (k : Nat) (hk : k < 11) (v : Nat) (hd : Nat × Option Nat × Bool × List (Nat × Nat)) : zt_Con zo_Om (zo_Rel v) (hd, (22, ([zj (.ofNat k) (.ofNat k)], [], []), [], [(some (1, .ofNat (10 ^ k), .ofNat (10 ^ k), 0, []), [], [], [])])) (zF_X10_tens 14) :=
  zh_pure (w0 := zW_M) rfl (by decide +kernel) (fun as M hs _ _ hG => by
    obtain ⟨x, vs, rfl, h1, h2, h3⟩ := zh_int hs
    obtain rfl := zh_nil h3
    have hx : x = Int32.ofNat k := Int32.toInt_inj.mp (by
      rw [zh_of (by omega)]
      have h1 : (k : Int) ≤ x.toInt := h1
      have h2 : x.toInt ≤ (k : Int) := h2
      omega)
    subst hx
    refine ⟨_, zh_tensF M.1 M.2 k 14 hk (by omega), _, List.mem_cons_self, ⟨⟨_, rfl, ?_⟩, zh_no, zh_no, zh_no⟩⟩
    refine ⟨_, rfl, ⟨?_, ?_, ?_⟩, zt_nms_nil _⟩
    · show ((10 ^ k : Nat) : Int) ≤ _
      rw [zh_ten2 k hk]
      exact Int.le_refl _
    · show _ ≤ ((10 ^ k : Nat) : Int)
      rw [zh_ten2 k hk]
      exact Int.le_refl _
    · show ((0 : Nat) : Int) ∣ _ - ((10 ^ k : Nat) : Int)
      rw [zh_ten2 k hk]
      exact ⟨0, by omega⟩)
/-- the remainder of longs -/
theorem zh_rem (a b : Int64) (hb : b.toInt ≠ 0) : (a - a / b * b).toInt = a.toInt.tmod b.toInt := by
  have ha := zt_rgL a
  have hb2 := zt_rgL b
  rw [Int64.toInt_sub, Int64.toInt_mul, Int64.toInt_div, Int.bmod_mul_bmod, Int.sub_bmod_bmod]
  have e : a.toInt - a.toInt.tdiv b.toInt * b.toInt = a.toInt.tmod b.toInt := by
    have := Int.tdiv_mul_add_tmod a.toInt b.toInt
    omega
  rw [e]
  have h1 : (a.toInt.tmod b.toInt).natAbs < b.toInt.natAbs := by
    rw [Int.natAbs_tmod]
    exact Nat.mod_lt _ (by omega)
  exact zt_bmL (by omega) (by omega)
theorem zh_cmp0 (b : Int64) : lg_cmp b 0 = 0 ↔ b.toInt = 0 := by
  rw [lg_cmp_eq]
  constructor
  · intro h; rw [h]; rfl
  · intro h; exact Int64.toInt_inj.mp (h.trans rfl)
theorem zh_half {n k : Nat} (h0 : 0 < k) (h : k < n) : 2 * (n % k) < n := by
  have h1 := Nat.div_add_mod n k
  have h2 := Nat.mod_lt n h0
  have h3 : 1 ≤ n / k := Nat.div_pos (Nat.le_of_lt h) h0
  have h4 : k * 1 ≤ k * (n / k) := Nat.mul_le_mul_left k h3
  omega
theorem zh_com0 (I : Nat → Nat → Int32) (J : Nat → Nat → Int64) (d : Nat) (a b : Int64) (hb : b.toInt = 0) : zF_X10_common (d + 1) zW_M [.long a, .long b] (I, J) = some (some (.long a), (I, J)) := by
  show zm_F zm_V (zT_X10_common (zF_X10_common d)) 4 zW_M [.long a, .long b] (I, J) = _
  rw [zf_X10_common_M, zq_X10_common_M_0, if_pos ((zh_cmp0 b).mpr hb), zq_X10_common_M_6, zq_X10_common_M_17]
theorem zh_com1 (I : Nat → Nat → Int32) (J : Nat → Nat → Int64) (d : Nat) (a b r : Int64) (hb : b.toInt ≠ 0) (h : zF_X10_common d zW_M [.long b, .long (a - a / b * b)] (I, J) = some (some (.long r), (I, J))) : zF_X10_common (d + 1) zW_M [.long a, .long b] (I, J) = some (some (.long r), (I, J)) := by
  show zm_F zm_V (zT_X10_common (zF_X10_common d)) 4 zW_M [.long a, .long b] (I, J) = _
  have hb' : ¬ b = 0 := fun e => hb (by rw [e]; rfl)
  rw [zf_X10_common_M, zq_X10_common_M_0, if_neg (fun e => hb ((zh_cmp0 b).mp e)), zq_X10_common_M_10, if_neg hb', zc_X10_common_M_14 _ _ _ _ _ _ _ h, zq_X10_common_M_17]
theorem zh_com (I : Nat → Nat → Int32) (J : Nat → Nat → Int64) : ∀ (m d : Nat) (a b : Int64), 2 * m + 1 ≤ d → b.toInt.natAbs < 2 ^ m → (b.toInt = 0 → a.toInt ≠ 0) → ∃ r : Int64, zF_X10_common d zW_M [.long a, .long b] (I, J) = some (some (.long r), (I, J)) ∧ r.toInt ≠ 0 := by
  intro m
  induction m with
  | zero =>
    intro d a b hd hb h0
    have hz : b.toInt = 0 := by omega
    obtain ⟨d, rfl⟩ : ∃ e, d = e + 1 := ⟨d - 1, by omega⟩
    exact ⟨a, zh_com0 I J d a b hz, h0 hz⟩
  | succ m ih =>
    intro d a b hd hb h0
    obtain ⟨d, rfl⟩ : ∃ e, d = e + 1 + 1 + 1 := ⟨d - 3, by omega⟩
    by_cases hz : b.toInt = 0
    · exact ⟨a, zh_com0 I J _ a b hz, h0 hz⟩
    · have hr := zh_rem a b hz
      have hr1 : (a.toInt.tmod b.toInt).natAbs < b.toInt.natAbs := by
        rw [Int.natAbs_tmod]
        exact Nat.mod_lt _ (by omega)
      by_cases hz2 : (a - a / b * b).toInt = 0
      · exact ⟨b, zh_com1 I J _ a b b hz (zh_com0 I J _ b _ hz2), hz⟩
      · have hr2 := zh_rem b (a - a / b * b) hz2
        have h3 : (b - b / (a - a / b * b) * (a - a / b * b)).toInt.natAbs < 2 ^ m := by
          rw [hr2, Int.natAbs_tmod]
          have := zh_half (n := b.toInt.natAbs) (k := (a - a / b * b).toInt.natAbs) (by omega) (by rw [hr]; exact hr1)
          have e : 2 ^ (m + 1) = 2 * 2 ^ m := by rw [Nat.pow_succ]; omega
          omega
        obtain ⟨r, h4, h5⟩ := ih (d + 1) (a - a / b * b) _ (by omega) h3 (fun _ => hz2)
        exact ⟨r, zh_com1 I J _ a b r hz (zh_com1 I J _ b _ r hz2 h4), h5⟩
theorem zh_common (v : Nat) (hd : Nat × Option Nat × Bool × List (Nat × Nat)) : zt_Con zo_Om (zo_Rel v) (hd, (22, ([zt_ltop, (1, .ofNat 1, .ofNat 10000000000, 1, [])], [], []), [], [(some (5, .ofNat 0, .ofNat 0, 0, []), [], [], [])])) (zF_X10_common 120) :=
  zh_pure (w0 := zW_M) rfl (by decide +kernel) (fun as M hs _ _ hG => by
    obtain ⟨a, vs, rfl, -, -, h2⟩ := zh_long hs
    obtain ⟨b, vs, rfl, h3, h4, h5⟩ := zh_long h2
    obtain rfl := zh_nil h5
    have h3 : (1 : Int) ≤ b.toInt := h3
    have h4 : b.toInt ≤ 10000000000 := h4
    obtain ⟨r, h6, h7⟩ := zh_com M.1 M.2 34 120 a b (by omega) (by omega) (by omega)
    exact ⟨_, h6, _, List.mem_cons_self, ⟨⟨_, rfl, ⟨r, rfl, h7, zt_nms_nil _⟩⟩, zh_no, zh_no, zh_no⟩⟩)
