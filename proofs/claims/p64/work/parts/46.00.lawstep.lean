/-! THE LAW, stretch by stretch, printed by program (wip/law/genlaw.py) -/
def zl_rd (L : Nat) (xs : Nat → Int32) (i : Int32) (f : Int32 → zm_R) : zm_R := if i < 0 ∨ L ≤ i.toNatClampNeg then none else f (xs i.toNatClampNeg)
def zl_i (j : Nat) : Int32 := Int32.ofNat (6 * j)
def zl_lb (b : Int32) : List (Option Value) := [some (.retAddr 100), some (.ref 0), some (.ref 165), some (.int b)]
theorem zl_ofNat {n : Nat} (h : n < 2147483648) : (Int32.ofNat n).toInt = n := Int32.toInt_ofNat_of_lt h
theorem zl_rd_o {L j : Nat} (h : 6 * j + 6 ≤ L ∧ L ≤ 3072) (c : Nat) (hc : c < 6) {xs : Nat → Int32} {f : Int32 → zm_R} : zl_rd L xs (zl_i j + Int32.ofNat c) f = f (xs (6 * j + c)) := by
  have e1 : (zl_i j + Int32.ofNat c).toInt = ((6 * j + c : Nat) : Int) := by
    rw [Int32.toInt_add]
    unfold zl_i
    rw [zl_ofNat (by omega), zl_ofNat (by omega)]
    have := zt_bmI (z := (((6 * j : Nat) : Int) + (c : Int))) (by omega) (by omega)
    rw [this]
    omega
  have e2 : (zl_i j + Int32.ofNat c).toNatClampNeg = 6 * j + c := by
    show (zl_i j + Int32.ofNat c).toInt.toNat = _
    rw [e1]
    rfl
  unfold zl_rd
  rw [e2, if_neg]
  intro q
  rcases q with q | q
  · rw [Int32.lt_iff_toInt_lt, e1] at q
    simp at q
    omega
  · omega
theorem zl_rd_0 {L j : Nat} (h : 6 * j + 6 ≤ L ∧ L ≤ 3072) {xs : Nat → Int32} {f : Int32 → zm_R} : zl_rd L xs (zl_i j) f = f (xs (6 * j)) := by
  have e := zl_rd_o h 0 (by decide) (xs := xs) (f := f)
  have e0 : zl_i j + Int32.ofNat 0 = zl_i j := by
    apply Int32.toInt_inj.mp
    rw [Int32.toInt_add]
    unfold zl_i
    rw [zl_ofNat (by omega), zl_ofNat (by omega)]
    exact zt_bmI (by omega) (by omega)
  rw [e0] at e
  exact e
theorem zl_next {L j : Nat} (h : 6 * j + 6 ≤ L ∧ L ≤ 3072) : zl_i j + Int32.ofInt 6 = zl_i (j + 1) := by
  apply Int32.toInt_inj.mp
  rw [Int32.toInt_add]
  unfold zl_i
  rw [zl_ofNat (by omega), zl_ofNat (by omega), show (Int32.ofInt 6).toInt = 6 by decide]
  rw [zt_bmI (by omega) (by omega)]
  omega
theorem zl_lim {L j : Nat} (hj : 6 * j ≤ L) (hL : L ≤ 3072) : (Int32.ofNat L - Int32.ofInt 6 < zl_i j) ↔ L < 6 * j + 6 := by
  rw [Int32.lt_iff_toInt_lt, Int32.toInt_sub]
  unfold zl_i
  rw [zl_ofNat (by omega), zl_ofNat (by omega), show (Int32.ofInt 6).toInt = 6 by decide]
  rw [zt_bmI (by omega) (by omega)]
  omega
-- the head, the switch, the tail, the end
def zB_sw : List (Nat × List (Instr × Nat × Nat)) := [(18, [(.iload_n 3, 0, 0), (.aload_n 0, 0, 0), (.arraylength, 0, 0), (.bipush 6, 0, 0), (.isub, 0, 0), (.if_icmp .gt 2266, 0, 0)]), (27, [(.aload_n 0, 0, 0), (.iload_n 3, 0, 0), (.iaload, 0, 0), (.bipush 127, 0, 0), (.iand, 0, 0), (.tableswitch 2251 0 74 #[315, 378, 401, 414, 437, 460, 493, 526, 559, 582, 605, 628, 651, 674, 687, 700, 713, 736, 769, 792, 805, 828, 851, 884, 907, 930, 953, 976, 1009, 1022, 1045, 1068, 1081, 1104, 1127, 1150, 1173, 1196, 1219, 1252, 1275, 1298, 1321, 1334, 1357, 1370, 1383, 1396, 1409, 1432, 1445, 1468, 1501, 1534, 1557, 1590, 1623, 1656, 1689, 1702, 1715, 1758, 1801, 1835, 1878, 1891, 1904, 1937, 1980, 2003, 2026, 2049, 2072, 2115, 2188], 0, 0)]), (2284, [(.iinc 3 6, 0, 0), (.goto (-2269), 0, 0)]), (2290, [(.iconst 1, 0, 0)])]
noncomputable def zT_sw (L : Nat) (xs : Nat → Int32) : zm_T := (zB_sw, [], [], ret, some (L, xs))
theorem zx_sw (l : Launch) (L : Nat) (xs : Nat → Int32) : zm_ok l room_1 R_law code (zT_sw L xs) ∧ zl_nr (zT_sw L xs).1 = true := ⟨zx_of ⟨zl_sk zx_L_0 0 rfl, zl_sk zx_L_0 1 rfl, zl_sk zx_L_0 2 rfl, zl_sk zx_L_0 3 rfl, trivial⟩ rfl trivial, by show zl_nr zB_sw = true; decide +kernel⟩
def zf_os : Array Int := #[315, 378, 401, 414, 437, 460, 493, 526, 559, 582, 605, 628, 651, 674, 687, 700, 713, 736, 769, 792, 805, 828, 851, 884, 907, 930, 953, 976, 1009, 1022, 1045, 1068, 1081, 1104, 1127, 1150, 1173, 1196, 1219, 1252, 1275, 1298, 1321, 1334, 1357, 1370, 1383, 1396, 1409, 1432, 1445, 1468, 1501, 1534, 1557, 1590, 1623, 1656, 1689, 1702, 1715, 1758, 1801, 1835, 1878, 1891, 1904, 1937, 1980, 2003, 2026, 2049, 2072, 2115, 2188]
def zf_pc (n : Nat) : Nat := zm_tg 33 (zf_os[n]?.getD 0)
def zp_tail : Nat := 2284
def zp_end : Nat := 2290
set_option maxRecDepth 20000 in
theorem zl_e18 (L : Nat) (xs : Nat → Int32) (b : Int32) (wl : zm_L) (M : zm_I) (k : zm_S → zm_R) : zm_step (zT_sw L xs) wl k (18, zl_lb b, [], M) = if Int32.ofNat L - Int32.ofInt 6 < b then k (zp_end, zl_lb b, [], M) else k (27, zl_lb b, [], M) := rfl
set_option maxRecDepth 20000 in
theorem zl_e27 {L j : Nat} (h : 6 * j + 6 ≤ L ∧ L ≤ 3072) (xs : Nat → Int32) (wl : zm_L) (M : zm_I) (k : zm_S → zm_R) : zm_step (zT_sw L xs) wl k (27, zl_lb (zl_i j), [], M) = zm_sw k 33 2251 0 74 zf_os (zl_lb (zl_i j)) [.int (xs (6 * j) &&& 127)] M := (show zm_step (zT_sw L xs) wl k (27, zl_lb (zl_i j), [], M) = zl_rd L xs (zl_i j) (fun v => zm_sw k 33 2251 0 74 zf_os (zl_lb (zl_i j)) [.int (v &&& 127)] M) from rfl).trans (zl_rd_0 h)
theorem zl_et (L : Nat) (xs : Nat → Int32) (b : Int32) (wl : zm_L) (M : zm_I) (k : zm_S → zm_R) : zm_step (zT_sw L xs) wl k (2284, zl_lb b, [], M) = k (18, zl_lb (b + Int32.ofInt 6), [], M) := by
  have e1 : zm_step (zT_sw L xs) wl k (2284, zl_lb b, [], M) = zm_stk k (zm_seq (zT_sw L xs) wl k [(.goto (-2269), 0, 0)] 2287) (.iinc 3 6) 2284 (zl_lb b) [] M := rfl
  have h3 : (zl_lb b)[3]? = some (some (.int b)) := rfl
  have e2 : zm_stk k (zm_seq (zT_sw L xs) wl k [(.goto (-2269), 0, 0)] 2287) (.iinc 3 6) 2284 (zl_lb b) [] M = zm_seq (zT_sw L xs) wl k [(.goto (-2269), 0, 0)] 2287 (zl_lb (b + Int32.ofInt 6)) [] M := by
    unfold zm_stk
    simp only [h3]
    rfl
  have e4 : zm_tg 2287 (-2269) = 18 := by decide
  rw [e1, e2]
  show k (zm_tg 2287 (-2269), zl_lb (b + Int32.ofInt 6), [], M) = _
  rw [e4]
set_option maxRecDepth 20000 in
theorem zl_ee (L : Nat) (xs : Nat → Int32) (b : Int32) (wl : zm_L) (M : zm_I) (k : zm_S → zm_R) : zm_step (zT_sw L xs) wl k (2290, zl_lb b, [], M) = k (zp_end + 1, zl_lb b, [.int 1], M) := rfl
theorem zf_dend : decode code (zp_end + 1) = .ok (.ireturn, 1) := by decide +kernel
theorem zf_d1767 : decode code 1767 = .ok (.pop2, 1) := by decide +kernel
theorem zf_d1810 : decode code 1810 = .ok (.pop2, 1) := by decide +kernel
theorem zf_d1787 : decode code 1787 = .ok (.pop2, 1) := by decide +kernel
theorem zf_d1830 : decode code 1830 = .ok (.pop2, 1) := by decide +kernel
