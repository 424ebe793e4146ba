/-! AN ABSTRACT RUN: the operations on numbers -/
def zt_nmA (x y : zt_A) : List zt_N := match zt_cst y with
  | true => zt_sh y.2.1 x.2.2.2.2
  | false => match zt_cst x with
    | true => zt_sh x.2.1 y.2.2.2.2
    | false => []
def zt_add (x y : zt_A) : Option zt_A := some (zt_mkI (x.2.1 + y.2.1) (x.2.2.1 + y.2.2.1) (Nat.gcd x.2.2.2.1 y.2.2.2.1) (zt_nmA x y))
def zt_ladd (x y : zt_A) : zt_A := match Nat.beq x.1 1 && Nat.beq y.1 1 with
  | true => zt_mkL (x.2.1 + y.2.1) (x.2.2.1 + y.2.2.1) (Nat.gcd x.2.2.2.1 y.2.2.2.1) (zt_nmA x y)
  | false => zt_ltop
def zt_sub (x y : zt_A) : Option zt_A := match zt_cst y with
  | true => some (zt_mkI (x.2.1 - y.2.1) (x.2.2.1 - y.2.1) x.2.2.2.1 (zt_sh (-y.2.1) x.2.2.2.2))
  | false => some (zt_mkI (x.2.1 - y.2.2.1) (x.2.2.1 - y.2.1) 1 [])
def zt_lsub (x y : zt_A) : zt_A := match Nat.beq x.1 1 && Nat.beq y.1 1 with
  | true => match zt_cst y with
    | true => zt_mkL (x.2.1 - y.2.1) (x.2.2.1 - y.2.1) x.2.2.2.1 (zt_sh (-y.2.1) x.2.2.2.2)
    | false => zt_mkL (x.2.1 - y.2.2.1) (x.2.2.1 - y.2.1) 1 []
  | false => zt_ltop
def zt_mulc (x : zt_A) (c : Int) : zt_A := zt_mkI (x.2.1 * c) (x.2.2.1 * c) (x.2.2.2.1 * c.toNat) []
def zt_mul (x y : zt_A) : Option zt_A := match zt_cst y && zt_le (.ofNat 0) y.2.1 with
  | true => some (zt_mulc x y.2.1)
  | false => match zt_cst x && zt_le (.ofNat 0) x.2.1 with
    | true => some (zt_mulc y x.2.1)
    | false => match zt_le (.ofNat 0) x.2.1 && zt_le (.ofNat 0) y.2.1 with
      | true => some (zt_mkI (x.2.1 * y.2.1) (x.2.2.1 * y.2.2.1) 1 [])
      | false => some zt_top
def zt_and (x y : zt_A) : Option zt_A := match zt_le (.ofNat 0) x.2.1 with
  | true => match zt_le (.ofNat 0) y.2.1 with
    | true => some (0, .ofNat 0, zt_min x.2.2.1 y.2.2.1, 1, [])
    | false => some (0, .ofNat 0, x.2.2.1, 1, [])
  | false => match zt_le (.ofNat 0) y.2.1 with
    | true => some (0, .ofNat 0, y.2.2.1, 1, [])
    | false => some zt_top
def zt_any (_ _ : zt_A) : Option zt_A := some zt_top
def zt_lany (_ _ : zt_A) : zt_A := zt_ltop
def zt_div (x y : zt_A) : Option zt_A := match zt_le (.ofNat 1) y.2.1 && zt_le (.ofNat 0) x.2.1 with
  | true => some (0, .ofNat 0, .ofNat (x.2.2.1.toNat / y.2.1.toNat), 1, [])
  | false => match zt_nz y with
    | true => some zt_top
    | false => none
def zt_rem (x y : zt_A) : Option zt_A := match zt_le (.ofNat 1) y.2.1 with
  | true => match zt_le (.ofNat 0) x.2.1 with
    | true => some (0, .ofNat 0, zt_min (y.2.2.1 - 1) x.2.2.1, 1, [])
    | false => some (0, 1 - y.2.2.1, y.2.2.1 - 1, 1, [])
  | false => match zt_nz y with
    | true => some zt_top
    | false => none
def zt_mx (x y : zt_A) : Option zt_A := some (0, zt_max x.2.1 y.2.1, zt_max x.2.2.1 y.2.2.1, 1, [])
def zt_mn (x y : zt_A) : Option zt_A := some (0, zt_min x.2.1 y.2.1, zt_min x.2.2.1 y.2.2.1, 1, [])
def zt_abs (x : zt_A) : zt_A := match zt_le (.ofNat 0) x.2.1 with
  | true => zt_nn x []
  | false => zt_mkI (.ofNat 0) (zt_max x.2.2.1 (-x.2.1)) 1 []
def zt_neg (x : zt_A) : zt_A := zt_mkI (-x.2.2.1) (-x.2.1) 1 []
def zt_i2b (x : zt_A) : zt_A := match zt_le (.negSucc 127) x.2.1 && zt_le x.2.2.1 (.ofNat 127) with
  | true => x
  | false => (0, .negSucc 127, .ofNat 127, 1, [])
def zt_i2s (x : zt_A) : zt_A := match zt_le (.negSucc 32767) x.2.1 && zt_le x.2.2.1 (.ofNat 32767) with
  | true => x
  | false => (0, .negSucc 32767, .ofNat 32767, 1, [])
theorem zt_cst_ok {a : zt_A} {z : Int} (h : zt_cst a = true) (hr : zt_rg a z) : z = a.2.1 ∧ z = a.2.2.1 := by
  have h := zt_eq_ok.mp h
  have := hr.1
  have := hr.2.1
  omega
theorem zt_one_dvd (z : Int) : ((1 : Nat) : Int) ∣ z := ⟨z, (Int.one_mul z).symm⟩
section ZTO
variable {ls : List (Option Value)} {M : zm_I} {s : Nat → Int} {x y : zt_A} {X Y : Int}
theorem zt_nmA_ok (hx : zt_rg x X) (hxn : zt_nms ls M s x.2.2.2.2 X) (hy : zt_rg y Y) (hyn : zt_nms ls M s y.2.2.2.2 Y) : zt_nms ls M s (zt_nmA x y) (X + Y) := by
  unfold zt_nmA
  split
  · next h => rw [(zt_cst_ok h hy).1]; exact zt_sh_ok hxn
  · split
    · next h => rw [(zt_cst_ok h hx).1, Int.add_comm]; exact zt_sh_ok hyn
    · exact zt_nms_nil _
theorem zt_gcd_ok (hx : zt_rg x X) (hy : zt_rg y Y) : ((Nat.gcd x.2.2.2.1 y.2.2.2.1 : Nat) : Int) ∣ X + Y - (x.2.1 + y.2.1) := by
  have h1 : ((Nat.gcd x.2.2.2.1 y.2.2.2.1 : Nat) : Int) ∣ X - x.2.1 := Int.dvd_trans (Int.natCast_dvd_natCast.mpr (Nat.gcd_dvd_left _ _)) hx.2.2
  have h2 : ((Nat.gcd x.2.2.2.1 y.2.2.2.1 : Nat) : Int) ∣ Y - y.2.1 := Int.dvd_trans (Int.natCast_dvd_natCast.mpr (Nat.gcd_dvd_right _ _)) hy.2.2
  have h3 := Int.dvd_add h1 h2
  have e : X - x.2.1 + (Y - y.2.1) = X + Y - (x.2.1 + y.2.1) := by omega
  rw [e] at h3
  exact h3
end ZTO
theorem zt_add_ok : zt_ok2 zt_add (fun x y => x + y) := by
  intro ls M s x y a X Y h hx hxn hy hyn
  cases h
  have := hx.1
  have := hx.2.1
  have := hy.1
  have := hy.2.1
  exact zt_v_mkI (Int32.toInt_add X Y) (by omega) (by omega) (zt_gcd_ok hx hy) (zt_nmA_ok hx hxn hy hyn)
theorem zt_ladd_ok : zt_okl zt_ladd (fun x y => x + y) := by
  intro ls M s x y X Y hkx hky hvx hvy
  unfold zt_ladd
  split
  · next hk =>
    simp only [Bool.and_eq_true] at hk
    obtain ⟨X', e1, hx, hxn⟩ := zt_v_long hvx (Nat.eq_of_beq_eq_true hk.1)
    obtain ⟨Y', e2, hy, hyn⟩ := zt_v_long hvy (Nat.eq_of_beq_eq_true hk.2)
    cases e1
    cases e2
    have := hx.1
    have := hx.2.1
    have := hy.1
    have := hy.2.1
    exact zt_v_mkL (Int64.toInt_add X Y) (by omega) (by omega) (zt_gcd_ok hx hy) (zt_nmA_ok hx hxn hy hyn)
  · exact zt_v_ltop _
theorem zt_dvd_sub {d : Nat} {X lo c : Int} (h : (d : Int) ∣ X - lo) : (d : Int) ∣ (X - c) - (lo - c) := by
  have e : (X - c) - (lo - c) = X - lo := by omega
  rw [e]
  exact h
theorem zt_sub_ok : zt_ok2 zt_sub (fun x y => x - y) := by
  intro ls M s x y a X Y h hx hxn hy hyn
  have := hx.1
  have := hx.2.1
  have := hy.1
  have := hy.2.1
  unfold zt_sub at h
  split at h
  · next hc =>
    cases h
    have e := (zt_cst_ok hc hy).1
    have e2 : X.toInt + -y.2.1 = X.toInt - Y.toInt := by omega
    refine zt_v_mkI (Int32.toInt_sub X Y) (by omega) (by omega) ?_ (by rw [← e2]; exact zt_sh_ok hxn)
    rw [e]
    exact zt_dvd_sub hx.2.2
  · cases h
    exact zt_v_mkI (Int32.toInt_sub X Y) (by omega) (by omega) (zt_one_dvd _) (zt_nms_nil _)
theorem zt_lsub_ok : zt_okl zt_lsub (fun x y => x - y) := by
  intro ls M s x y X Y hkx hky hvx hvy
  unfold zt_lsub
  split
  · next hk =>
    simp only [Bool.and_eq_true] at hk
    obtain ⟨X', e1, hx, hxn⟩ := zt_v_long hvx (Nat.eq_of_beq_eq_true hk.1)
    obtain ⟨Y', e2, hy, hyn⟩ := zt_v_long hvy (Nat.eq_of_beq_eq_true hk.2)
    cases e1
    cases e2
    have := hx.1
    have := hx.2.1
    have := hy.1
    have := hy.2.1
    split
    · next hc =>
      have e := (zt_cst_ok hc hy).1
      have e2 : X.toInt + -y.2.1 = X.toInt - Y.toInt := by omega
      refine zt_v_mkL (Int64.toInt_sub X Y) (by omega) (by omega) ?_ (by rw [← e2]; exact zt_sh_ok hxn)
      rw [e]
      exact zt_dvd_sub hx.2.2
    · exact zt_v_mkL (Int64.toInt_sub X Y) (by omega) (by omega) (zt_one_dvd _) (zt_nms_nil _)
  · exact zt_v_ltop _
theorem zt_mulc_ok {ls : List (Option Value)} {M : zm_I} {s : Nat → Int} {x : zt_A} {Z : Int32} {X c : Int} (hc : 0 ≤ c) (hx : zt_rg x X) (hZ : Z.toInt = (X * c).bmod (2 ^ 32)) : zt_v ls M s (zt_mulc x c) (.int Z) := by
  refine zt_v_mkI hZ (Int.mul_le_mul_of_nonneg_right hx.1 hc) (Int.mul_le_mul_of_nonneg_right hx.2.1 hc) ?_ (zt_nms_nil _)
  obtain ⟨q, hq⟩ := hx.2.2
  refine ⟨q, ?_⟩
  have e : ((x.2.2.2.1 * c.toNat : Nat) : Int) = (x.2.2.2.1 : Int) * c := by
    rw [Int.natCast_mul, Int.toNat_of_nonneg hc]
  rw [e, ← Int.sub_mul, hq, Int.mul_assoc, Int.mul_assoc, Int.mul_comm q c]
theorem zt_mul_ok : zt_ok2 zt_mul (fun x y => x * y) := by
  intro ls M s x y a X Y h hx hxn hy hyn
  unfold zt_mul at h
  split at h
  · next hc =>
    cases h
    simp only [Bool.and_eq_true, zt_le_ok] at hc
    have e := (zt_cst_ok hc.1 hy).1
    exact zt_mulc_ok hc.2 hx (by rw [← e]; exact Int32.toInt_mul X Y)
  · split at h
    · next hc =>
      cases h
      simp only [Bool.and_eq_true, zt_le_ok] at hc
      have e := (zt_cst_ok hc.1 hx).1
      exact zt_mulc_ok hc.2 hy (by rw [← e, Int.mul_comm]; exact Int32.toInt_mul X Y)
    · split at h
      · next hc =>
        cases h
        simp only [Bool.and_eq_true, zt_le_ok] at hc
        have h1 : 0 ≤ x.2.1 := hc.1
        have h2 : 0 ≤ y.2.1 := hc.2
        have := hx.1
        have := hx.2.1
        have := hy.1
        have := hy.2.1
        exact zt_v_mkI (Int32.toInt_mul X Y) (Int.mul_le_mul hx.1 hy.1 h2 (by omega)) (Int.mul_le_mul hx.2.1 hy.2.1 (by omega) (by omega)) (zt_one_dvd _) (zt_nms_nil _)
      · cases h
        exact zt_v_top _
theorem zt_and_nn (X Y : Int32) (h : 0 ≤ Y.toInt) : 0 ≤ (X &&& Y).toInt ∧ (X &&& Y).toInt ≤ Y.toInt := by
  have e1 : (X &&& Y).toInt = (X.toBitVec &&& Y.toBitVec).toInt := rfl
  have e2 : Y.toInt = Y.toBitVec.toInt := rfl
  rw [e2] at h
  have hm : Y.toBitVec.msb = false := by
    cases hq : Y.toBitVec.msb with
    | false => rfl
    | true =>
      have := BitVec.toInt_neg_of_msb_true hq
      omega
  have hm2 : (X.toBitVec &&& Y.toBitVec).msb = false := by rw [BitVec.msb_and, hm, Bool.and_false]
  rw [e1, e2, BitVec.toInt_eq_toNat_of_msb hm2, BitVec.toInt_eq_toNat_of_msb hm, BitVec.toNat_and]
  have := Nat.and_le_right (n := X.toBitVec.toNat) (m := Y.toBitVec.toNat)
  omega
theorem zt_and_ok : zt_ok2 zt_and (fun x y => x &&& y) := by
  intro ls M s x y a X Y h hx hxn hy hyn
  have hx1 := hx.1
  have hx2 := hx.2.1
  have hy1 := hy.1
  have hy2 := hy.2.1
  have e0 : (Int.ofNat 0) = 0 := rfl
  unfold zt_and at h
  split at h
  · next h1 =>
    have h1 := zt_le_ok.mp h1
    have c1 := zt_and_nn Y X (by omega)
    rw [show Y &&& X = X &&& Y from Int32.and_comm Y X] at c1
    split at h
    · next h2 =>
      have h2 := zt_le_ok.mp h2
      have c2 := zt_and_nn X Y (by omega)
      cases h
      exact ⟨X &&& Y, rfl, ⟨by show (Int.ofNat 0) ≤ _; omega, by show _ ≤ zt_min _ _; rw [zt_min_o]; omega, zt_one_dvd _⟩, zt_nms_nil _⟩
    · cases h
      exact ⟨X &&& Y, rfl, ⟨by show (Int.ofNat 0) ≤ _; omega, by show _ ≤ x.2.2.1; omega, zt_one_dvd _⟩, zt_nms_nil _⟩
  · split at h
    · next h2 =>
      have h2 := zt_le_ok.mp h2
      have c2 := zt_and_nn X Y (by omega)
      cases h
      exact ⟨X &&& Y, rfl, ⟨by show (Int.ofNat 0) ≤ _; omega, by show _ ≤ y.2.2.1; omega, zt_one_dvd _⟩, zt_nms_nil _⟩
    · cases h
      exact zt_v_top _
def zt_shl (x y : zt_A) : Option zt_A := match zt_cst x && zt_eq x.2.1 (.ofNat 1) && zt_le (.ofNat 0) y.2.1 && zt_le y.2.2.1 (.ofNat 30) with
  | true => some (0, .ofNat 1, .ofNat (2 ^ y.2.2.1.toNat), 1, [])
  | false => some zt_top
theorem zt_shl_30 : ∀ k : Nat, k < 31 → ((1 : Int32) <<< (Int32.ofInt (Int.ofNat k) &&& 31)).toInt = Int.ofNat (2 ^ k) := by decide +kernel
theorem zt_shl_ok : zt_ok2 zt_shl (fun x y => x <<< (y &&& 31)) := by
  intro ls M s x y a X Y h hx _ hy _
  unfold zt_shl at h
  split at h
  · next hb =>
    cases h
    simp only [Bool.and_eq_true, zt_le_ok, zt_eq_ok, zt_cst, Int.ofNat_eq_natCast] at hb
    obtain ⟨⟨⟨b1, b2⟩, b3⟩, b4⟩ := hb
    have hX : X.toInt = 1 := by have := hx.1; have := hx.2.1; omega
    have eX : X = 1 := by rw [← Int32.ofInt_toInt X, hX]; rfl
    have h1 := hy.1
    have h2 := hy.2.1
    obtain ⟨k, hk⟩ : ∃ k : Nat, Y.toInt = Int.ofNat k := ⟨Y.toInt.toNat, by rw [Int.ofNat_eq_natCast]; omega⟩
    have ek : Int.ofNat k = (k : Int) := rfl
    have eY : Y = Int32.ofInt (Int.ofNat k) := by rw [← hk, Int32.ofInt_toInt]
    have hk31 : k < 31 := by omega
    have hz := zt_shl_30 k hk31
    subst eX
    have hv : ((1 : Int32) <<< (Y &&& 31)).toInt = Int.ofNat (2 ^ k) := by rw [eY]; exact hz
    refine ⟨_, rfl, ⟨?_, ?_, ⟨_, (Int.one_mul _).symm⟩⟩, zt_nms_nil _⟩
    · rw [hv]; exact Int.ofNat_le.mpr (Nat.one_le_two_pow)
    · rw [hv]; exact Int.ofNat_le.mpr (Nat.pow_le_pow_right (by decide) (by omega))
  · cases h; exact zt_v_top _
theorem zt_any_ok (g : Int32 → Int32 → Int32) : zt_ok2 zt_any g := by
  intro ls M s x y a X Y h hx hxn hy hyn
  cases h
  exact zt_v_top _
theorem zt_lany_ok (g : Int64 → Int64 → Int64) : zt_okl zt_lany g := fun ls M s x y X Y _ _ _ _ => zt_v_ltop _
theorem zt_div_ok : zt_ok2z zt_div (fun x y => x / y) := by
  intro ls M s x y a X Y h hx hy
  have hx1 := hx.1
  have hx2 := hx.2.1
  have hy1 := hy.1
  have hy2 := hy.2.1
  have e0 : (Int.ofNat 0) = 0 := rfl
  have e1 : (Int.ofNat 1) = 1 := rfl
  unfold zt_div at h
  split at h
  · next hc =>
    simp only [Bool.and_eq_true, zt_le_ok] at hc
    cases h
    refine ⟨by omega, _, rfl, ?_, zt_nms_nil _⟩
    have hY : Y ≠ -1 := fun e => by rw [e] at hy1; have : (-1 : Int32).toInt = -1 := by decide
                                    omega
    rw [Int32.toInt_div_of_ne_right X Y hY]
    have h1 : 0 ≤ X.toInt := by omega
    have h2 : 0 ≤ Y.toInt := by omega
    rw [Int.tdiv_eq_ediv_of_nonneg h1]
    refine ⟨by show (Int.ofNat 0) ≤ _; rw [e0]; exact Int.ediv_nonneg h1 h2, ?_, zt_one_dvd _⟩
    show _ ≤ Int.ofNat (x.2.2.1.toNat / y.2.1.toNat)
    obtain ⟨n, hn⟩ := Int.eq_ofNat_of_zero_le h1
    obtain ⟨m, hm⟩ := Int.eq_ofNat_of_zero_le h2
    rw [hn, hm]
    have g1 : n ≤ x.2.2.1.toNat := by omega
    have g2 : y.2.1.toNat ≤ m := by omega
    have g3 : 0 < y.2.1.toNat := by omega
    exact Int.ofNat_le.mpr (Nat.le_trans (Nat.div_le_div_right g1) (Nat.div_le_div_left g2 g3))
  · split at h
    · next hz => cases h; exact ⟨zt_nz_ok hz hy, zt_v_top _⟩
    · cases h
theorem zt_rem_eq (X Y : Int32) (h : Y.toInt ≠ -1) : (X - X / Y * Y).toInt = X.toInt.tmod Y.toInt := by
  have hY : Y ≠ -1 := fun e => h (by rw [e]; decide)
  have e1 : X - X / Y * Y = X % Y := by
    apply Int32.toInt_inj.mp
    rw [Int32.toInt_mod, Int32.toInt_sub, Int32.toInt_mul, Int32.toInt_div_of_ne_right X Y hY]
    have h1 : X.toInt - X.toInt.tdiv Y.toInt * Y.toInt = X.toInt.tmod Y.toInt := by
      have := Int.tmod_add_tdiv_mul X.toInt Y.toInt
      omega
    have h2 : (X.toInt - (X.toInt.tdiv Y.toInt * Y.toInt).bmod (2 ^ 32)).bmod (2 ^ 32) = (X.toInt - X.toInt.tdiv Y.toInt * Y.toInt).bmod (2 ^ 32) := by
      rw [Int.sub_bmod_bmod]
    rw [h2, h1]
    have h3 : (X % Y).toInt = X.toInt.tmod Y.toInt := Int32.toInt_mod X Y
    rw [← h3]
    exact zt_bmI (zt_rgI _).1 (zt_rgI _).2
  rw [e1, Int32.toInt_mod]
theorem zt_rem_ok : zt_ok2z zt_rem (fun x y => x - x / y * y) := by
  intro ls M s x y a X Y h hx hy
  have hx1 := hx.1
  have hx2 := hx.2.1
  have hy1 := hy.1
  have hy2 := hy.2.1
  have e0 : (Int.ofNat 0) = 0 := rfl
  have e1 : (Int.ofNat 1) = 1 := rfl
  unfold zt_rem at h
  split at h
  · next hc =>
    have hc := zt_le_ok.mp hc
    have h2 : 0 < Y.toInt := by omega
    have e := zt_rem_eq X Y (by omega)
    have hlt := Int.tmod_lt_of_pos X.toInt h2
    split at h
    · next h0 =>
      have h0 := zt_le_ok.mp h0
      cases h
      refine ⟨by omega, _, rfl, ?_, zt_nms_nil _⟩
      show zt_rg _ (X - X / Y * Y).toInt
      rw [e]
      have g1 : 0 ≤ X.toInt.tmod Y.toInt := Int.tmod_nonneg _ (by omega)
      have g2 : X.toInt.tmod Y.toInt ≤ X.toInt := by
        rw [Int.tmod_eq_emod_of_nonneg (by omega)]
        obtain ⟨n, hn⟩ := Int.eq_ofNat_of_zero_le (show 0 ≤ X.toInt by omega)
        obtain ⟨m, hm⟩ := Int.eq_ofNat_of_zero_le (show 0 ≤ Y.toInt by omega)
        rw [hn, hm]
        exact Int.ofNat_le.mpr (Nat.mod_le n m)
      exact ⟨by show (Int.ofNat 0) ≤ _; omega, by show _ ≤ zt_min _ _; rw [zt_min_o]; omega, zt_one_dvd _⟩
    · cases h
      refine ⟨by omega, _, rfl, ?_, zt_nms_nil _⟩
      show zt_rg _ (X - X / Y * Y).toInt
      rw [e]
      have g1 := Int.lt_tmod_of_pos X.toInt h2
      exact ⟨by show 1 - y.2.2.1 ≤ _; omega, by show _ ≤ y.2.2.1 - 1; omega, zt_one_dvd _⟩
  · split at h
    · next hz => cases h; exact ⟨zt_nz_ok hz hy, zt_v_top _⟩
    · cases h
theorem zt_mx_ok : zt_ok2 zt_mx (fun x y => if x < y then y else x) := by
  intro ls M s x y a X Y h hx hxn hy hyn
  cases h
  have hx1 := hx.1
  have hx2 := hx.2.1
  have hy1 := hy.1
  have hy2 := hy.2.1
  refine ⟨_, rfl, ?_, zt_nms_nil _⟩
  show zt_rg _ (if X < Y then Y else X).toInt
  refine ⟨?_, ?_, zt_one_dvd _⟩
  · show zt_max _ _ ≤ _
    rw [zt_max_o]
    split
    · next hlt => have := Int32.lt_iff_toInt_lt.mp hlt; omega
    · next hlt => have : ¬ X.toInt < Y.toInt := fun e => hlt (Int32.lt_iff_toInt_lt.mpr e); omega
  · show _ ≤ zt_max _ _
    rw [zt_max_o]
    split
    · next hlt => have := Int32.lt_iff_toInt_lt.mp hlt; omega
    · next hlt => have : ¬ X.toInt < Y.toInt := fun e => hlt (Int32.lt_iff_toInt_lt.mpr e); omega
theorem zt_mn_ok : zt_ok2 zt_mn (fun x y => if y < x then y else x) := by
  intro ls M s x y a X Y h hx hxn hy hyn
  cases h
  have hx1 := hx.1
  have hx2 := hx.2.1
  have hy1 := hy.1
  have hy2 := hy.2.1
  refine ⟨_, rfl, ?_, zt_nms_nil _⟩
  show zt_rg _ (if Y < X then Y else X).toInt
  refine ⟨?_, ?_, zt_one_dvd _⟩
  · show zt_min _ _ ≤ _
    rw [zt_min_o]
    split
    · next hlt => have := Int32.lt_iff_toInt_lt.mp hlt; omega
    · next hlt => have : ¬ Y.toInt < X.toInt := fun e => hlt (Int32.lt_iff_toInt_lt.mpr e); omega
  · show _ ≤ zt_min _ _
    rw [zt_min_o]
    split
    · next hlt => have := Int32.lt_iff_toInt_lt.mp hlt; omega
    · next hlt => have : ¬ Y.toInt < X.toInt := fun e => hlt (Int32.lt_iff_toInt_lt.mpr e); omega
theorem zt_abs_ok : zt_ok1 zt_abs (fun x => if 0 ≤ x then x else 0 - x) := by
  intro ls M s x X hk hx hxn
  have hx1 := hx.1
  have hx2 := hx.2.1
  have e0 : (Int.ofNat 0) = 0 := rfl
  have z0 : (0 : Int32).toInt = 0 := by decide
  unfold zt_abs
  dsimp only
  split
  · next h0 =>
    have h0 := zt_le_ok.mp h0
    rw [if_pos (Int32.le_iff_toInt_le.mpr (by omega))]
    obtain ⟨kd, lo, hi, sd, ms⟩ := x
    dsimp only at hk
    subst hk
    exact ⟨X, rfl, hx, zt_nms_nil _⟩
  · next h0 =>
    split
    · next hp =>
      have hp := Int32.le_iff_toInt_le.mp hp
      exact zt_v_mkI (z := X.toInt) (zt_bmI (zt_rgI X).1 (zt_rgI X).2).symm (by omega) (by rw [zt_max_o]; omega) (zt_one_dvd _) (zt_nms_nil _)
    · next hp =>
      have hp : ¬ (0 : Int32).toInt ≤ X.toInt := fun e => hp (Int32.le_iff_toInt_le.mpr e)
      refine zt_v_mkI (z := -X.toInt) ?_ (by omega) (by rw [zt_max_o]; omega) (zt_one_dvd _) (zt_nms_nil _)
      rw [Int32.toInt_sub, z0, Int.zero_sub]
theorem zt_neg_ok : zt_ok1 zt_neg (fun x => -x) := by
  intro ls M s x X hk hx hxn
  have hx1 := hx.1
  have hx2 := hx.2.1
  exact zt_v_mkI (Int32.toInt_neg X) (by omega) (by omega) (zt_one_dvd _) (zt_nms_nil _)
theorem zt_i2b_ok : zt_ok1 zt_i2b (fun x => x.toInt8.toInt32) := by
  intro ls M s x X hk hx hxn
  have hx1 := hx.1
  have hx2 := hx.2.1
  have e : (X.toInt8.toInt32).toInt = X.toInt.bmod (2 ^ 8) := by rw [Int8.toInt_toInt32, Int32.toInt_toInt8]
  unfold zt_i2b
  dsimp only
  split
  · next hc =>
    simp only [Bool.and_eq_true, zt_le_ok] at hc
    have e1 : (Int.negSucc 127) = -128 := rfl
    have e2 : (Int.ofNat 127) = 127 := rfl
    have e3 : (X.toInt8.toInt32).toInt = X.toInt := by rw [e]; exact Int.bmod_eq_of_le (by omega) (by omega)
    have e4 : X.toInt8.toInt32 = X := Int32.toInt_inj.mp e3
    rw [e4]
    obtain ⟨kd, lo, hi, sd, ms⟩ := x
    dsimp only at hk
    subst hk
    exact ⟨X, rfl, hx, hxn⟩
  · refine ⟨_, rfl, ⟨?_, ?_, zt_one_dvd _⟩, zt_nms_nil _⟩
    · rw [e]
      have := Int.le_bmod (x := X.toInt) (m := 2 ^ 8) (by decide)
      show Int.negSucc 127 ≤ _
      have e1 : (Int.negSucc 127) = -128 := rfl
      omega
    · rw [e]
      have := Int.bmod_lt (x := X.toInt) (m := 2 ^ 8) (by decide)
      show _ ≤ Int.ofNat 127
      have e2 : (Int.ofNat 127) = 127 := rfl
      omega
theorem zt_i2s_ok : zt_ok1 zt_i2s (fun x => x.toInt16.toInt32) := by
  intro ls M s x X hk hx hxn
  have hx1 := hx.1
  have hx2 := hx.2.1
  have e : (X.toInt16.toInt32).toInt = X.toInt.bmod (2 ^ 16) := by rw [Int16.toInt_toInt32, Int32.toInt_toInt16]
  unfold zt_i2s
  dsimp only
  split
  · next hc =>
    simp only [Bool.and_eq_true, zt_le_ok] at hc
    have e1 : (Int.negSucc 32767) = -32768 := rfl
    have e2 : (Int.ofNat 32767) = 32767 := rfl
    have e3 : (X.toInt16.toInt32).toInt = X.toInt := by rw [e]; exact Int.bmod_eq_of_le (by omega) (by omega)
    have e4 : X.toInt16.toInt32 = X := Int32.toInt_inj.mp e3
    rw [e4]
    obtain ⟨kd, lo, hi, sd, ms⟩ := x
    dsimp only at hk
    subst hk
    exact ⟨X, rfl, hx, hxn⟩
  · refine ⟨_, rfl, ⟨?_, ?_, zt_one_dvd _⟩, zt_nms_nil _⟩
    · rw [e]
      have := Int.le_bmod (x := X.toInt) (m := 2 ^ 16) (by decide)
      show Int.negSucc 32767 ≤ _
      have e1 : (Int.negSucc 32767) = -32768 := rfl
      omega
    · rw [e]
      have := Int.bmod_lt (x := X.toInt) (m := 2 ^ 16) (by decide)
      show _ ≤ Int.ofNat 32767
      have e2 : (Int.ofNat 32767) = 32767 := rfl
      omega
