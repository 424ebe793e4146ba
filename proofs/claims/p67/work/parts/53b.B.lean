/-! THE CLASS'S TAPE, exactly -/
def zpX (T : Nat → Int) (n k s e : Nat) (f p : Int32) (I : Nat → Nat → Int32) : Prop := I 0 1 = Int32.ofNat n ∧ (∀ i, i < n → (I 1 i).toInt = T i) ∧ I 0 4 = Int32.ofNat k ∧ I 0 5 = Int32.ofNat s ∧ I 0 6 = Int32.ofNat e ∧ I 0 2 = f ∧ I 0 3 = p
theorem zp_o {i : Nat} (h : i ≤ 1000) : (Int32.ofNat i).toInt = i := zh_of (by omega)
theorem zp_o1 {i : Nat} (h : i ≤ 1000) : Int32.ofNat i + 1 = Int32.ofNat (i + 1) := Int32.toInt_inj.mp (by rw [ze_add (by rw [zp_o h, ze_i1]; omega) (by rw [zp_o h, ze_i1]; omega), zp_o h, ze_i1, zh_of (by omega)]; omega)
theorem zp_cl {i : Nat} (h : i ≤ 1000) : Int32.toNatClampNeg (Int32.ofNat i) = i := zh_cl (zp_o h)
theorem zp_in {i m : Nat} (h : i ≤ 1000) (h2 : i < m) : ¬ ((Int32.ofNat i : Int32) < 0 ∨ m ≤ Int32.toNatClampNeg (Int32.ofNat i)) := zh_in (by rw [zp_o h]; omega) (by rw [zp_o h]; omega)
theorem zp_le {i j : Nat} (h : i ≤ 1000) (h2 : j ≤ 1000) : ((Int32.ofNat i : Int32) ≤ Int32.ofNat j) ↔ i ≤ j := by
  rw [ze_le, zp_o h, zp_o h2]
  omega
theorem zp_ne {i j : Nat} (h : i ≤ 1000) (h2 : j ≤ 1000) (hn : i ≠ j) : ¬ (Int32.ofNat i : Int32) = Int32.ofNat j := fun e => by
  have := congrArg Int32.toInt e
  rw [zp_o h, zp_o h2] at this
  omega
section ZPB
variable {T : Nat → Int} {n k s e : Nat} {f p : Int32} {I : Nat → Nat → Int32} {J : Nat → Nat → Int64}
theorem zp_blX (b : Int32) : zF_X8_isBlank zW_TB [.int b] (I, J) = some (some (.int (if b.toInt = 32 ∨ b.toInt = 10 then 1 else 0)), (I, J)) := by
  rw [zf_X8_isBlank_TB, zq_X8_isBlank_TB_0]
  by_cases h1 : b = 32
  · rw [if_pos h1, zq_X8_isBlank_TB_12, zq_X8_isBlank_TB_17, if_pos (Or.inr rfl), if_pos (Or.inl (by rw [h1]; decide))]
  · rw [if_neg h1, zq_X8_isBlank_TB_6]
    by_cases h2 : b = 10
    · rw [if_pos h2, zq_X8_isBlank_TB_12, zq_X8_isBlank_TB_17, if_pos (Or.inr rfl), if_pos (Or.inr (by rw [h2]; decide))]
    · rw [if_neg h2, zq_X8_isBlank_TB_16, zq_X8_isBlank_TB_17, if_pos (Or.inl rfl), if_neg (fun z => z.elim (fun q => h1 (Int32.toInt_inj.mp (q.trans (by decide)))) (fun q => h2 (Int32.toInt_inj.mp (q.trans (by decide)))))]
theorem zp_c97 : (97 : Int32).toInt = 97 := by decide
theorem zp_c122 : (122 : Int32).toInt = 122 := by decide
theorem zp_c48 : (48 : Int32).toInt = 48 := by decide
theorem zp_c57 : (57 : Int32).toInt = 57 := by decide
theorem zp_c59 : (59 : Int32).toInt = 59 := by decide
theorem zp_kd28 (b : Int32) : zv_X8_kindOf_TB_28 I J b = some (some (.int (Int32.ofNat (if b.toInt = 59 then 3 else 4))), (I, J)) := by
  rw [zq_X8_kindOf_TB_28]
  by_cases h : b = 59
  · rw [if_pos h, zq_X8_kindOf_TB_34, zq_X8_kindOf_TB_39, if_pos (by rw [h]; decide)]
    rfl
  · rw [if_neg h, zq_X8_kindOf_TB_38, zq_X8_kindOf_TB_39, if_neg (fun q => h (Int32.toInt_inj.mp (q.trans (by decide))))]
    rfl
theorem zp_kd14 (b : Int32) : zv_X8_kindOf_TB_14 I J b = some (some (.int (Int32.ofNat (if 48 ≤ b.toInt ∧ b.toInt ≤ 57 then 2 else if b.toInt = 59 then 3 else 4))), (I, J)) := by
  rw [zq_X8_kindOf_TB_14]
  by_cases h : b < 48
  · rw [if_pos h, zp_kd28]
    rw [ze_lt, zp_c48] at h
    rw [if_neg (show ¬ (48 ≤ b.toInt ∧ b.toInt ≤ 57) by omega)]
  · rw [if_neg h, zq_X8_kindOf_TB_20]
    rw [ze_lt, zp_c48] at h
    by_cases h2 : 57 < b
    · rw [if_pos h2, zp_kd28]
      rw [ze_lt, zp_c57] at h2
      rw [if_neg (show ¬ (48 ≤ b.toInt ∧ b.toInt ≤ 57) by omega)]
    · rw [if_neg h2, zq_X8_kindOf_TB_26]
      rw [ze_lt, zp_c57] at h2
      rw [if_pos (show 48 ≤ b.toInt ∧ b.toInt ≤ 57 by omega)]
      rfl
theorem zp_kdX (b : Int32) : zF_X8_kindOf zW_TB [.int b] (I, J) = some (some (.int (Int32.ofNat (zp_kd b.toInt))), (I, J)) := by
  unfold zp_kd
  rw [zf_X8_kindOf_TB, zq_X8_kindOf_TB_0]
  by_cases h : b < 97
  · rw [if_pos h, zp_kd14]
    rw [ze_lt, zp_c97] at h
    rw [if_neg (show ¬ (97 ≤ b.toInt ∧ b.toInt ≤ 122) by omega)]
  · rw [if_neg h, zq_X8_kindOf_TB_6]
    rw [ze_lt, zp_c97] at h
    by_cases h2 : 122 < b
    · rw [if_pos h2, zp_kd14]
      rw [ze_lt, zp_c122] at h2
      rw [if_neg (show ¬ (97 ≤ b.toInt ∧ b.toInt ≤ 122) by omega)]
    · rw [if_neg h2, zq_X8_kindOf_TB_12]
      rw [ze_lt, zp_c122] at h2
      rw [if_pos (show 97 ≤ b.toInt ∧ b.toInt ≤ 122 by omega)]
      rfl
theorem zp_grX (hk : I 0 4 = Int32.ofNat k) (h4 : k ≤ 4) : zF_X8_growsOn zW_TB [.ref 0] (I, J) = some (some (.int (if k = 1 ∨ k = 2 then 1 else 0)), (I, J)) := by
  rw [zf_X8_growsOn_TB, zq_X8_growsOn_TB_0, hk]
  by_cases h1 : k = 1
  · subst h1
    rw [if_pos (show (Int32.ofNat 1 : Int32) = 1 from rfl), zq_X8_growsOn_TB_16, zq_X8_growsOn_TB_21, if_pos (Or.inr rfl)]
    rfl
  · rw [if_neg (show ¬ (Int32.ofNat k : Int32) = 1 from zp_ne (j := 1) (by omega) (by omega) h1), zq_X8_growsOn_TB_8, hk]
    by_cases h2 : k = 2
    · subst h2
      rw [if_pos (show (Int32.ofNat 2 : Int32) = 2 from rfl), zq_X8_growsOn_TB_16, zq_X8_growsOn_TB_21, if_pos (Or.inr rfl)]
      rfl
    · rw [if_neg (show ¬ (Int32.ofNat k : Int32) = 2 from zp_ne (j := 2) (by omega) (by omega) h2), zq_X8_growsOn_TB_20, zq_X8_growsOn_TB_21, if_pos (Or.inl rfl), if_neg (fun z => z.elim h1 h2)]
theorem zp_ad5 (h1 : I 0 1 = Int32.ofNat n) (hT : ∀ i, i < n → (I 1 i).toInt = T i) (hn : n ≤ 800) : ∀ (d i : Nat), n - i ≤ d → i ≤ n → zv_X8_advance_TB_5 I J (Int32.ofNat i) = zv_X8_advance_TB_31 I J (Int32.ofNat (zp_sk T n d i)) := by
  intro d
  induction d with
  | zero =>
    intro i h hi
    rw [zq_X8_advance_TB_5, h1, if_pos ((zp_le (by omega) (by omega)).mpr (by omega)), zp_sk_0]
  | succ d ih =>
    intro i h hi
    rw [zq_X8_advance_TB_5, h1, zp_sk_s]
    by_cases hl : i < n
    · rw [if_neg (fun z => by have := (zp_le (by omega) (by omega)).mp z; omega), zq_X8_advance_TB_13, if_neg (zp_in (by omega) (by omega)), zp_cl (by omega), zc_X8_advance_TB_19 _ _ _ _ (zp_blX _), hT i hl, zq_X8_advance_TB_22]
      by_cases hb : T i = 32 ∨ T i = 10
      · rw [if_pos hb, if_neg (by decide), if_pos ⟨hl, hb⟩, zq_X8_advance_TB_25, zp_o1 (by omega)]
        exact ih (i + 1) (by omega) (by omega)
      · rw [if_neg hb, if_pos rfl, if_neg (fun z => hb z.2)]
    · rw [if_pos ((zp_le (by omega) (by omega)).mpr (by omega)), if_neg (fun z => hl z.1)]
theorem zp_ad65 (h1 : I 0 1 = Int32.ofNat n) (hT : ∀ i, i < n → (I 1 i).toInt = T i) (hn : n ≤ 800) (hk : I 0 4 = Int32.ofNat k) (h4 : k = 1 ∨ k = 2) : ∀ (d i : Nat), n - i ≤ d → i ≤ n → zv_X8_advance_TB_65 I J (Int32.ofNat i) = zv_X8_advance_TB_102 I J (Int32.ofNat (zp_gr T n k d i)) := by
  intro d
  induction d with
  | zero =>
    intro i h hi
    rw [zq_X8_advance_TB_65, h1, if_pos ((zp_le (by omega) (by omega)).mpr (by omega)), zp_gr_0]
  | succ d ih =>
    intro i h hi
    rw [zq_X8_advance_TB_65, h1, zp_gr_s]
    by_cases hl : i < n
    · have kb := zp_kd_b (T i)
      rw [if_neg (fun z => by have := (zp_le (by omega) (by omega)).mp z; omega), zc_X8_advance_TB_73 _ _ _ (zp_grX hk (by omega)), zq_X8_advance_TB_77, if_pos h4, if_neg (by decide), zq_X8_advance_TB_80, if_neg (zp_in (by omega) (by omega)), zp_cl (by omega), zc_X8_advance_TB_86 _ _ _ _ (zp_kdX _), hT i hl, zq_X8_advance_TB_89, hk]
      by_cases hb : zp_kd (T i) = k
      · rw [hb, if_pos rfl, if_pos ⟨hl, rfl⟩, zq_X8_advance_TB_96, zp_o1 (by omega)]
        exact ih (i + 1) (by omega) (by omega)
      · rw [if_neg (zp_ne (by omega) (by omega) hb), if_neg (fun z => hb z.2)]
    · rw [if_pos ((zp_le (by omega) (by omega)).mpr (by omega)), if_neg (fun z => hl z.1)]
theorem zp_advX0 (h1 : I 0 1 = Int32.ofNat n) (hT : ∀ i, i < n → (I 1 i).toInt = T i) (h6 : I 0 6 = Int32.ofNat e) (h2 : I 0 2 = f) (h3 : I 0 3 = p) (hn : n ≤ 800) (he : e ≤ n) : ∃ N, zF_X8_advance zW_TB [.ref 0] (I, J) = some (none, (N, J)) ∧ zpX T n (zp_ki T n (zp_st T n e)) (zp_st T n e) (zp_en T n (zp_st T n e)) f p N ∧ ∀ a b, a ≠ 0 → N a b = I a b := by
  have hs2 := (zp_st_b (T := T) he).2
  rw [zf_X8_advance_TB, zq_X8_advance_TB_0, h6, zp_ad5 h1 hT hn (n - e) e (Nat.le_refl _) he]
  rw [show zp_sk T n (n - e) e = zp_st T n e from rfl]
  generalize zp_st T n e = s at hs2
  have w1 : zm_w (zm_w I 0 5 (Int32.ofNat s)) 0 4 0 0 1 = Int32.ofNat n := by rw [ze_wj (by decide), ze_wj (by decide), h1]
  have wT : ∀ i, i < n → (zm_w (zm_w I 0 5 (Int32.ofNat s)) 0 4 0 1 i).toInt = T i := fun i hi => by rw [ze_wo (by decide), ze_wo (by decide), hT i hi]
  have wo : ∀ a b, a ≠ 0 → zm_w (zm_w I 0 5 (Int32.ofNat s)) 0 4 0 a b = I a b := fun a b ha => by rw [ze_wo ha, ze_wo ha]
  have w5 : zm_w (zm_w I 0 5 (Int32.ofNat s)) 0 4 0 0 5 = Int32.ofNat s := by rw [ze_wj (by decide), ze_wi]
  have w4 : zm_w (zm_w I 0 5 (Int32.ofNat s)) 0 4 0 0 4 = Int32.ofNat 0 := ze_wi
  have w2 : zm_w (zm_w I 0 5 (Int32.ofNat s)) 0 4 0 0 2 = f := by rw [ze_wj (by decide), ze_wj (by decide), h2]
  have w3 : zm_w (zm_w I 0 5 (Int32.ofNat s)) 0 4 0 0 3 = p := by rw [ze_wj (by decide), ze_wj (by decide), h3]
  rw [zq_X8_advance_TB_31, w1]
  generalize zm_w (zm_w I 0 5 (Int32.ofNat s)) 0 4 0 = K at w1 wT wo w5 w4 w2 w3
  unfold zp_ki zp_en
  by_cases hl : s < n
  · rw [if_neg (fun z => by have := (zp_le (by omega) (by omega)).mp z; omega), zq_X8_advance_TB_49, if_neg (zp_in (by omega) (by omega)), zp_cl (by omega), zc_X8_advance_TB_56 _ _ _ _ (zp_kdX _), wT s hl, zq_X8_advance_TB_59, zp_o1 (by omega), if_pos hl, if_pos hl]
    have kb := zp_kd_b (T s)
    generalize zp_kd (T s) = k at kb
    have v1 : zm_w K 0 4 (Int32.ofNat k) 0 1 = Int32.ofNat n := by rw [ze_wj (by decide), w1]
    have vT : ∀ i, i < n → (zm_w K 0 4 (Int32.ofNat k) 1 i).toInt = T i := fun i hi => by rw [ze_wo (by decide), wT i hi]
    have vo : ∀ a b, a ≠ 0 → zm_w K 0 4 (Int32.ofNat k) a b = I a b := fun a b ha => by rw [ze_wo ha, wo a b ha]
    have v5 : zm_w K 0 4 (Int32.ofNat k) 0 5 = Int32.ofNat s := by rw [ze_wj (by decide), w5]
    have v4 : zm_w K 0 4 (Int32.ofNat k) 0 4 = Int32.ofNat k := ze_wi
    have v2 : zm_w K 0 4 (Int32.ofNat k) 0 2 = f := by rw [ze_wj (by decide), w2]
    have v3 : zm_w K 0 4 (Int32.ofNat k) 0 3 = p := by rw [ze_wj (by decide), w3]
    generalize zm_w K 0 4 (Int32.ofNat k) = L at v1 vT vo v5 v4 v2 v3
    by_cases hk : k ≤ 2
    · rw [zp_ad65 v1 vT hn v4 (by omega) (n - (s + 1)) (s + 1) (Nat.le_refl _) (by omega), zq_X8_advance_TB_102, if_pos hk]
      exact ⟨_, rfl, ⟨by rw [ze_wj (by decide), v1], fun i hi => by rw [ze_wo (by decide), vT i hi], by rw [ze_wj (by decide), v4], by rw [ze_wj (by decide), v5], ze_wi, by rw [ze_wj (by decide), v2], by rw [ze_wj (by decide), v3]⟩, fun a b ha => by rw [ze_wo ha, vo a b ha]⟩
    · have e102 : zv_X8_advance_TB_65 L J (Int32.ofNat (s + 1)) = zv_X8_advance_TB_102 L J (Int32.ofNat (s + 1)) := by
        rw [zq_X8_advance_TB_65]
        split
        · rfl
        · rw [zc_X8_advance_TB_73 _ _ _ (zp_grX v4 (by omega)), zq_X8_advance_TB_77, if_neg (show ¬ (k = 1 ∨ k = 2) by omega), if_pos rfl]
      rw [e102, zq_X8_advance_TB_102, if_neg hk]
      exact ⟨_, rfl, ⟨by rw [ze_wj (by decide), v1], fun i hi => by rw [ze_wo (by decide), vT i hi], by rw [ze_wj (by decide), v4], by rw [ze_wj (by decide), v5], ze_wi, by rw [ze_wj (by decide), v2], by rw [ze_wj (by decide), v3]⟩, fun a b ha => by rw [ze_wo ha, vo a b ha]⟩
  · have hq : (Int32.ofNat n : Int32) ≤ Int32.ofNat s := (zp_le (by omega) (by omega)).mpr (by omega)
    rw [if_pos hq, zq_X8_advance_TB_65, w1, if_pos hq, zq_X8_advance_TB_102, if_neg hl, if_neg hl]
    exact ⟨_, rfl, ⟨by rw [ze_wj (by decide), w1], fun i hi => by rw [ze_wo (by decide), wT i hi], by rw [ze_wj (by decide), w4], by rw [ze_wj (by decide), w5], ze_wi, by rw [ze_wj (by decide), w2], by rw [ze_wj (by decide), w3]⟩, fun a b ha => by rw [ze_wo ha, wo a b ha]⟩
theorem zp_advX (h : zpX T n k s e f p I) (hn : n ≤ 800) (he : e ≤ n) : ∃ N, zF_X8_advance zW_TB [.ref 0] (I, J) = some (none, (N, J)) ∧ zpX T n (zp_ki T n (zp_st T n e)) (zp_st T n e) (zp_en T n (zp_st T n e)) f p N ∧ ∀ a b, a ≠ 0 → N a b = I a b := zp_advX0 h.1 h.2.1 h.2.2.2.2.1 h.2.2.2.2.2.1 h.2.2.2.2.2.2 hn he
theorem zp_vaX (h : zpX T n k s e f p I) (hn : n ≤ 800) (he : e ≤ n) (hd : ∀ j, s ≤ j → j < e → 48 ≤ T j ∧ T j ≤ 57) : ∀ (d j : Nat) (v : Int32), s + j + d = e → v.toInt = zp_nx T s j → ∃ r, zv_X8_valueHere_TB_7 I J v (Int32.ofNat (s + j)) = some (some (.int r), (I, J)) ∧ r.toInt = zp_nx T s (e - s) := by
  obtain ⟨h1, hT, h4, h5, h6, h2, h3⟩ := h
  intro d
  induction d with
  | zero =>
    intro j v hj hv
    rw [zq_X8_valueHere_TB_7, h6, if_pos ((zp_le (by omega) (by omega)).mpr (by omega)), zq_X8_valueHere_TB_42]
    refine ⟨v, rfl, ?_⟩
    rw [hv, show e - s = j by omega]
  | succ d ih =>
    intro j v hj hv
    have hb := hd (s + j) (by omega) (by omega)
    have hx := zp_nx_m (T := T) (s := s) j (fun i hi => hd (s + i) (by omega) (by omega))
    have c10 : (10 : Int32).toInt = 10 := by decide
    have e1 : (v * 10).toInt = zp_nx T s j * 10 := by rw [zh_mul (by rw [c10, hv]; omega) (by rw [c10, hv]; omega), c10, hv]
    have e2 : (v * 10 + I 1 (s + j)).toInt = zp_nx T s j * 10 + T (s + j) := by rw [zh_add (by rw [e1, hT _ (by omega)]; omega) (by rw [e1, hT _ (by omega)]; omega), e1, hT _ (by omega)]
    have e3 : (v * 10 + I 1 (s + j) - 48).toInt = zp_nx T s j * 10 + T (s + j) - 48 := by rw [zh_sub (by rw [e2, zp_c48]; omega) (by rw [e2, zp_c48]; omega), e2, zp_c48]
    rw [zq_X8_valueHere_TB_7, h6, if_neg (fun z => by have := (zp_le (by omega) (by omega)).mp z; omega), zq_X8_valueHere_TB_15, if_neg (zp_in (by omega) (by omega)), zp_cl (by omega), zp_o1 (by omega)]
    refine ih (j + 1) _ (by omega) ?_
    have c1000 : (1000 : Int32).toInt = 1000 := by decide
    rw [zp_nx_s]
    by_cases hq : v * 10 + I 1 (s + j) - 48 < 1000
    · rw [if_pos hq, e3]
      rw [ze_lt, e3, c1000] at hq
      rw [if_pos hq]
    · rw [if_neg hq, c1000]
      rw [ze_lt, e3, c1000] at hq
      rw [if_neg hq]
/-- whether the token is a word -/
def zp_is (T : Nat → Int) (k s e w : Nat) : Prop := k = 1 ∧ e - s = zm_slen.getD w 0 ∧ ∀ j, j < zm_slen.getD w 0 → T (s + j) = ((zm_sbyt.getD w []).getD j 0).toInt
theorem zp_w28 (w : Nat) (hw : w < 13) (h : zpX T n k s e f p I) (hn : n ≤ 800) (he : e ≤ n) (hl : s + zm_slen.getD w 0 ≤ e) : ∀ (d i : Nat), i + d = zm_slen.getD w 0 → (∀ j, j < i → T (s + j) = ((zm_sbyt.getD w []).getD j 0).toInt) → ∃ x, zh_wV 28 (zh_wl w (some (.int (Int32.ofNat i)))) [] (I, J) = some (some (.int x), (I, J)) ∧ ((x = 1 ∧ ∀ j, j < zm_slen.getD w 0 → T (s + j) = ((zm_sbyt.getD w []).getD j 0).toInt) ∨ (x = 0 ∧ ¬ ∀ j, j < zm_slen.getD w 0 → T (s + j) = ((zm_sbyt.getD w []).getD j 0).toInt)) := by
  have hL := zs_small w hw
  obtain ⟨h1, hT, h4, h5, h6, h2, h3⟩ := h
  intro d
  induction d with
  | zero =>
    intro i hi hb
    refine ⟨1, ?_, Or.inl ⟨rfl, fun j hj => hb j (by omega)⟩⟩
    rw [zh_w_28, zm_app_s (zh_recS w hw) rfl (zh_len1 I J w hw)]
    show zh_wV 33 _ [.int _, .int _] _ = _
    rw [zh_w_33, if_pos ((zp_le (by omega) (by omega)).mpr (by omega)), zh_w_63]
  | succ d ih =>
    intro i hi hb
    rw [zh_w_28, zm_app_s (zh_recS w hw) rfl (zh_len1 I J w hw)]
    have e5 : I 0 5 + Int32.ofNat i = Int32.ofNat (s + i) := by rw [h5]; exact zh_ofadd (zp_o (by omega)) (by omega)
    have hby : (I 1 (s + i)).toInt = T (s + i) := hT _ (by omega)
    have goal : ∃ x, zh_wV 33 (zh_wl w (some (.int (Int32.ofNat i)))) [.int (Int32.ofNat (zm_slen.getD w 0)), .int (Int32.ofNat i)] (I, J) = some (some (.int x), (I, J)) ∧ ((x = 1 ∧ ∀ j, j < zm_slen.getD w 0 → T (s + j) = ((zm_sbyt.getD w []).getD j 0).toInt) ∨ (x = 0 ∧ ¬ ∀ j, j < zm_slen.getD w 0 → T (s + j) = ((zm_sbyt.getD w []).getD j 0).toInt)) := by
      rw [zh_w_33, if_neg (fun z => by have := (zp_le (by omega) (by omega)).mp z; omega), zh_w_36, e5, if_neg (zp_in (by omega) (by omega)), zp_cl (by omega), zh_w_47]
      have hci : ¬ (Int32.ofNat i < 0 ∨ zm_slen.getD w 0 ≤ (Int32.ofNat i).toNatClampNeg) := zp_in (by omega) (by omega)
      rw [zm_app_s (show zm_recv zW_TB [.retAddr w, .int (Int32.ofNat i)] (some 99) = true from zh_recS w hw) rfl (zh_cha1 I J w hw _ hci), zp_cl (by omega)]
      have goal2 : ∀ a b : Int32, (a = b ↔ T (s + i) = ((zm_sbyt.getD w []).getD i 0).toInt) → ∃ x, zh_wV 52 (zh_wl w (some (.int (Int32.ofNat i)))) [.int b, .int a] (I, J) = some (some (.int x), (I, J)) ∧ ((x = 1 ∧ ∀ j, j < zm_slen.getD w 0 → T (s + j) = ((zm_sbyt.getD w []).getD j 0).toInt) ∨ (x = 0 ∧ ¬ ∀ j, j < zm_slen.getD w 0 → T (s + j) = ((zm_sbyt.getD w []).getD j 0).toInt)) := by
        intro a b hab
        rw [zh_w_52]
        by_cases c : a = b
        · rw [if_pos c, zh_w_57, zp_o1 (by omega)]
          refine ih (i + 1) (by omega) (fun j hj => ?_)
          by_cases q : j = i
          · rw [q]; exact hab.mp c
          · exact hb j (by omega)
        · rw [if_neg c]
          exact ⟨0, zh_w_55 I J w _, Or.inr ⟨rfl, fun z => c (hab.mpr (z i (by omega)))⟩⟩
      refine goal2 _ _ ?_
      rw [← hby]
      exact Int32.toInt_inj.symm
    exact goal
theorem zp_isX (w : Nat) (hw : w < 13) (h : zpX T n k s e f p I) (hn : n ≤ 800) (he : e ≤ n) (hs : s ≤ e) (hk : k ≤ 4) : ∃ x, zF_X8_isWord zW_TB [.ref 0, .retAddr w] (I, J) = some (some (.int x), (I, J)) ∧ ((x = 1 ∧ zp_is T k s e w) ∨ (x = 0 ∧ ¬ zp_is T k s e w)) := by
  have hL := zs_small w hw
  have hh := h
  obtain ⟨h1, hT, h4, h5, h6, h2, h3⟩ := h
  have e0 : zF_X8_isWord zW_TB [.ref 0, .retAddr w] (I, J) = zh_wV 0 (zh_wl w none) [] (I, J) := rfl
  rw [e0, zh_w_0, h4]
  by_cases hk1 : k = 1
  · subst hk1
    have goal : ∃ x, zh_wV 21 (zh_wl w none) [.int (Int32.ofNat (zm_slen.getD w 0)), .int (I 0 6 - I 0 5)] (I, J) = some (some (.int x), (I, J)) ∧ ((x = 1 ∧ zp_is T 1 s e w) ∨ (x = 0 ∧ ¬ zp_is T 1 s e w)) := by
      have es : (I 0 6 - I 0 5).toInt = (e - s : Nat) := by rw [h6, h5, zh_sub (by rw [zp_o (by omega), zp_o (by omega)]; omega) (by rw [zp_o (by omega), zp_o (by omega)]; omega), zp_o (by omega), zp_o (by omega)]; omega
      rw [zh_w_21]
      by_cases c : I 0 6 - I 0 5 = Int32.ofNat (zm_slen.getD w 0)
      · have cz := congrArg Int32.toInt c
        rw [es, zp_o (by omega)] at cz
        rw [if_pos c, zh_w_26]
        obtain ⟨x, q1, q2⟩ := zp_w28 (J := J) w hw hh hn he (by omega) _ 0 (Nat.zero_add _) (fun j hj => by omega)
        refine ⟨x, q1, ?_⟩
        rcases q2 with ⟨q2, q3⟩ | ⟨q2, q3⟩
        · exact Or.inl ⟨q2, rfl, by omega, q3⟩
        · exact Or.inr ⟨q2, fun z => q3 z.2.2⟩
      · rw [if_neg c]
        refine ⟨0, zh_w_24 I J w none, Or.inr ⟨rfl, fun z => c (Int32.toInt_inj.mp ?_)⟩⟩
        rw [es, zp_o (by omega), z.2.1]
    rw [if_pos (show (Int32.ofNat 1 : Int32) = 1 from rfl), zh_w_8, zm_app_s (zh_recS w hw) rfl (zh_len1 I J w hw)]
    exact goal
  · rw [if_neg (show ¬ (Int32.ofNat k : Int32) = 1 from zp_ne (j := 1) (by omega) (by omega) hk1)]
    exact ⟨0, zh_w_24 I J w none, Or.inr ⟨rfl, fun z => hk1 z.1⟩⟩
end ZPB
