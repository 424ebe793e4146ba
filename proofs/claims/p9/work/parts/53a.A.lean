/-! 53a.A, 53b.B, 53c.C, 53d.D, 53e.E, 53f.F, 53g.G, 53h.H, 53i.I, 53k.K, 53l.L, 53m.M, 53p.P, 53q.P2, 53r.R, 53s.Q -/
section
/-! THE TAPE, WITHOUT MACHINES: kinds of bytes, tokens, words, numbers -/
def zp_kd (b : Int) : Nat := if 97 ≤ b ∧ b ≤ 122 then 1 else if 48 ≤ b ∧ b ≤ 57 then 2 else if b = 59 then 3 else 4
def zp_sk (T : Nat → Int) (n : Nat) : Nat → Nat → Nat
  | 0, i => i
  | f + 1, i => if i < n ∧ (T i = 32 ∨ T i = 10) then zp_sk T n f (i + 1) else i
def zp_gr (T : Nat → Int) (n k : Nat) : Nat → Nat → Nat
  | 0, i => i
  | f + 1, i => if i < n ∧ zp_kd (T i) = k then zp_gr T n k f (i + 1) else i
def zp_en (T : Nat → Int) (n s : Nat) : Nat := if s < n then (if zp_kd (T s) ≤ 2 then zp_gr T n (zp_kd (T s)) (n - (s + 1)) (s + 1) else s + 1) else s
def zp_st (T : Nat → Int) (n e : Nat) : Nat := zp_sk T n (n - e) e
def zp_ki (T : Nat → Int) (n s : Nat) : Nat := if s < n then zp_kd (T s) else 0
section ZPA
variable {T : Nat → Int} {n : Nat}
theorem zp_sk_0 (i : Nat) : zp_sk T n 0 i = i := rfl
theorem zp_sk_s (f i : Nat) : zp_sk T n (f + 1) i = if i < n ∧ (T i = 32 ∨ T i = 10) then zp_sk T n f (i + 1) else i := rfl
theorem zp_gr_0 (k i : Nat) : zp_gr T n k 0 i = i := rfl
theorem zp_gr_s (k f i : Nat) : zp_gr T n k (f + 1) i = if i < n ∧ zp_kd (T i) = k then zp_gr T n k f (i + 1) else i := rfl
theorem zp_kd_b (b : Int) : 1 ≤ zp_kd b ∧ zp_kd b ≤ 4 := by
  unfold zp_kd
  repeat' split
  all_goals omega
theorem zp_sk_b : ∀ (f i : Nat), i ≤ zp_sk T n f i ∧ (i ≤ n → zp_sk T n f i ≤ n) := by
  intro f
  induction f with
  | zero => exact fun i => ⟨Nat.le_refl _, fun h => h⟩
  | succ f ih =>
    intro i
    rw [zp_sk_s]
    split
    · next h => exact ⟨by have := (ih (i + 1)).1; omega, fun _ => (ih (i + 1)).2 (by omega)⟩
    · exact ⟨Nat.le_refl _, fun h => h⟩
theorem zp_gr_b {k : Nat} : ∀ (f i : Nat), i ≤ zp_gr T n k f i ∧ (i ≤ n → zp_gr T n k f i ≤ n) ∧ ∀ j, i ≤ j → j < zp_gr T n k f i → zp_kd (T j) = k := by
  intro f
  induction f with
  | zero => exact fun i => ⟨Nat.le_refl _, fun h => h, fun j h1 h2 => by rw [zp_gr_0] at h2; omega⟩
  | succ f ih =>
    intro i
    rw [zp_gr_s]
    split
    · next h =>
      have hi := ih (i + 1)
      refine ⟨by omega, fun _ => hi.2.1 (by omega), fun j h1 h2 => ?_⟩
      by_cases e : j = i
      · rw [e]; exact h.2
      · exact hi.2.2 j (by omega) h2
    · exact ⟨Nat.le_refl _, fun h => h, fun j h1 h2 => by omega⟩
theorem zp_st_b {e : Nat} (h : e ≤ n) : e ≤ zp_st T n e ∧ zp_st T n e ≤ n := ⟨(zp_sk_b _ _).1, (zp_sk_b _ _).2 h⟩
theorem zp_en_b {s : Nat} (h : s ≤ n) : s ≤ zp_en T n s ∧ zp_en T n s ≤ n ∧ (s < n → s < zp_en T n s) := by
  unfold zp_en
  split
  · split
    · have := zp_gr_b (T := T) (n := n) (k := zp_kd (T s)) (n - (s + 1)) (s + 1)
      exact ⟨by omega, this.2.1 (by omega), fun _ => by omega⟩
    · exact ⟨by omega, by omega, fun _ => by omega⟩
  · exact ⟨by omega, by omega, fun h => by omega⟩
/-- the bytes of a word or a number are all of its kind -/
theorem zp_en_k {s k : Nat} (hk : zp_ki T n s = k) (h2 : k = 1 ∨ k = 2) : ∀ j, s ≤ j → j < zp_en T n s → zp_kd (T j) = k := by
  intro j h1 h3
  unfold zp_ki at hk
  unfold zp_en at h3
  by_cases hs : s < n
  · rw [if_pos hs] at hk h3
    rw [hk, if_pos (by omega)] at h3
    by_cases e : j = s
    · rw [e]; exact hk
    · exact (zp_gr_b _ _).2.2 j (by omega) h3
  · rw [if_neg hs] at hk
    omega
end ZPA
/-- two tapes that say the same: bytes below 128 the same, others above on both -/
def zp_sg (b t : Int) : Prop := (b = t ∧ t < 128) ∨ (128 ≤ t ∧ b < 0)
theorem zp_sg_kd {b t : Int} (h : zp_sg b t) : zp_kd b = zp_kd t := by
  unfold zp_kd
  rcases h with ⟨rfl, -⟩ | ⟨h1, h2⟩
  · rfl
  · rw [if_neg (by omega), if_neg (by omega), if_neg (by omega), if_neg (by omega), if_neg (by omega), if_neg (by omega)]
/-- the worth of a word, k letters from s on -/
def zp_wv (T : Nat → Int) (s : Nat) : Nat → Int
  | 0 => 0
  | k + 1 => 27 * zp_wv T s k + (T (s + k) - 96)
theorem zp_wv_0 (T : Nat → Int) (s : Nat) : zp_wv T s 0 = 0 := rfl
theorem zp_wv_s (T : Nat → Int) (s k : Nat) : zp_wv T s (k + 1) = 27 * zp_wv T s k + (T (s + k) - 96) := rfl
theorem zp_wv_b {T : Nat → Int} {s : Nat} : ∀ (k : Nat), (∀ j, j < k → 97 ≤ T (s + j) ∧ T (s + j) ≤ 122) → 0 ≤ zp_wv T s k ∧ zp_wv T s k < 27 ^ k := by
  intro k
  induction k with
  | zero => exact fun _ => by rw [zp_wv_0]; decide
  | succ k ih =>
    intro h
    have h1 := ih (fun j hj => h j (by omega))
    have h2 := h k (by omega)
    rw [zp_wv_s]
    have e : (27 : Int) ^ (k + 1) = 27 * 27 ^ k := by rw [Int.pow_succ]; omega
    rw [e]
    omega
theorem zp_wv_u {T U : Nat → Int} {s t : Nat} : ∀ (k l : Nat), (∀ j, j < k → 97 ≤ T (s + j) ∧ T (s + j) ≤ 122) → (∀ j, j < l → 97 ≤ U (t + j) ∧ U (t + j) ≤ 122) → zp_wv T s k = zp_wv U t l → k = l ∧ ∀ j, j < k → T (s + j) = U (t + j) := by
  intro k
  induction k with
  | zero =>
    intro l h1 h2 e
    match l with
    | 0 => exact ⟨rfl, fun j hj => by omega⟩
    | l + 1 =>
      have b := (zp_wv_b l (fun j hj => h2 j (by omega))).1
      have c := h2 l (by omega)
      rw [zp_wv_0, zp_wv_s] at e
      omega
  | succ k ih =>
    intro l h1 h2 e
    have b := (zp_wv_b k (fun j hj => h1 j (by omega))).1
    have c := h1 k (by omega)
    match l with
    | 0 =>
      rw [zp_wv_0, zp_wv_s] at e
      omega
    | l + 1 =>
      have c2 := h2 l (by omega)
      rw [zp_wv_s, zp_wv_s] at e
      obtain ⟨e1, e2⟩ := ih l (fun j hj => h1 j (by omega)) (fun j hj => h2 j (by omega)) (by omega)
      subst e1
      refine ⟨rfl, fun j hj => ?_⟩
      by_cases q : j = k
      · subst q
        omega
      · exact e2 j (by omega)
theorem zp_wv_c {T U : Nat → Int} {s t : Nat} : ∀ (k : Nat), (∀ j, j < k → T (s + j) = U (t + j)) → zp_wv T s k = zp_wv U t k := by
  intro k
  induction k with
  | zero => exact fun _ => rfl
  | succ k ih =>
    intro h
    rw [zp_wv_s, zp_wv_s, ih (fun j hj => h j (by omega)), h k (by omega)]
/-- a number's worth, k digits from s on: as the class counts it, and as the reference does -/
def zp_nx (T : Nat → Int) (s : Nat) : Nat → Int
  | 0 => 0
  | k + 1 => if zp_nx T s k * 10 + T (s + k) - 48 < 1000 then zp_nx T s k * 10 + T (s + k) - 48 else 1000
def zp_nm (T : Nat → Int) (s : Nat) : Nat → Int
  | 0 => 0
  | k + 1 => if zp_nm T s k ≤ 100000 then 10 * zp_nm T s k + T (s + k) - 48 else 1000000
theorem zp_nx_0 (T : Nat → Int) (s : Nat) : zp_nx T s 0 = 0 := rfl
theorem zp_nx_s (T : Nat → Int) (s k : Nat) : zp_nx T s (k + 1) = if zp_nx T s k * 10 + T (s + k) - 48 < 1000 then zp_nx T s k * 10 + T (s + k) - 48 else 1000 := rfl
theorem zp_nm_0 (T : Nat → Int) (s : Nat) : zp_nm T s 0 = 0 := rfl
theorem zp_nm_s (T : Nat → Int) (s k : Nat) : zp_nm T s (k + 1) = if zp_nm T s k ≤ 100000 then 10 * zp_nm T s k + T (s + k) - 48 else 1000000 := rfl
theorem zp_nx_m {T : Nat → Int} {s : Nat} : ∀ (k : Nat), (∀ j, j < k → 48 ≤ T (s + j) ∧ T (s + j) ≤ 57) → 0 ≤ zp_nx T s k ∧ zp_nx T s k ≤ 1000 ∧ 0 ≤ zp_nm T s k ∧ zp_nm T s k ≤ 1000009 ∧ ((zp_nx T s k = zp_nm T s k) ∨ (zp_nx T s k = 1000 ∧ 1000 ≤ zp_nm T s k)) := by
  intro k
  induction k with
  | zero =>
    intro _
    rw [zp_nx_0, zp_nm_0]
    omega
  | succ k ih =>
    intro h
    have h1 := ih (fun j hj => h j (by omega))
    have h2 := h k (by omega)
    rw [zp_nx_s, zp_nm_s]
    split <;> split <;> omega
end
section
/-! THE CLASS'S TAPE, exactly -/
def zpX (T : Nat → Int) (n k s e : Nat) (f p : Int32) (I : Nat → Nat → Int32) : Prop := I 0 1 = Int32.ofNat n ∧ (∀ i, i < n → (I 1 i).toInt = T i) ∧ I 0 4 = Int32.ofNat k ∧ I 0 5 = Int32.ofNat s ∧ I 0 6 = Int32.ofNat e ∧ I 0 2 = f ∧ I 0 3 = p
theorem zp_o {i : Nat} (h : i ≤ 1000) : (Int32.ofNat i).toInt = i := zh_of (by omega)
theorem zp_o1 {i : Nat} (h : i ≤ 1000) : Int32.ofNat i + 1 = Int32.ofNat (i + 1) := Int32.toInt_inj.mp (by rw [ze_add (by rw [zp_o h, ze_i1]; omega) (by rw [zp_o h, ze_i1]; omega), zp_o h, ze_i1, zh_of (by omega)]; omega)
theorem zp_cl {i : Nat} (h : i ≤ 1000) : Int32.toNatClampNeg (Int32.ofNat i) = i := zh_cl (zp_o h)
theorem zp_in {i m : Nat} (h : i ≤ 1000) (h2 : i < m) : ¬ ((Int32.ofNat i : Int32) < 0 ∨ m ≤ Int32.toNatClampNeg (Int32.ofNat i)) := zh_in (by rw [zp_o h]; omega) (by rw [zp_o h]; omega)
theorem zp_le {i j : Nat} (h : i ≤ 1000) (h2 : j ≤ 1000) : ((Int32.ofNat i : Int32) ≤ Int32.ofNat j) ↔ i ≤ j := by
  rw [ze_le, zp_o h, zp_o h2]
  omega
theorem zp_ne {i j : Nat} (h : i ≤ 1000) (h2 : j ≤ 1000) (hn : i ≠ j) : ¬ (Int32.ofNat i : Int32) = Int32.ofNat j := fun e => by
  have := congrArg Int32.toInt e
  rw [zp_o h, zp_o h2] at this
  omega
section ZPB
variable {T : Nat → Int} {n k s e : Nat} {f p : Int32} {I : Nat → Nat → Int32} {J : Nat → Nat → Int64}
theorem zp_blX (b : Int32) : zF_X8_isBlank zW_TB [.int b] (I, J) = some (some (.int (if b.toInt = 32 ∨ b.toInt = 10 then 1 else 0)), (I, J)) := by
  rw [zf_X8_isBlank_TB, zq_X8_isBlank_TB_0]
  by_cases h1 : b = 32
  · rw [if_pos h1, zq_X8_isBlank_TB_12, zq_X8_isBlank_TB_17, if_pos (Or.inr rfl), if_pos (Or.inl (by rw [h1]; decide))]
  · rw [if_neg h1, zq_X8_isBlank_TB_6]
    by_cases h2 : b = 10
    · rw [if_pos h2, zq_X8_isBlank_TB_12, zq_X8_isBlank_TB_17, if_pos (Or.inr rfl), if_pos (Or.inr (by rw [h2]; decide))]
    · rw [if_neg h2, zq_X8_isBlank_TB_16, zq_X8_isBlank_TB_17, if_pos (Or.inl rfl), if_neg (fun z => z.elim (fun q => h1 (Int32.toInt_inj.mp (q.trans (by decide)))) (fun q => h2 (Int32.toInt_inj.mp (q.trans (by decide)))))]
theorem zp_c97 : (97 : Int32).toInt = 97 := by decide
theorem zp_c122 : (122 : Int32).toInt = 122 := by decide
theorem zp_c48 : (48 : Int32).toInt = 48 := by decide
theorem zp_c57 : (57 : Int32).toInt = 57 := by decide
theorem zp_c59 : (59 : Int32).toInt = 59 := by decide
theorem zp_kd28 (b : Int32) : zv_X8_kindOf_TB_28 I J b = some (some (.int (Int32.ofNat (if b.toInt = 59 then 3 else 4))), (I, J)) := by
  rw [zq_X8_kindOf_TB_28]
  by_cases h : b = 59
  · rw [if_pos h, zq_X8_kindOf_TB_34, zq_X8_kindOf_TB_39, if_pos (by rw [h]; decide)]
    rfl
  · rw [if_neg h, zq_X8_kindOf_TB_38, zq_X8_kindOf_TB_39, if_neg (fun q => h (Int32.toInt_inj.mp (q.trans (by decide))))]
    rfl
theorem zp_kd14 (b : Int32) : zv_X8_kindOf_TB_14 I J b = some (some (.int (Int32.ofNat (if 48 ≤ b.toInt ∧ b.toInt ≤ 57 then 2 else if b.toInt = 59 then 3 else 4))), (I, J)) := by
  rw [zq_X8_kindOf_TB_14]
  by_cases h : b < 48
  · rw [if_pos h, zp_kd28]
    rw [ze_lt, zp_c48] at h
    rw [if_neg (show ¬ (48 ≤ b.toInt ∧ b.toInt ≤ 57) by omega)]
  · rw [if_neg h, zq_X8_kindOf_TB_20]
    rw [ze_lt, zp_c48] at h
    by_cases h2 : 57 < b
    · rw [if_pos h2, zp_kd28]
      rw [ze_lt, zp_c57] at h2
      rw [if_neg (show ¬ (48 ≤ b.toInt ∧ b.toInt ≤ 57) by omega)]
    · rw [if_neg h2, zq_X8_kindOf_TB_26]
      rw [ze_lt, zp_c57] at h2
      rw [if_pos (show 48 ≤ b.toInt ∧ b.toInt ≤ 57 by omega)]
      rfl
theorem zp_kdX (b : Int32) : zF_X8_kindOf zW_TB [.int b] (I, J) = some (some (.int (Int32.ofNat (zp_kd b.toInt))), (I, J)) := by
  unfold zp_kd
  rw [zf_X8_kindOf_TB, zq_X8_kindOf_TB_0]
  by_cases h : b < 97
  · rw [if_pos h, zp_kd14]
    rw [ze_lt, zp_c97] at h
    rw [if_neg (show ¬ (97 ≤ b.toInt ∧ b.toInt ≤ 122) by omega)]
  · rw [if_neg h, zq_X8_kindOf_TB_6]
    rw [ze_lt, zp_c97] at h
    by_cases h2 : 122 < b
    · rw [if_pos h2, zp_kd14]
      rw [ze_lt, zp_c122] at h2
      rw [if_neg (show ¬ (97 ≤ b.toInt ∧ b.toInt ≤ 122) by omega)]
    · rw [if_neg h2, zq_X8_kindOf_TB_12]
      rw [ze_lt, zp_c122] at h2
      rw [if_pos (show 97 ≤ b.toInt ∧ b.toInt ≤ 122 by omega)]
      rfl
theorem zp_grX (hk : I 0 4 = Int32.ofNat k) (h4 : k ≤ 4) : zF_X8_growsOn zW_TB [.ref 0] (I, J) = some (some (.int (if k = 1 ∨ k = 2 then 1 else 0)), (I, J)) := by
  rw [zf_X8_growsOn_TB, zq_X8_growsOn_TB_0, hk]
  by_cases h1 : k = 1
  · subst h1
    rw [if_pos (show (Int32.ofNat 1 : Int32) = 1 from rfl), zq_X8_growsOn_TB_16, zq_X8_growsOn_TB_21, if_pos (Or.inr rfl)]
    rfl
  · rw [if_neg (show ¬ (Int32.ofNat k : Int32) = 1 from zp_ne (j := 1) (by omega) (by omega) h1), zq_X8_growsOn_TB_8, hk]
    by_cases h2 : k = 2
    · subst h2
      rw [if_pos (show (Int32.ofNat 2 : Int32) = 2 from rfl), zq_X8_growsOn_TB_16, zq_X8_growsOn_TB_21, if_pos (Or.inr rfl)]
      rfl
    · rw [if_neg (show ¬ (Int32.ofNat k : Int32) = 2 from zp_ne (j := 2) (by omega) (by omega) h2), zq_X8_growsOn_TB_20, zq_X8_growsOn_TB_21, if_pos (Or.inl rfl), if_neg (fun z => z.elim h1 h2)]
theorem zp_ad5 (h1 : I 0 1 = Int32.ofNat n) (hT : ∀ i, i < n → (I 1 i).toInt = T i) (hn : n ≤ 800) : ∀ (d i : Nat), n - i ≤ d → i ≤ n → zv_X8_advance_TB_5 I J (Int32.ofNat i) = zv_X8_advance_TB_31 I J (Int32.ofNat (zp_sk T n d i)) := by
  intro d
  induction d with
  | zero =>
    intro i h hi
    rw [zq_X8_advance_TB_5, h1, if_pos ((zp_le (by omega) (by omega)).mpr (by omega)), zp_sk_0]
  | succ d ih =>
    intro i h hi
    rw [zq_X8_advance_TB_5, h1, zp_sk_s]
    by_cases hl : i < n
    · rw [if_neg (fun z => by have := (zp_le (by omega) (by omega)).mp z; omega), zq_X8_advance_TB_13, if_neg (zp_in (by omega) (by omega)), zp_cl (by omega), zc_X8_advance_TB_19 _ _ _ _ (zp_blX _), hT i hl, zq_X8_advance_TB_22]
      by_cases hb : T i = 32 ∨ T i = 10
      · rw [if_pos hb, if_neg (by decide), if_pos ⟨hl, hb⟩, zq_X8_advance_TB_25, zp_o1 (by omega)]
        exact ih (i + 1) (by omega) (by omega)
      · rw [if_neg hb, if_pos rfl, if_neg (fun z => hb z.2)]
    · rw [if_pos ((zp_le (by omega) (by omega)).mpr (by omega)), if_neg (fun z => hl z.1)]
theorem zp_ad65 (h1 : I 0 1 = Int32.ofNat n) (hT : ∀ i, i < n → (I 1 i).toInt = T i) (hn : n ≤ 800) (hk : I 0 4 = Int32.ofNat k) (h4 : k = 1 ∨ k = 2) : ∀ (d i : Nat), n - i ≤ d → i ≤ n → zv_X8_advance_TB_65 I J (Int32.ofNat i) = zv_X8_advance_TB_102 I J (Int32.ofNat (zp_gr T n k d i)) := by
  intro d
  induction d with
  | zero =>
    intro i h hi
    rw [zq_X8_advance_TB_65, h1, if_pos ((zp_le (by omega) (by omega)).mpr (by omega)), zp_gr_0]
  | succ d ih =>
    intro i h hi
    rw [zq_X8_advance_TB_65, h1, zp_gr_s]
    by_cases hl : i < n
    · have kb := zp_kd_b (T i)
      rw [if_neg (fun z => by have := (zp_le (by omega) (by omega)).mp z; omega), zc_X8_advance_TB_73 _ _ _ (zp_grX hk (by omega)), zq_X8_advance_TB_77, if_pos h4, if_neg (by decide), zq_X8_advance_TB_80, if_neg (zp_in (by omega) (by omega)), zp_cl (by omega), zc_X8_advance_TB_86 _ _ _ _ (zp_kdX _), hT i hl, zq_X8_advance_TB_89, hk]
      by_cases hb : zp_kd (T i) = k
      · rw [hb, if_pos rfl, if_pos ⟨hl, rfl⟩, zq_X8_advance_TB_96, zp_o1 (by omega)]
        exact ih (i + 1) (by omega) (by omega)
      · rw [if_neg (zp_ne (by omega) (by omega) hb), if_neg (fun z => hb z.2)]
    · rw [if_pos ((zp_le (by omega) (by omega)).mpr (by omega)), if_neg (fun z => hl z.1)]
theorem zp_advX0 (h1 : I 0 1 = Int32.ofNat n) (hT : ∀ i, i < n → (I 1 i).toInt = T i) (h6 : I 0 6 = Int32.ofNat e) (h2 : I 0 2 = f) (h3 : I 0 3 = p) (hn : n ≤ 800) (he : e ≤ n) : ∃ N, zF_X8_advance zW_TB [.ref 0] (I, J) = some (none, (N, J)) ∧ zpX T n (zp_ki T n (zp_st T n e)) (zp_st T n e) (zp_en T n (zp_st T n e)) f p N ∧ ∀ a b, a ≠ 0 → N a b = I a b := by
  have hs2 := (zp_st_b (T := T) he).2
  rw [zf_X8_advance_TB, zq_X8_advance_TB_0, h6, zp_ad5 h1 hT hn (n - e) e (Nat.le_refl _) he]
  rw [show zp_sk T n (n - e) e = zp_st T n e from rfl]
  generalize zp_st T n e = s at hs2
  have w1 : zm_w (zm_w I 0 5 (Int32.ofNat s)) 0 4 0 0 1 = Int32.ofNat n := by rw [ze_wj (by decide), ze_wj (by decide), h1]
  have wT : ∀ i, i < n → (zm_w (zm_w I 0 5 (Int32.ofNat s)) 0 4 0 1 i).toInt = T i := fun i hi => by rw [ze_wo (by decide), ze_wo (by decide), hT i hi]
  have wo : ∀ a b, a ≠ 0 → zm_w (zm_w I 0 5 (Int32.ofNat s)) 0 4 0 a b = I a b := fun a b ha => by rw [ze_wo ha, ze_wo ha]
  have w5 : zm_w (zm_w I 0 5 (Int32.ofNat s)) 0 4 0 0 5 = Int32.ofNat s := by rw [ze_wj (by decide), ze_wi]
  have w4 : zm_w (zm_w I 0 5 (Int32.ofNat s)) 0 4 0 0 4 = Int32.ofNat 0 := ze_wi
  have w2 : zm_w (zm_w I 0 5 (Int32.ofNat s)) 0 4 0 0 2 = f := by rw [ze_wj (by decide), ze_wj (by decide), h2]
  have w3 : zm_w (zm_w I 0 5 (Int32.ofNat s)) 0 4 0 0 3 = p := by rw [ze_wj (by decide), ze_wj (by decide), h3]
  rw [zq_X8_advance_TB_31, w1]
  generalize zm_w (zm_w I 0 5 (Int32.ofNat s)) 0 4 0 = K at w1 wT wo w5 w4 w2 w3
  unfold zp_ki zp_en
  by_cases hl : s < n
  · rw [if_neg (fun z => by have := (zp_le (by omega) (by omega)).mp z; omega), zq_X8_advance_TB_49, if_neg (zp_in (by omega) (by omega)), zp_cl (by omega), zc_X8_advance_TB_56 _ _ _ _ (zp_kdX _), wT s hl, zq_X8_advance_TB_59, zp_o1 (by omega), if_pos hl, if_pos hl]
    have kb := zp_kd_b (T s)
    generalize zp_kd (T s) = k at kb
    have v1 : zm_w K 0 4 (Int32.ofNat k) 0 1 = Int32.ofNat n := by rw [ze_wj (by decide), w1]
    have vT : ∀ i, i < n → (zm_w K 0 4 (Int32.ofNat k) 1 i).toInt = T i := fun i hi => by rw [ze_wo (by decide), wT i hi]
    have vo : ∀ a b, a ≠ 0 → zm_w K 0 4 (Int32.ofNat k) a b = I a b := fun a b ha => by rw [ze_wo ha, wo a b ha]
    have v5 : zm_w K 0 4 (Int32.ofNat k) 0 5 = Int32.ofNat s := by rw [ze_wj (by decide), w5]
    have v4 : zm_w K 0 4 (Int32.ofNat k) 0 4 = Int32.ofNat k := ze_wi
    have v2 : zm_w K 0 4 (Int32.ofNat k) 0 2 = f := by rw [ze_wj (by decide), w2]
    have v3 : zm_w K 0 4 (Int32.ofNat k) 0 3 = p := by rw [ze_wj (by decide), w3]
    generalize zm_w K 0 4 (Int32.ofNat k) = L at v1 vT vo v5 v4 v2 v3
    by_cases hk : k ≤ 2
    · rw [zp_ad65 v1 vT hn v4 (by omega) (n - (s + 1)) (s + 1) (Nat.le_refl _) (by omega), zq_X8_advance_TB_102, if_pos hk]
      exact ⟨_, rfl, ⟨by rw [ze_wj (by decide), v1], fun i hi => by rw [ze_wo (by decide), vT i hi], by rw [ze_wj (by decide), v4], by rw [ze_wj (by decide), v5], ze_wi, by rw [ze_wj (by decide), v2], by rw [ze_wj (by decide), v3]⟩, fun a b ha => by rw [ze_wo ha, vo a b ha]⟩
    · have e102 : zv_X8_advance_TB_65 L J (Int32.ofNat (s + 1)) = zv_X8_advance_TB_102 L J (Int32.ofNat (s + 1)) := by
        rw [zq_X8_advance_TB_65]
        split
        · rfl
        · rw [zc_X8_advance_TB_73 _ _ _ (zp_grX v4 (by omega)), zq_X8_advance_TB_77, if_neg (show ¬ (k = 1 ∨ k = 2) by omega), if_pos rfl]
      rw [e102, zq_X8_advance_TB_102, if_neg hk]
      exact ⟨_, rfl, ⟨by rw [ze_wj (by decide), v1], fun i hi => by rw [ze_wo (by decide), vT i hi], by rw [ze_wj (by decide), v4], by rw [ze_wj (by decide), v5], ze_wi, by rw [ze_wj (by decide), v2], by rw [ze_wj (by decide), v3]⟩, fun a b ha => by rw [ze_wo ha, vo a b ha]⟩
  · have hq : (Int32.ofNat n : Int32) ≤ Int32.ofNat s := (zp_le (by omega) (by omega)).mpr (by omega)
    rw [if_pos hq, zq_X8_advance_TB_65, w1, if_pos hq, zq_X8_advance_TB_102, if_neg hl, if_neg hl]
    exact ⟨_, rfl, ⟨by rw [ze_wj (by decide), w1], fun i hi => by rw [ze_wo (by decide), wT i hi], by rw [ze_wj (by decide), w4], by rw [ze_wj (by decide), w5], ze_wi, by rw [ze_wj (by decide), w2], by rw [ze_wj (by decide), w3]⟩, fun a b ha => by rw [ze_wo ha, wo a b ha]⟩
theorem zp_advX (h : zpX T n k s e f p I) (hn : n ≤ 800) (he : e ≤ n) : ∃ N, zF_X8_advance zW_TB [.ref 0] (I, J) = some (none, (N, J)) ∧ zpX T n (zp_ki T n (zp_st T n e)) (zp_st T n e) (zp_en T n (zp_st T n e)) f p N ∧ ∀ a b, a ≠ 0 → N a b = I a b := zp_advX0 h.1 h.2.1 h.2.2.2.2.1 h.2.2.2.2.2.1 h.2.2.2.2.2.2 hn he
theorem zp_vaX (h : zpX T n k s e f p I) (hn : n ≤ 800) (he : e ≤ n) (hd : ∀ j, s ≤ j → j < e → 48 ≤ T j ∧ T j ≤ 57) : ∀ (d j : Nat) (v : Int32), s + j + d = e → v.toInt = zp_nx T s j → ∃ r, zv_X8_valueHere_TB_7 I J v (Int32.ofNat (s + j)) = some (some (.int r), (I, J)) ∧ r.toInt = zp_nx T s (e - s) := by
  obtain ⟨h1, hT, h4, h5, h6, h2, h3⟩ := h
  intro d
  induction d with
  | zero =>
    intro j v hj hv
    rw [zq_X8_valueHere_TB_7, h6, if_pos ((zp_le (by omega) (by omega)).mpr (by omega)), zq_X8_valueHere_TB_42]
    refine ⟨v, rfl, ?_⟩
    rw [hv, show e - s = j by omega]
  | succ d ih =>
    intro j v hj hv
    have hb := hd (s + j) (by omega) (by omega)
    have hx := zp_nx_m (T := T) (s := s) j (fun i hi => hd (s + i) (by omega) (by omega))
    have c10 : (10 : Int32).toInt = 10 := by decide
    have e1 : (v * 10).toInt = zp_nx T s j * 10 := by rw [zh_mul (by rw [c10, hv]; omega) (by rw [c10, hv]; omega), c10, hv]
    have e2 : (v * 10 + I 1 (s + j)).toInt = zp_nx T s j * 10 + T (s + j) := by rw [zh_add (by rw [e1, hT _ (by omega)]; omega) (by rw [e1, hT _ (by omega)]; omega), e1, hT _ (by omega)]
    have e3 : (v * 10 + I 1 (s + j) - 48).toInt = zp_nx T s j * 10 + T (s + j) - 48 := by rw [zh_sub (by rw [e2, zp_c48]; omega) (by rw [e2, zp_c48]; omega), e2, zp_c48]
    rw [zq_X8_valueHere_TB_7, h6, if_neg (fun z => by have := (zp_le (by omega) (by omega)).mp z; omega), zq_X8_valueHere_TB_15, if_neg (zp_in (by omega) (by omega)), zp_cl (by omega), zp_o1 (by omega)]
    refine ih (j + 1) _ (by omega) ?_
    have c1000 : (1000 : Int32).toInt = 1000 := by decide
    rw [zp_nx_s]
    by_cases hq : v * 10 + I 1 (s + j) - 48 < 1000
    · rw [if_pos hq, e3]
      rw [ze_lt, e3, c1000] at hq
      rw [if_pos hq]
    · rw [if_neg hq, c1000]
      rw [ze_lt, e3, c1000] at hq
      rw [if_neg hq]
/-- whether the token is a word -/
def zp_is (T : Nat → Int) (k s e w : Nat) : Prop := k = 1 ∧ e - s = zm_slen.getD w 0 ∧ ∀ j, j < zm_slen.getD w 0 → T (s + j) = ((zm_sbyt.getD w []).getD j 0).toInt
theorem zp_w28 (w : Nat) (hw : w < 13) (h : zpX T n k s e f p I) (hn : n ≤ 800) (he : e ≤ n) (hl : s + zm_slen.getD w 0 ≤ e) : ∀ (d i : Nat), i + d = zm_slen.getD w 0 → (∀ j, j < i → T (s + j) = ((zm_sbyt.getD w []).getD j 0).toInt) → ∃ x, zh_wV 28 (zh_wl w (some (.int (Int32.ofNat i)))) [] (I, J) = some (some (.int x), (I, J)) ∧ ((x = 1 ∧ ∀ j, j < zm_slen.getD w 0 → T (s + j) = ((zm_sbyt.getD w []).getD j 0).toInt) ∨ (x = 0 ∧ ¬ ∀ j, j < zm_slen.getD w 0 → T (s + j) = ((zm_sbyt.getD w []).getD j 0).toInt)) := by
  have hL := zs_small w hw
  obtain ⟨h1, hT, h4, h5, h6, h2, h3⟩ := h
  intro d
  induction d with
  | zero =>
    intro i hi hb
    refine ⟨1, ?_, Or.inl ⟨rfl, fun j hj => hb j (by omega)⟩⟩
    rw [zh_w_28, zm_app_s (zh_recS w hw) rfl (zh_len1 I J w hw)]
    show zh_wV 33 _ [.int _, .int _] _ = _
    rw [zh_w_33, if_pos ((zp_le (by omega) (by omega)).mpr (by omega)), zh_w_63]
  | succ d ih =>
    intro i hi hb
    rw [zh_w_28, zm_app_s (zh_recS w hw) rfl (zh_len1 I J w hw)]
    have e5 : I 0 5 + Int32.ofNat i = Int32.ofNat (s + i) := by rw [h5]; exact zh_ofadd (zp_o (by omega)) (by omega)
    have hby : (I 1 (s + i)).toInt = T (s + i) := hT _ (by omega)
    have goal : ∃ x, zh_wV 33 (zh_wl w (some (.int (Int32.ofNat i)))) [.int (Int32.ofNat (zm_slen.getD w 0)), .int (Int32.ofNat i)] (I, J) = some (some (.int x), (I, J)) ∧ ((x = 1 ∧ ∀ j, j < zm_slen.getD w 0 → T (s + j) = ((zm_sbyt.getD w []).getD j 0).toInt) ∨ (x = 0 ∧ ¬ ∀ j, j < zm_slen.getD w 0 → T (s + j) = ((zm_sbyt.getD w []).getD j 0).toInt)) := by
      rw [zh_w_33, if_neg (fun z => by have := (zp_le (by omega) (by omega)).mp z; omega), zh_w_36, e5, if_neg (zp_in (by omega) (by omega)), zp_cl (by omega), zh_w_47]
      have hci : ¬ (Int32.ofNat i < 0 ∨ zm_slen.getD w 0 ≤ (Int32.ofNat i).toNatClampNeg) := zp_in (by omega) (by omega)
      rw [zm_app_s (show zm_recv zW_TB [.retAddr w, .int (Int32.ofNat i)] (some 99) = true from zh_recS w hw) rfl (zh_cha1 I J w hw _ hci), zp_cl (by omega)]
      have goal2 : ∀ a b : Int32, (a = b ↔ T (s + i) = ((zm_sbyt.getD w []).getD i 0).toInt) → ∃ x, zh_wV 52 (zh_wl w (some (.int (Int32.ofNat i)))) [.int b, .int a] (I, J) = some (some (.int x), (I, J)) ∧ ((x = 1 ∧ ∀ j, j < zm_slen.getD w 0 → T (s + j) = ((zm_sbyt.getD w []).getD j 0).toInt) ∨ (x = 0 ∧ ¬ ∀ j, j < zm_slen.getD w 0 → T (s + j) = ((zm_sbyt.getD w []).getD j 0).toInt)) := by
        intro a b hab
        rw [zh_w_52]
        by_cases c : a = b
        · rw [if_pos c, zh_w_57, zp_o1 (by omega)]
          refine ih (i + 1) (by omega) (fun j hj => ?_)
          by_cases q : j = i
          · rw [q]; exact hab.mp c
          · exact hb j (by omega)
        · rw [if_neg c]
          exact ⟨0, zh_w_55 I J w _, Or.inr ⟨rfl, fun z => c (hab.mpr (z i (by omega)))⟩⟩
      refine goal2 _ _ ?_
      rw [← hby]
      exact Int32.toInt_inj.symm
    exact goal
theorem zp_isX (w : Nat) (hw : w < 13) (h : zpX T n k s e f p I) (hn : n ≤ 800) (he : e ≤ n) (hs : s ≤ e) (hk : k ≤ 4) : ∃ x, zF_X8_isWord zW_TB [.ref 0, .retAddr w] (I, J) = some (some (.int x), (I, J)) ∧ ((x = 1 ∧ zp_is T k s e w) ∨ (x = 0 ∧ ¬ zp_is T k s e w)) := by
  have hL := zs_small w hw
  have hh := h
  obtain ⟨h1, hT, h4, h5, h6, h2, h3⟩ := h
  have e0 : zF_X8_isWord zW_TB [.ref 0, .retAddr w] (I, J) = zh_wV 0 (zh_wl w none) [] (I, J) := rfl
  rw [e0, zh_w_0, h4]
  by_cases hk1 : k = 1
  · subst hk1
    have goal : ∃ x, zh_wV 21 (zh_wl w none) [.int (Int32.ofNat (zm_slen.getD w 0)), .int (I 0 6 - I 0 5)] (I, J) = some (some (.int x), (I, J)) ∧ ((x = 1 ∧ zp_is T 1 s e w) ∨ (x = 0 ∧ ¬ zp_is T 1 s e w)) := by
      have es : (I 0 6 - I 0 5).toInt = (e - s : Nat) := by rw [h6, h5, zh_sub (by rw [zp_o (by omega), zp_o (by omega)]; omega) (by rw [zp_o (by omega), zp_o (by omega)]; omega), zp_o (by omega), zp_o (by omega)]; omega
      rw [zh_w_21]
      by_cases c : I 0 6 - I 0 5 = Int32.ofNat (zm_slen.getD w 0)
      · have cz := congrArg Int32.toInt c
        rw [es, zp_o (by omega)] at cz
        rw [if_pos c, zh_w_26]
        obtain ⟨x, q1, q2⟩ := zp_w28 (J := J) w hw hh hn he (by omega) _ 0 (Nat.zero_add _) (fun j hj => by omega)
        refine ⟨x, q1, ?_⟩
        rcases q2 with ⟨q2, q3⟩ | ⟨q2, q3⟩
        · exact Or.inl ⟨q2, rfl, by omega, q3⟩
        · exact Or.inr ⟨q2, fun z => q3 z.2.2⟩
      · rw [if_neg c]
        refine ⟨0, zh_w_24 I J w none, Or.inr ⟨rfl, fun z => c (Int32.toInt_inj.mp ?_)⟩⟩
        rw [es, zp_o (by omega), z.2.1]
    rw [if_pos (show (Int32.ofNat 1 : Int32) = 1 from rfl), zh_w_8, zm_app_s (zh_recS w hw) rfl (zh_len1 I J w hw)]
    exact goal
  · rw [if_neg (show ¬ (Int32.ofNat k : Int32) = 1 from zp_ne (j := 1) (by omega) (by omega) hk1)]
    exact ⟨0, zh_w_24 I J w none, Or.inr ⟨rfl, fun z => hk1 z.1⟩⟩
end ZPB
end
section
/-! THE TAKES, WITHOUT MACHINES, and the class's -/
abbrev zpA := Nat × Nat × Nat × Int32 × Int32
def zp_adv (T : Nat → Int) (n : Nat) (A : zpA) : zpA := (zp_ki T n (zp_st T n A.2.2.1), zp_st T n A.2.2.1, zp_en T n (zp_st T n A.2.2.1), A.2.2.2.1, A.2.2.2.2)
def zp_ref (x : Int32) (A : zpA) : zpA := if A.2.2.2.1 = 0 then (A.1, A.2.1, A.2.2.1, x, Int32.ofNat A.2.1) else A
noncomputable def zp_tw (T : Nat → Int) (n w : Nat) (A : zpA) : zpA := if A.2.2.2.1 = 0 then @ite _ (zp_is T A.1 A.2.1 A.2.2.1 w) (Classical.propDecidable _) (zp_adv T n A) (zp_ref 1 A) else A
def zp_nu (T : Nat → Int) (n : Nat) (lo hi : Int) (A : zpA) : zpA × Int := if A.2.2.2.1 = 0 then (if A.1 = 2 then (if lo ≤ zp_nx T A.2.1 (A.2.2.1 - A.2.1) ∧ zp_nx T A.2.1 (A.2.2.1 - A.2.1) ≤ hi then (zp_adv T n A, zp_nx T A.2.1 (A.2.2.1 - A.2.1)) else (zp_ref 2 A, 0)) else (zp_ref 1 A, 0)) else (A, 0)
noncomputable def zp_ta (T : Nat → Int) (n w : Nat) (lo hi : Int) (A : zpA) : zpA × Int := zp_nu T n lo hi (zp_tw T n w A)
def zp_ts (T : Nat → Int) (n : Nat) (A : zpA) : zpA := if A.2.2.2.1 = 0 then (if A.1 = 3 then zp_adv T n A else zp_ref 1 A) else A
def zpW (T : Nat → Int) (n : Nat) (A : zpA) : Prop := A.2.1 ≤ n ∧ A.1 = zp_ki T n A.2.1 ∧ A.2.2.1 = zp_en T n A.2.1 ∧ (A.2.2.2.1 = 0 → A.2.2.2.2 = -1)
section ZPC
variable {T : Nat → Int} {n : Nat} {A : zpA}
theorem zp_W_b (h : zpW T n A) : A.2.1 ≤ A.2.2.1 ∧ A.2.2.1 ≤ n ∧ A.1 ≤ 4 ∧ (A.1 ≠ 0 → A.2.1 < A.2.2.1 ∧ A.2.1 < n) := by
  have b := zp_en_b (T := T) h.1
  rw [h.2.2.1]
  refine ⟨b.1, b.2.1, ?_, ?_⟩
  · rw [h.2.1]
    unfold zp_ki
    split
    · exact (zp_kd_b _).2
    · exact Nat.zero_le _
  · intro hk
    rw [h.2.1] at hk
    unfold zp_ki at hk
    by_cases c : A.2.1 < n
    · exact ⟨b.2.2 c, c⟩
    · rw [if_neg c] at hk
      exact absurd rfl hk
theorem zp_W_k (h : zpW T n A) (hk : A.1 = 1 ∨ A.1 = 2) : ∀ j, A.2.1 ≤ j → j < A.2.2.1 → zp_kd (T j) = A.1 := by
  intro j h1 h2
  rw [h.2.2.1] at h2
  exact zp_en_k h.2.1.symm hk j h1 h2
theorem zp_kd1 {b : Int} (h : zp_kd b = 1) : 97 ≤ b ∧ b ≤ 122 := by
  unfold zp_kd at h
  by_cases c : 97 ≤ b ∧ b ≤ 122
  · exact c
  · rw [if_neg c] at h
    split at h
    · omega
    · split at h <;> omega
theorem zp_kd2 {b : Int} (h : zp_kd b = 2) : 48 ≤ b ∧ b ≤ 57 := by
  unfold zp_kd at h
  by_cases c : 97 ≤ b ∧ b ≤ 122
  · rw [if_pos c] at h
    omega
  · rw [if_neg c] at h
    by_cases d : 48 ≤ b ∧ b ≤ 57
    · exact d
    · rw [if_neg d] at h
      split at h <;> omega
theorem zp_W_adv (h : A.2.2.1 ≤ n) (hp : A.2.2.2.1 = 0 → A.2.2.2.2 = -1) : zpW T n (zp_adv T n A) := ⟨(zp_st_b h).2, rfl, rfl, hp⟩
theorem zp_W_ref (x : Int32) (hx : x ≠ 0) (h : zpW T n A) : zpW T n (zp_ref x A) := by
  unfold zp_ref
  split
  · exact ⟨h.1, h.2.1, h.2.2.1, fun z => absurd z hx⟩
  · exact h
theorem zp_W_tw (w : Nat) (h : zpW T n A) : zpW T n (zp_tw T n w A) := by
  unfold zp_tw
  split
  · split
    · exact zp_W_adv (zp_W_b h).2.1 h.2.2.2
    · exact zp_W_ref 1 (by decide) h
  · exact h
theorem zp_W_nu (lo hi : Int) (h : zpW T n A) : zpW T n (zp_nu T n lo hi A).1 := by
  unfold zp_nu
  split
  · split
    · split
      · exact zp_W_adv (zp_W_b h).2.1 h.2.2.2
      · exact zp_W_ref 2 (by decide) h
    · exact zp_W_ref 1 (by decide) h
  · exact h
theorem zp_W_ta (w : Nat) (lo hi : Int) (h : zpW T n A) : zpW T n (zp_ta T n w lo hi A).1 := zp_W_nu lo hi (zp_W_tw w h)
theorem zp_W_ts (h : zpW T n A) : zpW T n (zp_ts T n A) := by
  unfold zp_ts
  split
  · split
    · exact zp_W_adv (zp_W_b h).2.1 h.2.2.2
    · exact zp_W_ref 1 (by decide) h
  · exact h
/-- a fault stays -/
theorem zp_f_ref {x : Int32} (hx : x ≠ 0) : ¬ (zp_ref x A).2.2.2.1 = 0 := by
  unfold zp_ref
  by_cases c : A.2.2.2.1 = 0
  · rw [if_pos c]
    exact hx
  · rw [if_neg c]
    exact c
theorem zp_f_tw {w : Nat} (h : (zp_tw T n w A).2.2.2.1 = 0) : A.2.2.2.1 = 0 := by
  by_cases c : A.2.2.2.1 = 0
  · exact c
  · unfold zp_tw at h
    rw [if_neg c] at h
    exact h
theorem zp_f_nu {lo hi : Int} (h : (zp_nu T n lo hi A).1.2.2.2.1 = 0) : A.2.2.2.1 = 0 := by
  by_cases c : A.2.2.2.1 = 0
  · exact c
  · unfold zp_nu at h
    rw [if_neg c] at h
    exact h
theorem zp_f_ta {w : Nat} {lo hi : Int} (h : (zp_ta T n w lo hi A).1.2.2.2.1 = 0) : A.2.2.2.1 = 0 := zp_f_tw (zp_f_nu h)
theorem zp_r_ta {w : Nat} {lo hi : Int} (h : (zp_ta T n w lo hi A).1.2.2.2.1 = 0) : lo ≤ (zp_ta T n w lo hi A).2 ∧ (zp_ta T n w lo hi A).2 ≤ hi := by
  unfold zp_ta at h ⊢
  generalize zp_tw T n w A = B at h ⊢
  unfold zp_nu at h ⊢
  by_cases c : B.2.2.2.1 = 0
  · rw [if_pos c] at h ⊢
    by_cases c2 : B.1 = 2
    · rw [if_pos c2] at h ⊢
      by_cases c3 : lo ≤ zp_nx T B.2.1 (B.2.2.1 - B.2.1) ∧ zp_nx T B.2.1 (B.2.2.1 - B.2.1) ≤ hi
      · rw [if_pos c3]
        exact c3
      · rw [if_neg c3] at h
        exact absurd h (zp_f_ref (by decide))
    · rw [if_neg c2] at h
      exact absurd h (zp_f_ref (by decide))
  · rw [if_neg c] at h
    exact absurd h c
theorem zp_n_ta {w : Nat} {lo hi : Int} (h : ¬ A.2.2.2.1 = 0) : zp_ta T n w lo hi A = (A, 0) := by
  unfold zp_ta zp_tw
  rw [if_neg h]
  unfold zp_nu
  rw [if_neg h]
theorem zp_n_ts (h : ¬ A.2.2.2.1 = 0) : zp_ts T n A = A := if_neg h
/-- places never go back -/
theorem zp_s_adv (h : zpW T n A) : A.2.2.1 ≤ (zp_adv T n A).2.1 := (zp_st_b (zp_W_b h).2.1).1
theorem zp_s_ref (x : Int32) : (zp_ref x A).2.1 = A.2.1 := by
  unfold zp_ref
  split <;> rfl
theorem zp_s_tw (w : Nat) (h : zpW T n A) : A.2.1 ≤ (zp_tw T n w A).2.1 := by
  have b := zp_W_b h
  have a := zp_s_adv h
  unfold zp_tw
  split
  · split
    · omega
    · rw [zp_s_ref]
      exact Nat.le_refl _
  · exact Nat.le_refl _
theorem zp_s_nu (lo hi : Int) (h : zpW T n A) : A.2.1 ≤ (zp_nu T n lo hi A).1.2.1 := by
  have b := zp_W_b h
  have a := zp_s_adv h
  unfold zp_nu
  split
  · split
    · split
      · exact Nat.le_trans b.1 a
      · exact Nat.le_of_eq (zp_s_ref 2).symm
    · exact Nat.le_of_eq (zp_s_ref 1).symm
  · exact Nat.le_refl _
theorem zp_s_ta (w : Nat) (lo hi : Int) (h : zpW T n A) : A.2.1 ≤ (zp_ta T n w lo hi A).1.2.1 := Nat.le_trans (zp_s_tw w h) (zp_s_nu lo hi (zp_W_tw w h))
theorem zp_nx_hi (h : zpW T n A) (hk : A.1 = 2) : 0 ≤ zp_nx T A.2.1 (A.2.2.1 - A.2.1) ∧ zp_nx T A.2.1 (A.2.2.1 - A.2.1) ≤ 1000 ∧ 0 ≤ zp_nm T A.2.1 (A.2.2.1 - A.2.1) ∧ zp_nm T A.2.1 (A.2.2.1 - A.2.1) ≤ 1000009 ∧ (zp_nx T A.2.1 (A.2.2.1 - A.2.1) = zp_nm T A.2.1 (A.2.2.1 - A.2.1) ∨ (zp_nx T A.2.1 (A.2.2.1 - A.2.1) = 1000 ∧ 1000 ≤ zp_nm T A.2.1 (A.2.2.1 - A.2.1))) := zp_nx_m _ (fun j hj => zp_kd2 ((zp_W_k h (Or.inr hk) _ (by omega) (by omega)).trans hk))
def zpXA (T : Nat → Int) (n : Nat) (A : zpA) (I : Nat → Nat → Int32) : Prop := zpX T n A.1 A.2.1 A.2.2.1 A.2.2.2.1 A.2.2.2.2 I
def zp_fr (I N : Nat → Nat → Int32) : Prop := ∀ a b, a ≠ 0 → N a b = I a b
theorem zp_frr (I : Nat → Nat → Int32) : zp_fr I I := fun _ _ _ => rfl
theorem zp_frt {I K N : Nat → Nat → Int32} (h : zp_fr I K) (h2 : zp_fr K N) : zp_fr I N := fun a b ha => (h2 a b ha).trans (h a b ha)
variable {I : Nat → Nat → Int32} {J : Nat → Nat → Int64}
theorem zp_advXA (hn : n ≤ 800) (he : A.2.2.1 ≤ n) (h : zpXA T n A I) : ∃ N, zF_X8_advance zW_TB [.ref 0] (I, J) = some (none, (N, J)) ∧ zpXA T n (zp_adv T n A) N ∧ zp_fr I N := zp_advX h hn he
theorem zp_refX (x : Int32) (h : zpXA T n A I) : ∃ N, zF_X8_refuse zW_TB [.ref 0, .int x] (I, J) = some (none, (N, J)) ∧ zpXA T n (zp_ref x A) N ∧ zp_fr I N := by
  have hh := h
  obtain ⟨h1, hT, h4, h5, h6, h2, h3⟩ := h
  rw [zf_X8_refuse_TB, zq_X8_refuse_TB_0, h2]
  unfold zp_ref
  by_cases c : A.2.2.2.1 = 0
  · rw [if_pos c, if_pos c, zq_X8_refuse_TB_7, zq_X8_refuse_TB_20]
    refine ⟨_, rfl, ⟨by rw [ze_wj (by decide), ze_wj (by decide), h1], fun i hi => by rw [ze_wo (by decide), ze_wo (by decide), hT i hi], by rw [ze_wj (by decide), ze_wj (by decide), h4], by rw [ze_wj (by decide), ze_wj (by decide), h5], by rw [ze_wj (by decide), ze_wj (by decide), h6], by rw [ze_wj (by decide), ze_wi], by rw [ze_wi, ze_wj (by decide), h5]⟩, fun a b ha => by rw [ze_wo ha, ze_wo ha]⟩
  · rw [if_neg c, if_neg c, zq_X8_refuse_TB_20]
    exact ⟨I, rfl, hh, zp_frr I⟩
theorem zp_twX (w : Nat) (hw : w < 13) (hn : n ≤ 800) (hW : zpW T n A) (h : zpXA T n A I) : ∃ N, zF_X8_takeWord zW_TB [.ref 0, .retAddr w] (I, J) = some (none, (N, J)) ∧ zpXA T n (zp_tw T n w A) N ∧ zp_fr I N := by
  have b := zp_W_b hW
  have h2 := h.2.2.2.2.2.1
  rw [zf_X8_takeWord_TB, zq_X8_takeWord_TB_0, h2]
  unfold zp_tw
  by_cases c : A.2.2.2.1 = 0
  · obtain ⟨x, q1, q2⟩ := zp_isX (J := J) w hw h hn b.2.1 b.1 b.2.2.1
    rw [if_pos c, if_pos c, zc_X8_takeWord_TB_8 _ _ _ q1, zq_X8_takeWord_TB_13]
    rcases q2 with ⟨rfl, q3⟩ | ⟨rfl, q3⟩
    · obtain ⟨N, r1, r2, r3⟩ := zp_advXA (J := J) hn b.2.1 h
      rw [if_neg (by decide), zc_X8_takeWord_TB_16 _ _ _ r1, zq_X8_takeWord_TB_20, zq_X8_takeWord_TB_28, if_pos q3]
      exact ⟨N, rfl, r2, r3⟩
    · obtain ⟨N, r1, r2, r3⟩ := zp_refX (J := J) 1 h
      rw [if_pos rfl, zc_X8_takeWord_TB_23 _ _ _ r1, zq_X8_takeWord_TB_28, if_neg q3]
      exact ⟨N, rfl, r2, r3⟩
  · rw [if_neg c, if_neg c, zq_X8_takeWord_TB_7]
    exact ⟨I, rfl, h, zp_frr I⟩
theorem zp_tsX (hn : n ≤ 800) (hW : zpW T n A) (h : zpXA T n A I) : ∃ N, zF_X8_takeSign zW_TB [.ref 0] (I, J) = some (none, (N, J)) ∧ zpXA T n (zp_ts T n A) N ∧ zp_fr I N := by
  have b := zp_W_b hW
  have h2 := h.2.2.2.2.2.1
  have h4 := h.2.2.1
  rw [zf_X8_takeSign_TB, zq_X8_takeSign_TB_0, h2]
  unfold zp_ts
  by_cases c : A.2.2.2.1 = 0
  · rw [if_pos c, if_pos c, zq_X8_takeSign_TB_8, h4]
    by_cases d : A.1 = 3
    · obtain ⟨N, r1, r2, r3⟩ := zp_advXA (J := J) hn b.2.1 h
      rw [if_pos (by rw [d]; rfl), zc_X8_takeSign_TB_16 _ _ r1, zq_X8_takeSign_TB_20, zq_X8_takeSign_TB_28, if_pos d]
      exact ⟨N, rfl, r2, r3⟩
    · obtain ⟨N, r1, r2, r3⟩ := zp_refX (J := J) 1 h
      rw [if_neg (show ¬ (Int32.ofNat A.1 : Int32) = 3 from zp_ne (j := 3) (by omega) (by omega) d), zc_X8_takeSign_TB_23 _ _ r1, zq_X8_takeSign_TB_28, if_neg d]
      exact ⟨N, rfl, r2, r3⟩
  · rw [if_neg c, if_neg c, zq_X8_takeSign_TB_7]
    exact ⟨I, rfl, h, zp_frr I⟩
theorem zp_taX (w : Nat) (hw : w < 13) (hn : n ≤ 800) (hW : zpW T n A) (h : zpXA T n A I) (lo hi : Int32) : ∃ (r : Int32) (N : Nat → Nat → Int32), zF_X8_takeAfter zW_TB [.ref 0, .retAddr w, .int lo, .int hi] (I, J) = some (some (.int r), (N, J)) ∧ r.toInt = (zp_ta T n w lo.toInt hi.toInt A).2 ∧ zpXA T n (zp_ta T n w lo.toInt hi.toInt A).1 N ∧ zp_fr I N := by
  obtain ⟨K, q1, q2, q3⟩ := zp_twX (J := J) w hw hn hW h
  have hW := zp_W_tw w hW
  rw [zf_X8_takeAfter_TB, zc_X8_takeAfter_TB_0 _ _ _ _ _ q1]
  unfold zp_ta
  generalize zp_tw T n w A = B at q2 hW
  have b := zp_W_b hW
  have h2 := q2.2.2.2.2.2.1
  have h4 := q2.2.2.1
  have h5 := q2.2.2.2.1
  rw [zq_X8_takeAfter_TB_5, h2]
  unfold zp_nu
  by_cases c : B.2.2.2.1 = 0
  · rw [if_pos c, if_pos c, zq_X8_takeAfter_TB_14, h4]
    by_cases d : B.1 = 2
    · have hx := zp_nx_hi hW d
      have e7 : zF_X8_valueHere zW_TB [.ref 0] (K, J) = zv_X8_valueHere_TB_7 K J 0 (Int32.ofNat (B.2.1 + 0)) := by rw [zf_X8_valueHere_TB, zq_X8_valueHere_TB_0, h5, Nat.add_zero]
      obtain ⟨r, r1, r2⟩ := zp_vaX (J := J) q2 hn b.2.1 (fun j j1 j2 => zp_kd2 ((zp_W_k hW (Or.inr d) j j1 j2).trans d)) (B.2.2.1 - B.2.1) 0 0 (by omega) (by rw [zp_nx_0]; rfl)
      rw [if_pos (by rw [d]; rfl), zc_X8_takeAfter_TB_29 _ _ _ _ _ (e7.trans r1), if_pos d, zq_X8_takeAfter_TB_33]
      by_cases lo1 : r < lo
      · obtain ⟨N, s1, s2, s3⟩ := zp_refX (J := J) 2 q2
        rw [if_pos lo1, zc_X8_takeAfter_TB_47 _ _ _ _ _ _ s1, zq_X8_takeAfter_TB_52]
        rw [ze_lt, r2] at lo1
        rw [if_neg (by omega)]
        exact ⟨0, N, rfl, rfl, s2, zp_frt q3 s3⟩
      · rw [if_neg lo1, zq_X8_takeAfter_TB_41]
        rw [ze_lt, r2] at lo1
        by_cases hi1 : r ≤ hi
        · obtain ⟨N, s1, s2, s3⟩ := zp_advXA (J := J) hn b.2.1 q2
          rw [if_pos hi1, zc_X8_takeAfter_TB_54 _ _ _ _ _ _ s1, zq_X8_takeAfter_TB_58]
          rw [ze_le, r2] at hi1
          rw [if_pos (by omega)]
          exact ⟨r, N, rfl, r2, s2, zp_frt q3 s3⟩
        · obtain ⟨N, s1, s2, s3⟩ := zp_refX (J := J) 2 q2
          rw [if_neg hi1, zc_X8_takeAfter_TB_47 _ _ _ _ _ _ s1, zq_X8_takeAfter_TB_52]
          rw [ze_le, r2] at hi1
          rw [if_neg (by omega)]
          exact ⟨0, N, rfl, rfl, s2, zp_frt q3 s3⟩
    · obtain ⟨N, s1, s2, s3⟩ := zp_refX (J := J) 1 q2
      rw [if_neg (show ¬ (Int32.ofNat B.1 : Int32) = 2 from zp_ne (j := 2) (by omega) (by omega) d), zc_X8_takeAfter_TB_22 _ _ _ _ _ s1, zq_X8_takeAfter_TB_27, if_neg d]
      exact ⟨0, N, rfl, rfl, s2, zp_frt q3 s3⟩
  · rw [if_neg c, if_neg c, zq_X8_takeAfter_TB_12]
    exact ⟨0, K, rfl, rfl, q2, q3⟩
end ZPC
end
section
/-! THE REFERENCE'S TAPE, exactly -/
def zpM (T : Nat → Int) (n : Nat) (A : zpA) (I : Nat → Nat → Int32) (J : Nat → Nat → Int64) : Prop := I 0 6 = Int32.ofNat n ∧ (∀ i, i < n → zp_sg (I 5 i).toInt (T i)) ∧ I 0 8 = Int32.ofNat A.1 ∧ I 0 9 = Int32.ofNat A.2.1 ∧ I 0 7 = Int32.ofNat A.2.2.1 ∧ I 0 12 = A.2.2.2.1 ∧ I 0 13 = A.2.2.2.2 ∧ (A.1 = 2 → (I 0 10).toInt = zp_nm T A.2.1 (A.2.2.1 - A.2.1)) ∧ (A.1 = 1 → (J 0 11).toInt = if A.2.2.1 - A.2.1 ≤ 12 then zp_wv T A.2.1 (A.2.2.1 - A.2.1) else -1)
/-- what next keeps: all cells but the object's own -/
def zp_frL (J P : Nat → Nat → Int64) : Prop := ∀ a b, a ≠ 0 → P a b = J a b
section ZPD
variable {T : Nat → Int} {n : Nat} {A : zpA} {I : Nat → Nat → Int32} {J : Nat → Nat → Int64}
theorem zp_byM (h6 : I 0 6 = Int32.ofNat n) (hn : n ≤ 800) {i : Nat} (hi : i ≤ 1000) (lo hi' : Int32) : zF_X10_isByte zW_M [.ref 0, .int (Int32.ofNat i), .int lo, .int hi'] (I, J) = some (some (.int (if i < n ∧ lo.toInt ≤ (I 5 i).toInt ∧ (I 5 i).toInt ≤ hi'.toInt then 1 else 0)), (I, J)) := by
  have e0 : zv_X10_isByte_M_32 I J (Int32.ofNat i) lo hi' = some (some (.int 0), (I, J)) := by rw [zq_X10_isByte_M_32, zq_X10_isByte_M_33, if_pos (Or.inl rfl)]
  rw [zf_X10_isByte_M, zq_X10_isByte_M_0, h6]
  by_cases hl : i < n
  · rw [if_neg (fun z => by have := (zp_le (by omega) hi).mp z; omega), zq_X10_isByte_M_8, if_neg (zp_in hi (by omega)), zp_cl hi]
    by_cases c : I 5 i < lo
    · rw [if_pos c, e0]
      rw [ze_lt] at c
      rw [if_neg (by omega)]
    · rw [if_neg c, zq_X10_isByte_M_18, if_neg (zp_in hi (by omega)), zp_cl hi]
      rw [ze_lt] at c
      by_cases d : hi' < I 5 i
      · rw [if_pos d, e0]
        rw [ze_lt] at d
        rw [if_neg (by omega)]
      · rw [if_neg d, zq_X10_isByte_M_28, zq_X10_isByte_M_33, if_pos (Or.inr rfl)]
        rw [ze_lt] at d
        rw [if_pos (by omega)]
  · rw [if_pos ((zp_le (by omega) hi).mpr (by omega)), e0, if_neg (fun z => hl z.1)]
theorem zp_sg32 {b t x : Int} (h : zp_sg b t) (hx : 0 ≤ x ∧ x < 128) : (x ≤ b ∧ b ≤ x) ↔ t = x := by
  rcases h with ⟨rfl, h2⟩ | ⟨h1, h2⟩ <;> omega
theorem zp_sgR {b t x y : Int} (h : zp_sg b t) (hx : 0 ≤ x) (hy : y < 128) : (x ≤ b ∧ b ≤ y) ↔ (x ≤ t ∧ t ≤ y) := by
  rcases h with ⟨rfl, h2⟩ | ⟨h1, h2⟩ <;> omega
theorem zp_kd1i (t : Int) : zp_kd t = 1 ↔ (97 ≤ t ∧ t ≤ 122) := ⟨zp_kd1, fun h => if_pos h⟩
theorem zp_kd2i (t : Int) : zp_kd t = 2 ↔ (48 ≤ t ∧ t ≤ 57) := ⟨zp_kd2, fun h => (if_neg (by omega)).trans (if_pos h)⟩
/-- skipping blanks -/
theorem zp_n0 (h6 : I 0 6 = Int32.ofNat n) (hT : ∀ i, i < n → zp_sg (I 5 i).toInt (T i)) (hn : n ≤ 800) : ∀ (d i : Nat) (K : Nat → Nat → Int32), n - i ≤ d → i ≤ n → K 0 7 = Int32.ofNat i → (∀ a b, ¬ (a = 0 ∧ b = 7) → K a b = I a b) → ∃ K', zv_X10_next_M_0 K J = zv_X10_next_M_43 K' J ∧ K' 0 7 = Int32.ofNat (zp_sk T n d i) ∧ ∀ a b, ¬ (a = 0 ∧ b = 7) → K' a b = I a b := by
  have c32 : (32 : Int32).toInt = 32 := by decide
  have c10 : (10 : Int32).toInt = 10 := by decide
  intro d
  induction d with
  | zero =>
    intro i K hd hi h7 ho
    have k6 : K 0 6 = Int32.ofNat n := (ho 0 6 (by omega)).trans h6
    refine ⟨K, ?_, h7, ho⟩
    rw [zc_X10_next_M_0 K J (I2 := K) (J2 := J) (r := 0) (by rw [h7, zp_byM k6 hn (by omega), if_neg (by omega)]), zq_X10_next_M_12, if_pos rfl, zc_X10_next_M_15 K J (I2 := K) (J2 := J) (r := 0) (by rw [h7, zp_byM k6 hn (by omega), if_neg (by omega)]), zq_X10_next_M_27, if_pos rfl]
  | succ d ih =>
    intro i K hd hi h7 ho
    have k6 : K 0 6 = Int32.ofNat n := (ho 0 6 (by omega)).trans h6
    by_cases hb : i < n ∧ (T i = 32 ∨ T i = 10)
    · have sg := hT i hb.1
      rw [← ho 5 i (by omega)] at sg
      have step : zv_X10_next_M_0 K J = zv_X10_next_M_30 K J := by
        by_cases c : T i = 32
        · rw [zc_X10_next_M_0 K J (I2 := K) (J2 := J) (r := 1) (by rw [h7, zp_byM k6 hn (by omega), if_pos ⟨hb.1, by rw [c32]; exact (zp_sg32 sg (by omega)).mpr c⟩]), zq_X10_next_M_12, if_neg (by decide)]
        · rw [zc_X10_next_M_0 K J (I2 := K) (J2 := J) (r := 0) (by rw [h7, zp_byM k6 hn (by omega), if_neg (fun z => c ((zp_sg32 sg (x := 32) (by omega)).mp (by rw [c32] at z; exact z.2)))]), zq_X10_next_M_12, if_pos rfl, zc_X10_next_M_15 K J (I2 := K) (J2 := J) (r := 1) (by rw [h7, zp_byM k6 hn (by omega), if_pos ⟨hb.1, by rw [c10]; exact (zp_sg32 sg (by omega)).mpr (hb.2.resolve_left c)⟩]), zq_X10_next_M_27, if_neg (by decide)]
      rw [step, zq_X10_next_M_30, h7, zp_o1 (by omega), zp_sk_s, if_pos hb]
      exact ih (i + 1) _ (by omega) (by omega) ze_wi (fun a b hab => by
        by_cases e : a = 0
        · subst e
          rw [ze_wj (fun q => hab ⟨rfl, q⟩)]
          exact ho 0 b hab
        · rw [ze_wo e]
          exact ho a b hab)
    · refine ⟨K, ?_, by rw [zp_sk_s, if_neg hb]; exact h7, ho⟩
      have no : ∀ x : Int32, (x.toInt = 32 ∨ x.toInt = 10) → ¬ (i < n ∧ x.toInt ≤ (K 5 i).toInt ∧ (K 5 i).toInt ≤ x.toInt) := by
        intro x hx z
        have sg := hT i z.1
        rw [← ho 5 i (by omega)] at sg
        have t := (zp_sg32 sg (x := x.toInt) (by omega)).mp z.2
        exact hb ⟨z.1, by omega⟩
      rw [zc_X10_next_M_0 K J (I2 := K) (J2 := J) (r := 0) (by rw [h7, zp_byM k6 hn (by omega), if_neg (no 32 (Or.inl c32))]), zq_X10_next_M_12, if_pos rfl, zc_X10_next_M_15 K J (I2 := K) (J2 := J) (r := 0) (by rw [h7, zp_byM k6 hn (by omega), if_neg (no 10 (Or.inr c10))]), zq_X10_next_M_27, if_pos rfl]
theorem zp_27 : ∀ j, j < 12 → (27 : Int) ^ j ≤ 5559060566555523 := by decide +kernel
/-- a word's letters -/
theorem zp_n102 (hn : n ≤ 800) {s : Nat} : ∀ (d j : Nat) (l : Int32) (K : Nat → Nat → Int32) (P : Nat → Nat → Int64), n - (s + j) ≤ d → s + j ≤ n → K 0 6 = Int32.ofNat n → (∀ i, i < n → zp_sg (K 5 i).toInt (T i)) → K 0 7 = Int32.ofNat (s + j) → l = Int32.ofNat j → (P 0 11).toInt = (if j ≤ 12 then zp_wv T s j else -1) → (∀ i, i < j → 97 ≤ T (s + i) ∧ T (s + i) ≤ 122) → ∃ (K' : Nat → Nat → Int32) (P' : Nat → Nat → Int64), zv_X10_next_M_102 K P l = some (none, (K', P')) ∧ K' 0 7 = Int32.ofNat (zp_gr T n 1 d (s + j)) ∧ (P' 0 11).toInt = (if zp_gr T n 1 d (s + j) - s ≤ 12 then zp_wv T s (zp_gr T n 1 d (s + j) - s) else -1) ∧ (∀ a b, ¬ (a = 0 ∧ b = 7) → K' a b = K a b) ∧ zp_frL P P' := by
  intro d
  induction d with
  | zero =>
    intro j l K P hd hi k6 hT h7 hl hw hr
    refine ⟨K, P, ?_, h7, ?_, fun _ _ _ => rfl, fun _ _ _ => rfl⟩
    · rw [zc_X10_next_M_102 K P _ (I2 := K) (J2 := P) (r := 0) (by rw [h7, zp_byM k6 hn (by omega), if_neg (by omega)]), zq_X10_next_M_114, if_pos rfl, zq_X10_next_M_185, zq_X10_next_M_307]
    · rw [zp_gr_0, show s + j - s = j by omega]
      exact hw
  | succ d ih =>
    intro j l K P hd hi k6 hT h7 hl hw hr
    by_cases hb : s + j < n ∧ zp_kd (T (s + j)) = 1
    · have sg := hT (s + j) hb.1
      have lt := (zp_kd1i _).mp hb.2
      have by1 : (K 5 (s + j)).toInt = T (s + j) := by
        rcases sg with ⟨e, -⟩ | ⟨e, -⟩
        · exact e
        · omega
      rw [zc_X10_next_M_102 K P _ (I2 := K) (J2 := P) (r := 1) (by rw [h7, zp_byM k6 hn (by omega), if_pos ⟨hb.1, by rw [zp_c97, zp_c122]; exact (zp_sgR sg (by omega) (by omega)).mpr lt⟩]), zq_X10_next_M_114, if_neg (by decide), zq_X10_next_M_117, hl, zp_gr_s, if_pos hb]
      have c11 : (11 : Int32) = Int32.ofNat 11 := rfl
      have c27 : (27 : Int64).toInt = 27 := by decide
      have c96 : (96 : Int64).toInt = 96 := by decide
      have fin : ∀ x : Int64, x.toInt = (if j + 1 ≤ 12 then zp_wv T s (j + 1) else -1) → ∃ (K' : Nat → Nat → Int32) (P' : Nat → Nat → Int64), zv_X10_next_M_169 K (zm_wl P 0 11 x) (Int32.ofNat j) = some (none, (K', P')) ∧ K' 0 7 = Int32.ofNat (zp_gr T n 1 d (s + j + 1)) ∧ (P' 0 11).toInt = (if zp_gr T n 1 d (s + j + 1) - s ≤ 12 then zp_wv T s (zp_gr T n 1 d (s + j + 1) - s) else -1) ∧ (∀ a b, ¬ (a = 0 ∧ b = 7) → K' a b = K a b) ∧ zp_frL P P' := by
        intro x hx
        rw [zq_X10_next_M_169, h7, zp_o1 (by omega), zp_o1 (by omega)]
        obtain ⟨K', P', q1, q2, q3, q4, q5⟩ := ih (j + 1) (Int32.ofNat (j + 1)) (zm_w K 0 7 (Int32.ofNat (s + j + 1))) (zm_wl P 0 11 x) (by omega) (by omega) (by rw [ze_wj (by decide), k6]) (fun i hi => by rw [ze_wo (by decide)]; exact hT i hi) ze_wi rfl (by unfold zm_wl; rw [if_pos ⟨rfl, rfl⟩]; exact hx) (fun i hi => by
          by_cases e : i = j
          · rw [e]; exact lt
          · exact hr i (by omega))
        refine ⟨K', P', q1, q2, q3, fun a b hab => ?_, fun a b ha => ?_⟩
        · rw [q4 a b hab]
          by_cases e : a = 0
          · subst e
            exact ze_wj (fun q => hab ⟨rfl, q⟩)
          · exact ze_wo e
        · rw [q5 a b ha]
          unfold zm_wl
          rw [if_neg (fun q => ha q.1)]
      by_cases c : j ≤ 11
      · have hb2 := zp_wv_b j hr
        have h27 := zp_27 j (by omega)
        rw [if_pos (show j ≤ 12 by omega)] at hw
        have e1 : (27 * P 0 11).toInt = 27 * zp_wv T s j := by
          rw [Int64.toInt_mul, c27, hw]
          exact zt_bmL (by omega) (by omega)
        have e2 : (27 * P 0 11 + Int32.toInt64 (K 5 (s + j))).toInt = 27 * zp_wv T s j + T (s + j) := by
          rw [Int64.toInt_add, e1, Int32.toInt_toInt64, by1]
          exact zt_bmL (by omega) (by omega)
        have e3 : (27 * P 0 11 + Int32.toInt64 (K 5 (s + j)) - 96).toInt = 27 * zp_wv T s j + T (s + j) - 96 := by
          rw [Int64.toInt_sub, e2, c96]
          exact zt_bmL (by omega) (by omega)
        rw [if_pos (by rw [c11]; exact (zp_le (by omega) (by omega)).mpr c), zq_X10_next_M_130, h7, if_neg (zp_in (by omega) (by omega)), zp_cl (by omega), zq_X10_next_M_153, if_pos (by rw [c11]; exact (zp_le (by omega) (by omega)).mpr c)]
        refine fin _ ?_
        rw [e3, if_pos (by omega), zp_wv_s]
        omega
      · have nl : ¬ (Int32.ofNat j ≤ (11 : Int32)) := fun z => by
          rw [c11] at z
          have := (zp_le (by omega) (by omega)).mp z
          omega
        rw [if_neg nl, zq_X10_next_M_124, zq_X10_next_M_153, if_neg nl, zq_X10_next_M_162]
        have w2 : zm_wl (zm_wl P 0 11 (-1)) 0 11 (-1) = zm_wl P 0 11 (-1) := by
          funext a b
          unfold zm_wl
          split <;> rfl
        rw [w2]
        refine fin _ ?_
        rw [if_neg (by omega)]
        decide
    · refine ⟨K, P, ?_, by rw [zp_gr_s, if_neg hb]; exact h7, ?_, fun _ _ _ => rfl, fun _ _ _ => rfl⟩
      · have no : ¬ (s + j < n ∧ (97 : Int32).toInt ≤ (K 5 (s + j)).toInt ∧ (K 5 (s + j)).toInt ≤ (122 : Int32).toInt) := by
          intro z
          rw [zp_c97, zp_c122] at z
          exact hb ⟨z.1, (zp_kd1i _).mpr ((zp_sgR (hT _ z.1) (by omega) (by omega)).mp z.2)⟩
        rw [zc_X10_next_M_102 K P _ (I2 := K) (J2 := P) (r := 0) (by rw [h7, zp_byM k6 hn (by omega), if_neg no]), zq_X10_next_M_114, if_pos rfl, zq_X10_next_M_185, zq_X10_next_M_307]
      · rw [zp_gr_s, if_neg hb, show s + j - s = j by omega]
        exact hw
/-- a number's digits -/
theorem zp_n208 (hn : n ≤ 800) {s : Nat} {P : Nat → Nat → Int64} : ∀ (d j : Nat) (K : Nat → Nat → Int32), n - (s + j) ≤ d → s + j ≤ n → K 0 6 = Int32.ofNat n → (∀ i, i < n → zp_sg (K 5 i).toInt (T i)) → K 0 7 = Int32.ofNat (s + j) → (K 0 10).toInt = zp_nm T s j → (∀ i, i < j → 48 ≤ T (s + i) ∧ T (s + i) ≤ 57) → ∃ (K' : Nat → Nat → Int32), zv_X10_next_M_208 K P = some (none, (K', P)) ∧ K' 0 7 = Int32.ofNat (zp_gr T n 2 d (s + j)) ∧ (K' 0 10).toInt = zp_nm T s (zp_gr T n 2 d (s + j) - s) ∧ (∀ a b, ¬ (a = 0 ∧ (b = 7 ∨ b = 10)) → K' a b = K a b) := by
  intro d
  induction d with
  | zero =>
    intro j K hd hi k6 hT h7 hw hr
    refine ⟨K, ?_, h7, ?_, fun _ _ _ => rfl⟩
    · rw [zc_X10_next_M_208 K P (I2 := K) (J2 := P) (r := 0) (by rw [h7, zp_byM k6 hn (by omega), if_neg (by omega)]), zq_X10_next_M_220, if_pos rfl, zq_X10_next_M_307]
    · rw [zp_gr_0, show s + j - s = j by omega]
      exact hw
  | succ d ih =>
    intro j K hd hi k6 hT h7 hw hr
    by_cases hb : s + j < n ∧ zp_kd (T (s + j)) = 2
    · have sg := hT (s + j) hb.1
      have lt := (zp_kd2i _).mp hb.2
      have by1 : (K 5 (s + j)).toInt = T (s + j) := by
        rcases sg with ⟨e, -⟩ | ⟨e, -⟩
        · exact e
        · omega
      have hx := zp_nx_m (T := T) (s := s) j hr
      have c5 : (100000 : Int32).toInt = 100000 := by decide
      have c10 : (10 : Int32).toInt = 10 := by decide
      rw [zc_X10_next_M_208 K P (I2 := K) (J2 := P) (r := 1) (by rw [h7, zp_byM k6 hn (by omega), if_pos ⟨hb.1, by rw [zp_c48, zp_c57]; exact (zp_sgR sg (by omega) (by omega)).mpr lt⟩]), zq_X10_next_M_220, if_neg (by decide), zq_X10_next_M_223, zp_gr_s, if_pos hb]
      have fin : ∀ x : Int32, x.toInt = zp_nm T s (j + 1) → ∃ (K' : Nat → Nat → Int32), zv_X10_next_M_258 K P x = some (none, (K', P)) ∧ K' 0 7 = Int32.ofNat (zp_gr T n 2 d (s + j + 1)) ∧ (K' 0 10).toInt = zp_nm T s (zp_gr T n 2 d (s + j + 1) - s) ∧ (∀ a b, ¬ (a = 0 ∧ (b = 7 ∨ b = 10)) → K' a b = K a b) := by
        intro x hx
        rw [zq_X10_next_M_258, ze_wj (by decide), h7, zp_o1 (by omega)]
        obtain ⟨K', q1, q2, q3, q4⟩ := ih (j + 1) (zm_w (zm_w K 0 10 x) 0 7 (Int32.ofNat (s + j + 1))) (by omega) (by omega) (by rw [ze_wj (by decide), ze_wj (by decide), k6]) (fun i hi => by rw [ze_wo (by decide), ze_wo (by decide)]; exact hT i hi) ze_wi (by rw [ze_wj (by decide), ze_wi]; exact hx) (fun i hi => by
          by_cases e : i = j
          · rw [e]; exact lt
          · exact hr i (by omega))
        refine ⟨K', q1, q2, q3, fun a b hab => ?_⟩
        rw [q4 a b hab]
        by_cases e : a = 0
        · subst e
          rw [ze_wj (fun q => hab ⟨rfl, Or.inl q⟩), ze_wj (fun q => hab ⟨rfl, Or.inr q⟩)]
        · rw [ze_wo e, ze_wo e]
      by_cases c : K 0 10 ≤ 100000
      · rw [if_pos c, zq_X10_next_M_238, h7, if_neg (zp_in (by omega) (by omega)), zp_cl (by omega)]
        rw [ze_le, hw, c5] at c
        have e1 : (10 * K 0 10).toInt = 10 * zp_nm T s j := by rw [zh_mul (by rw [c10, hw]; omega) (by rw [c10, hw]; omega), c10, hw]
        have e2 : (10 * K 0 10 + K 5 (s + j)).toInt = 10 * zp_nm T s j + T (s + j) := by rw [zh_add (by rw [e1, by1]; omega) (by rw [e1, by1]; omega), e1, by1]
        have e3 : (10 * K 0 10 + K 5 (s + j) - 48).toInt = 10 * zp_nm T s j + T (s + j) - 48 := by rw [zh_sub (by rw [e2, zp_c48]; omega) (by rw [e2, zp_c48]; omega), e2, zp_c48]
        refine fin _ ?_
        rw [e3, zp_nm_s, if_pos c]
      · rw [if_neg c, zq_X10_next_M_233]
        rw [ze_le, hw, c5] at c
        refine fin _ ?_
        rw [zp_nm_s, if_neg c]
        decide
    · refine ⟨K, ?_, by rw [zp_gr_s, if_neg hb]; exact h7, ?_, fun _ _ _ => rfl⟩
      · have no : ¬ (s + j < n ∧ (48 : Int32).toInt ≤ (K 5 (s + j)).toInt ∧ (K 5 (s + j)).toInt ≤ (57 : Int32).toInt) := by
          intro z
          rw [zp_c48, zp_c57] at z
          exact hb ⟨z.1, (zp_kd2i _).mpr ((zp_sgR (hT _ z.1) (by omega) (by omega)).mp z.2)⟩
        rw [zc_X10_next_M_208 K P (I2 := K) (J2 := P) (r := 0) (by rw [h7, zp_byM k6 hn (by omega), if_neg no]), zq_X10_next_M_220, if_pos rfl, zq_X10_next_M_307]
      · rw [zp_gr_s, if_neg hb, show s + j - s = j by omega]
        exact hw
end ZPD
end
section
/-! THE REFERENCE'S TAKES -/
theorem zp_frLr (J : Nat → Nat → Int64) : zp_frL J J := fun _ _ _ => rfl
theorem zp_frLt {J K P : Nat → Nat → Int64} (h : zp_frL J K) (h2 : zp_frL K P) : zp_frL J P := fun a b ha => (h2 a b ha).trans (h a b ha)
def zp_wt (w j : Nat) : Int := ((zm_sbyt.getD w []).getD j 0).toInt
def zp_wd (w : Nat) (W : Int64) : Prop := W.toInt = zp_wv (zp_wt w) 0 (zm_slen.getD w 0) ∧ zm_slen.getD w 0 ≤ 12 ∧ ∀ j, j < zm_slen.getD w 0 → 97 ≤ zp_wt w j ∧ zp_wt w j ≤ 122
theorem zp_wd0 : zp_wd 0 1171592 := by unfold zp_wd; decide +kernel
theorem zp_wd1 : zp_wd 1 8798 := by unfold zp_wd; decide +kernel
theorem zp_wd2 : zp_wd 2 456399 := by unfold zp_wd; decide +kernel
theorem zp_wd3 : zp_wd 3 3094387 := by unfold zp_wd; decide +kernel
theorem zp_wd4 : zp_wd 4 298288 := by unfold zp_wd; decide +kernel
theorem zp_wd5 : zp_wd 5 377669 := by unfold zp_wd; decide +kernel
theorem zp_wd6 : zp_wd 6 10656676 := by unfold zp_wd; decide +kernel
theorem zp_wd7 : zp_wd 7 3913426 := by unfold zp_wd; decide +kernel
theorem zp_wd8 : zp_wd 8 43823259 := by unfold zp_wd; decide +kernel
theorem zp_wd9 : zp_wd 9 923 := by unfold zp_wd; decide +kernel
theorem zp_wd10 : zp_wd 10 1899199 := by unfold zp_wd; decide +kernel
theorem zp_wd11 : zp_wd 11 404923 := by unfold zp_wd; decide +kernel
theorem zp_wd12 : zp_wd 12 555 := by unfold zp_wd; decide +kernel
section ZPE
variable {T : Nat → Int} {n : Nat} {A : zpA} {I : Nat → Nat → Int32} {J : Nat → Nat → Int64}
theorem zp_nextM (hn : n ≤ 800) (he : A.2.2.1 ≤ n) (h6 : I 0 6 = Int32.ofNat n) (hT : ∀ i, i < n → zp_sg (I 5 i).toInt (T i)) (h7 : I 0 7 = Int32.ofNat A.2.2.1) (h12 : I 0 12 = A.2.2.2.1) (h13 : I 0 13 = A.2.2.2.2) : ∃ N P, zF_X10_next zW_M [.ref 0] (I, J) = some (none, (N, P)) ∧ zpM T n (zp_adv T n A) N P ∧ zp_fr I N ∧ zp_frL J P := by
  have hs2 := (zp_st_b (T := T) he).2
  obtain ⟨K, q1, q2, q3⟩ := zp_n0 (J := J) h6 hT hn (n - A.2.2.1) A.2.2.1 I (Nat.le_refl _) he h7 (fun _ _ _ => rfl)
  rw [show zp_sk T n (n - A.2.2.1) A.2.2.1 = zp_st T n A.2.2.1 from rfl] at q2
  rw [zf_X10_next_M, q1, zq_X10_next_M_43, q2]
  unfold zp_adv
  generalize zp_st T n A.2.2.1 = s at hs2 q2
  have l6 : zm_w (zm_w K 0 9 (Int32.ofNat s)) 0 10 0 0 6 = Int32.ofNat n := by rw [ze_wj (by decide), ze_wj (by decide), q3 0 6 (by omega), h6]
  have l7 : zm_w (zm_w K 0 9 (Int32.ofNat s)) 0 10 0 0 7 = Int32.ofNat s := by rw [ze_wj (by decide), ze_wj (by decide), q2]
  have l9 : zm_w (zm_w K 0 9 (Int32.ofNat s)) 0 10 0 0 9 = Int32.ofNat s := by rw [ze_wj (by decide), ze_wi]
  have l10 : zm_w (zm_w K 0 9 (Int32.ofNat s)) 0 10 0 0 10 = 0 := ze_wi
  have l12 : zm_w (zm_w K 0 9 (Int32.ofNat s)) 0 10 0 0 12 = A.2.2.2.1 := by rw [ze_wj (by decide), ze_wj (by decide), q3 0 12 (by omega), h12]
  have l13 : zm_w (zm_w K 0 9 (Int32.ofNat s)) 0 10 0 0 13 = A.2.2.2.2 := by rw [ze_wj (by decide), ze_wj (by decide), q3 0 13 (by omega), h13]
  have lo : zp_fr I (zm_w (zm_w K 0 9 (Int32.ofNat s)) 0 10 0) := fun a b ha => by rw [ze_wo ha, ze_wo ha, q3 a b (fun z => ha z.1)]
  have lT : ∀ i, i < n → zp_sg (zm_w (zm_w K 0 9 (Int32.ofNat s)) 0 10 0 5 i).toInt (T i) := fun i hi => by rw [lo 5 i (by decide)]; exact hT i hi
  have p11 : (zm_wl J 0 11 0 0 11).toInt = 0 := by unfold zm_wl; rw [if_pos ⟨rfl, rfl⟩]; rfl
  have pf : zp_frL J (zm_wl J 0 11 0) := fun a b ha => by unfold zm_wl; rw [if_neg (fun z => ha z.1)]
  rw [l7, l6]
  generalize zm_w (zm_w K 0 9 (Int32.ofNat s)) 0 10 0 = L at l6 l7 l9 l10 l12 l13 lo lT
  generalize zm_wl J 0 11 0 = Q at p11 pf
  unfold zp_ki zp_en
  by_cases hl : s < n
  · have sg := lT s hl
    rw [if_neg (zp_ne (by omega) (by omega) (by omega)), if_pos hl, if_pos hl]
    by_cases k1 : zp_kd (T s) = 1
    · have lt := (zp_kd1i _).mp k1
      rw [zc_X10_next_M_80 L Q (I2 := L) (J2 := Q) (r := 1) (by rw [l7, zp_byM l6 hn (by omega), if_pos ⟨hl, by rw [zp_c97, zp_c122]; exact (zp_sgR sg (by omega) (by omega)).mpr lt⟩]), zq_X10_next_M_92, if_neg (by decide), zq_X10_next_M_95]
      obtain ⟨N, P, r1, r2, r3, r4, r5⟩ := zp_n102 (T := T) hn (s := s) (n - (s + 1) + 1) 0 0 (zm_w L 0 8 1) Q (by omega) (by omega) (by rw [ze_wj (by decide), l6]) (fun i hi => by rw [ze_wo (by decide)]; exact lT i hi) (by rw [ze_wj (by decide), l7]; rfl) rfl (by rw [p11, if_pos (by omega), zp_wv_0]) (fun i hi => by omega)
      rw [Nat.add_zero s, zp_gr_s, if_pos (show s < n ∧ zp_kd (T s) = 1 from ⟨hl, k1⟩)] at r2 r3
      rw [k1, if_pos (by omega), r1]
      refine ⟨N, P, rfl, ⟨by rw [r4 0 6 (by omega), ze_wj (by decide), l6], fun i hi => by rw [r4 5 i (by omega), ze_wo (by decide)]; exact lT i hi, by rw [r4 0 8 (by omega), ze_wi]; rfl, by rw [r4 0 9 (by omega), ze_wj (by decide), l9], r2, by rw [r4 0 12 (by omega), ze_wj (by decide), l12], by rw [r4 0 13 (by omega), ze_wj (by decide), l13], fun z => absurd z (by dsimp only; omega), fun _ => r3⟩, fun a b ha => by rw [r4 a b (fun z => ha z.1), ze_wo ha, lo a b ha], zp_frLt pf r5⟩
    · have n1 : ¬ (s < n ∧ (97 : Int32).toInt ≤ (L 5 s).toInt ∧ (L 5 s).toInt ≤ (122 : Int32).toInt) := by
        intro z
        rw [zp_c97, zp_c122] at z
        exact k1 ((zp_kd1i _).mpr ((zp_sgR sg (by omega) (by omega)).mp z.2))
      rw [zc_X10_next_M_80 L Q (I2 := L) (J2 := Q) (r := 0) (by rw [l7, zp_byM l6 hn (by omega), if_neg n1]), zq_X10_next_M_92, if_pos rfl]
      by_cases k2 : zp_kd (T s) = 2
      · have lt := (zp_kd2i _).mp k2
        rw [zc_X10_next_M_188 L Q (I2 := L) (J2 := Q) (r := 1) (by rw [l7, zp_byM l6 hn (by omega), if_pos ⟨hl, by rw [zp_c48, zp_c57]; exact (zp_sgR sg (by omega) (by omega)).mpr lt⟩]), zq_X10_next_M_200, if_neg (by decide), zq_X10_next_M_203]
        obtain ⟨N, r1, r2, r3, r4⟩ := zp_n208 (T := T) hn (s := s) (P := Q) (n - (s + 1) + 1) 0 (zm_w L 0 8 2) (by omega) (by omega) (by rw [ze_wj (by decide), l6]) (fun i hi => by rw [ze_wo (by decide)]; exact lT i hi) (by rw [ze_wj (by decide), l7]; rfl) (by rw [ze_wj (by decide), l10, zp_nm_0]; rfl) (fun i hi => by omega)
        rw [Nat.add_zero, zp_gr_s, if_pos ⟨hl, k2⟩] at r2 r3
        rw [k2, if_pos (by omega), r1]
        refine ⟨N, Q, rfl, ⟨by rw [r4 0 6 (by omega), ze_wj (by decide), l6], fun i hi => by rw [r4 5 i (by omega), ze_wo (by decide)]; exact lT i hi, by rw [r4 0 8 (by omega), ze_wi]; rfl, by rw [r4 0 9 (by omega), ze_wj (by decide), l9], r2, by rw [r4 0 12 (by omega), ze_wj (by decide), l12], by rw [r4 0 13 (by omega), ze_wj (by decide), l13], fun _ => r3, fun z => absurd z (by dsimp only; omega)⟩, fun a b ha => by rw [r4 a b (fun z => ha z.1), ze_wo ha, lo a b ha], pf⟩
      · have n2 : ¬ (s < n ∧ (48 : Int32).toInt ≤ (L 5 s).toInt ∧ (L 5 s).toInt ≤ (57 : Int32).toInt) := by
          intro z
          rw [zp_c48, zp_c57] at z
          exact k2 ((zp_kd2i _).mpr ((zp_sgR sg (by omega) (by omega)).mp z.2))
        have kb := zp_kd_b (T s)
        rw [zc_X10_next_M_188 L Q (I2 := L) (J2 := Q) (r := 0) (by rw [l7, zp_byM l6 hn (by omega), if_neg n2]), zq_X10_next_M_200, if_pos rfl, zq_X10_next_M_274, l7, if_neg (zp_in (by omega) (by omega)), zp_cl (by omega), if_neg (show ¬ zp_kd (T s) ≤ 2 by omega)]
        have fin : ∀ x : Nat, x = zp_kd (T s) → zv_X10_next_M_294 L Q (Int32.ofNat x) = some (none, (zm_w (zm_w L 0 8 (Int32.ofNat x)) 0 7 (Int32.ofNat (s + 1)), Q)) := fun x _ => by rw [zq_X10_next_M_294, zq_X10_next_M_307, ze_wj (by decide), l7, zp_o1 (by omega)]
        have e5 : (if L 5 s = 59 then zv_X10_next_M_289 L Q else zv_X10_next_M_293 L Q) = zv_X10_next_M_294 L Q (Int32.ofNat (zp_kd (T s))) := by
          by_cases c : T s = 59
          · have : L 5 s = 59 := by
              rcases sg with ⟨e, -⟩ | ⟨e, -⟩
              · exact Int32.toInt_inj.mp (e.trans (c.trans (by decide)))
              · omega
            rw [if_pos this, zq_X10_next_M_289, c]
            rfl
          · have : ¬ L 5 s = 59 := fun z => by
              rw [z, zp_c59] at sg
              rcases sg with ⟨e, -⟩ | ⟨-, e⟩
              · exact c e.symm
              · omega
            have e4 : zp_kd (T s) = 4 := by
              unfold zp_kd
              rw [if_neg (fun z => k1 ((zp_kd1i _).mpr z)), if_neg (fun z => k2 ((zp_kd2i _).mpr z)), if_neg c]
            rw [if_neg this, zq_X10_next_M_293, e4]
            rfl
        rw [e5, fin _ rfl]
        refine ⟨_, Q, rfl, ⟨by rw [ze_wj (by decide), ze_wj (by decide), l6], fun i hi => by rw [ze_wo (by decide), ze_wo (by decide)]; exact lT i hi, by rw [ze_wj (by decide), ze_wi], by rw [ze_wj (by decide), ze_wj (by decide), l9], ze_wi, by rw [ze_wj (by decide), ze_wj (by decide), l12], by rw [ze_wj (by decide), ze_wj (by decide), l13], fun z => absurd z k2, fun z => absurd z k1⟩, fun a b ha => by rw [ze_wo ha, ze_wo ha, lo a b ha], pf⟩
  · have es : s = n := by omega
    rw [if_pos (by rw [es]), zq_X10_next_M_72, zq_X10_next_M_307, if_neg hl, if_neg hl]
    refine ⟨_, Q, rfl, ⟨by rw [ze_wj (by decide), l6], fun i hi => by rw [ze_wo (by decide)]; exact lT i hi, ze_wi, by rw [ze_wj (by decide), l9], by rw [ze_wj (by decide), l7], by rw [ze_wj (by decide), l12], by rw [ze_wj (by decide), l13], fun z => absurd z (by dsimp only; omega), fun z => absurd z (by dsimp only; omega)⟩, fun a b ha => by rw [ze_wo ha, lo a b ha], pf⟩
theorem zp_advM (hn : n ≤ 800) (he : A.2.2.1 ≤ n) (h : zpM T n A I J) : ∃ N P, zF_X10_next zW_M [.ref 0] (I, J) = some (none, (N, P)) ∧ zpM T n (zp_adv T n A) N P ∧ zp_fr I N ∧ zp_frL J P := zp_nextM hn he h.1 h.2.1 h.2.2.2.2.1 h.2.2.2.2.2.1 h.2.2.2.2.2.2.1
theorem zp_refM (x : Int32) (h : zpM T n A I J) : ∃ N, zF_X10_fails zW_M [.ref 0, .int x] (I, J) = some (none, (N, J)) ∧ zpM T n (zp_ref x A) N J ∧ zp_fr I N := by
  have hh := h
  obtain ⟨h6, hT, h8, h9, h7, h12, h13, h2, h1⟩ := h
  rw [zf_X10_fails_M, zq_X10_fails_M_0, h12]
  unfold zp_ref
  by_cases c : A.2.2.2.1 = 0
  · rw [if_pos c, if_pos c, zq_X10_fails_M_8]
    refine ⟨_, rfl, ⟨by rw [ze_wj (by decide), ze_wj (by decide), h6], fun i hi => by rw [ze_wo (by decide), ze_wo (by decide)]; exact hT i hi, by rw [ze_wj (by decide), ze_wj (by decide), h8], by rw [ze_wj (by decide), ze_wj (by decide), h9], by rw [ze_wj (by decide), ze_wj (by decide), h7], by rw [ze_wj (by decide), ze_wi], by rw [ze_wi, ze_wj (by decide), h9], fun z => by rw [ze_wj (by decide), ze_wj (by decide)]; exact h2 z, h1⟩, fun a b ha => by rw [ze_wo ha, ze_wo ha]⟩
  · rw [if_neg c, if_neg c, zq_X10_fails_M_7]
    exact ⟨I, rfl, hh, zp_frr I⟩
theorem zp_isM {w : Nat} {W : Int64} (hw : zp_wd w W) (hW : zpW T n A) (h : zpM T n A I J) : ∃ x, zF_X10_is zW_M [.ref 0, .long W] (I, J) = some (some (.int x), (I, J)) ∧ ((x = 1 ∧ A.2.2.2.1 = 0 ∧ zp_is T A.1 A.2.1 A.2.2.1 w) ∨ (x = 0 ∧ ¬ (A.2.2.2.1 = 0 ∧ zp_is T A.1 A.2.1 A.2.2.1 w))) := by
  have b := zp_W_b hW
  obtain ⟨h6, hT, h8, h9, h7, h12, h13, h2, h1⟩ := h
  obtain ⟨w1, w2, w3⟩ := hw
  have e28 : zv_X10_is_M_28 I J W = some (some (.int 0), (I, J)) := by rw [zq_X10_is_M_28, zq_X10_is_M_29, if_pos (Or.inl rfl)]
  rw [zf_X10_is_M, zq_X10_is_M_0, h12]
  by_cases c : A.2.2.2.1 = 0
  · rw [if_pos c, zq_X10_is_M_7, h8]
    by_cases d : A.1 = 1
    · have hw0 := h1 d
      have lt : ∀ j, j < A.2.2.1 - A.2.1 → 97 ≤ T (A.2.1 + j) ∧ T (A.2.1 + j) ≤ 122 := fun j hj => zp_kd1 ((zp_W_k hW (Or.inl d) _ (by omega) (by omega)).trans d)
      rw [if_pos (by rw [d]; rfl), zq_X10_is_M_15]
      by_cases g : J 0 11 = W
      · rw [if_pos ((lg_cmp_eq _ _).mpr g), zq_X10_is_M_24, zq_X10_is_M_29, if_pos (Or.inr rfl)]
        refine ⟨1, rfl, Or.inl ⟨rfl, c, d, ?_⟩⟩
        rw [g, w1] at hw0
        have pz := (zp_wv_b (T := zp_wt w) (s := 0) _ (fun j hj => by rw [Nat.zero_add]; exact w3 j hj)).1
        by_cases q : A.2.2.1 - A.2.1 ≤ 12
        · rw [if_pos q] at hw0
          obtain ⟨u1, u2⟩ := zp_wv_u (T := T) (U := zp_wt w) (s := A.2.1) (t := 0) _ _ lt (fun j hj => by rw [Nat.zero_add]; exact w3 j hj) hw0.symm
          refine ⟨u1, fun j hj => ?_⟩
          have := u2 j (by omega)
          rw [Nat.zero_add] at this
          exact this
        · rw [if_neg q] at hw0
          omega
      · rw [if_neg (fun z => g ((lg_cmp_eq _ _).mp z)), e28]
        refine ⟨0, rfl, Or.inr ⟨rfl, fun z => g (Int64.toInt_inj.mp ?_)⟩⟩
        obtain ⟨-, -, z1, z2⟩ := z
        rw [hw0, w1, if_pos (by omega), z1]
        exact zp_wv_c _ (fun j hj => by rw [Nat.zero_add]; exact z2 j hj)
    · rw [if_neg (show ¬ (Int32.ofNat A.1 : Int32) = 1 from zp_ne (j := 1) (by omega) (by omega) d), e28]
      exact ⟨0, rfl, Or.inr ⟨rfl, fun z => d z.2.1⟩⟩
  · rw [if_neg c, e28]
    exact ⟨0, rfl, Or.inr ⟨rfl, fun z => c z.1⟩⟩
theorem zp_tkM {w : Nat} {W : Int64} (hw : zp_wd w W) (hn : n ≤ 800) (hW : zpW T n A) (h : zpM T n A I J) : ∃ x N P, zF_X10_takes zW_M [.ref 0, .long W] (I, J) = some (some (.int x), (N, P)) ∧ ((x = 1 ∧ A.2.2.2.1 = 0 ∧ zp_is T A.1 A.2.1 A.2.2.1 w ∧ zpM T n (zp_adv T n A) N P) ∨ (x = 0 ∧ ¬ (A.2.2.2.1 = 0 ∧ zp_is T A.1 A.2.1 A.2.2.1 w) ∧ zpM T n A N P)) ∧ zp_fr I N ∧ zp_frL J P := by
  obtain ⟨x, q1, q2⟩ := zp_isM (J := J) hw hW h
  rw [zf_X10_takes_M, zc_X10_takes_M_0 _ _ _ q1, zq_X10_takes_M_5]
  rcases q2 with ⟨rfl, q2, q3⟩ | ⟨rfl, q2⟩
  · obtain ⟨N, P, r1, r2, r3, r4⟩ := zp_advM hn (zp_W_b hW).2.1 h
    rw [if_neg (by decide), zc_X10_takes_M_10 _ _ _ r1, zq_X10_takes_M_14]
    exact ⟨1, N, P, rfl, Or.inl ⟨rfl, q2, q3, r2⟩, r3, r4⟩
  · rw [if_pos rfl, zq_X10_takes_M_8]
    exact ⟨0, I, J, rfl, Or.inr ⟨rfl, q2, h⟩, zp_frr I, zp_frLr J⟩
theorem zp_asM {w : Nat} {W : Int64} (hw : zp_wd w W) (hn : n ≤ 800) (hW : zpW T n A) (h : zpM T n A I J) : ∃ N P, zF_X10_asks zW_M [.ref 0, .long W] (I, J) = some (none, (N, P)) ∧ zpM T n (zp_tw T n w A) N P ∧ zp_fr I N ∧ zp_frL J P := by
  obtain ⟨x, K, P, q1, q2, q3, q4⟩ := zp_tkM (J := J) hw hn hW h
  rw [zf_X10_asks_M, zc_X10_asks_M_0 _ _ _ q1, zq_X10_asks_M_5]
  unfold zp_tw
  rcases q2 with ⟨rfl, c, q2, q5⟩ | ⟨rfl, q2, q5⟩
  · rw [if_neg (by decide), zq_X10_asks_M_13, if_pos c, if_pos q2]
    exact ⟨K, P, rfl, q5, q3, q4⟩
  · obtain ⟨N, r1, r2, r3⟩ := zp_refM 1 q5
    rw [if_pos rfl, zc_X10_asks_M_8 _ _ _ r1, zq_X10_asks_M_13]
    refine ⟨N, P, rfl, ?_, zp_frt q3 r3, q4⟩
    by_cases c : A.2.2.2.1 = 0
    · rw [if_pos c, if_neg (fun z => q2 ⟨c, z⟩)]
      exact r2
    · rw [if_neg c]
      unfold zp_ref at r2
      rw [if_neg c] at r2
      exact r2
theorem zp_nuM (lo hi : Int32) (h1000 : hi.toInt < 1000) (hn : n ≤ 800) (hW : zpW T n A) (h : zpM T n A I J) : ∃ (r : Int32) (N : Nat → Nat → Int32) (P : Nat → Nat → Int64), zF_X10_number zW_M [.ref 0, .int lo, .int hi] (I, J) = some (some (.int r), (N, P)) ∧ ((zp_nu T n lo.toInt hi.toInt A).1.2.2.2.1 = 0 → r.toInt = (zp_nu T n lo.toInt hi.toInt A).2) ∧ zpM T n (zp_nu T n lo.toInt hi.toInt A).1 N P ∧ zp_fr I N ∧ zp_frL J P := by
  have h8 := h.2.2.1
  have h12 := h.2.2.2.2.2.1
  have h2 := h.2.2.2.2.2.2.2.1
  have b := zp_W_b hW
  have rf : ∀ x : Int32, x ≠ 0 → A.2.2.2.1 = 0 → (zp_ref x A).2.2.2.1 ≠ 0 := fun x hx c => by
    unfold zp_ref
    rw [if_pos c]
    exact hx
  rw [zf_X10_number_M, zq_X10_number_M_0, h12]
  unfold zp_nu
  by_cases c : A.2.2.2.1 = 0
  · rw [if_pos c, if_pos c, zq_X10_number_M_9, h8]
    by_cases d : A.1 = 2
    · have hx := zp_nx_hi hW d
      have v := h2 d
      rw [if_pos (by rw [d]; rfl), zc_X10_number_M_24 _ _ _ _ (zh_inV _ _ _ _ _), zq_X10_number_M_36, ze_inr, Int32.toInt_toInt64, Int32.toInt_toInt64, Int32.toInt_toInt64, v, if_pos d]
      by_cases g : lo.toInt ≤ zp_nm T A.2.1 (A.2.2.1 - A.2.1) ∧ zp_nm T A.2.1 (A.2.2.1 - A.2.1) ≤ hi.toInt
      · obtain ⟨N, P, r1, r2, r3, r4⟩ := zp_advM hn b.2.1 h
        have e : zp_nx T A.2.1 (A.2.2.1 - A.2.1) = zp_nm T A.2.1 (A.2.2.1 - A.2.1) := by omega
        rw [if_pos g, if_neg (by decide), zc_X10_number_M_46 _ _ _ _ r1, zq_X10_number_M_55, if_pos (by rw [e]; exact g)]
        exact ⟨_, N, P, rfl, fun _ => v.trans e.symm, r2, r3, r4⟩
      · obtain ⟨N, r1, r2, r3⟩ := zp_refM 2 h
        rw [if_neg g, if_pos rfl, zc_X10_number_M_39 _ _ _ _ r1, zq_X10_number_M_44, if_neg (by omega)]
        exact ⟨_, N, J, rfl, fun z => absurd z (rf 2 (by decide) c), r2, r3, zp_frLr J⟩
    · obtain ⟨N, r1, r2, r3⟩ := zp_refM 1 h
      rw [if_neg (show ¬ (Int32.ofNat A.1 : Int32) = 2 from zp_ne (j := 2) (by omega) (by omega) d), zc_X10_number_M_17 _ _ _ _ r1, zq_X10_number_M_22, if_neg d]
      exact ⟨_, N, J, rfl, fun z => absurd z (rf 1 (by decide) c), r2, r3, zp_frLr J⟩
  · rw [if_neg c, if_neg c, zq_X10_number_M_7]
    exact ⟨_, I, J, rfl, fun z => absurd z c, h, zp_frr I, zp_frLr J⟩
theorem zp_taM {w : Nat} {W : Int64} (hw : zp_wd w W) (lo hi : Int32) (h1000 : hi.toInt < 1000) (hn : n ≤ 800) (hW : zpW T n A) (h : zpM T n A I J) : ∃ (r : Int32) (N : Nat → Nat → Int32) (P : Nat → Nat → Int64), zF_X10_number_ zW_M [.ref 0, .long W, .int lo, .int hi] (I, J) = some (some (.int r), (N, P)) ∧ ((zp_ta T n w lo.toInt hi.toInt A).1.2.2.2.1 = 0 → r.toInt = (zp_ta T n w lo.toInt hi.toInt A).2) ∧ zpM T n (zp_ta T n w lo.toInt hi.toInt A).1 N P ∧ zp_fr I N ∧ zp_frL J P := by
  obtain ⟨K, P, q1, q2, q3, q4⟩ := zp_asM (J := J) hw hn hW h
  obtain ⟨r, N, P2, r1, r2, r3, r4, r5⟩ := zp_nuM (J := P) lo hi h1000 hn (zp_W_tw w hW) q2
  rw [zf_X10_number__M, zc_X10_number__M_0 _ _ _ _ _ q1, zc_X10_number__M_5 _ _ _ _ _ r1, zq_X10_number__M_12]
  exact ⟨r, N, P2, rfl, r2, r3, zp_frt q3 r4, zp_frLt q4 r5⟩
theorem zp_tsM (hn : n ≤ 800) (hW : zpW T n A) (h : zpM T n A I J) : ∃ N P, zF_X10_ends zW_M [.ref 0] (I, J) = some (none, (N, P)) ∧ zpM T n (zp_ts T n A) N P ∧ zp_fr I N ∧ zp_frL J P := by
  have h8 := h.2.2.1
  have h12 := h.2.2.2.2.2.1
  have b := zp_W_b hW
  rw [zf_X10_ends_M, zq_X10_ends_M_0, h8]
  unfold zp_ts
  by_cases d : A.1 = 3
  · rw [if_pos (by rw [d]; rfl), zq_X10_ends_M_13, h12, if_pos d]
    by_cases c : A.2.2.2.1 = 0
    · obtain ⟨N, P, r1, r2, r3, r4⟩ := zp_advM hn b.2.1 h
      rw [if_pos c, if_pos c, zc_X10_ends_M_20 _ _ r1, zq_X10_ends_M_24]
      exact ⟨N, P, rfl, r2, r3, r4⟩
    · rw [if_neg c, if_neg c, zq_X10_ends_M_24]
      exact ⟨I, J, rfl, h, zp_frr I, zp_frLr J⟩
  · obtain ⟨N, r1, r2, r3⟩ := zp_refM 1 h
    have k12 := r2.2.2.2.2.2.1
    have nz : ¬ (zp_ref 1 A).2.2.2.1 = 0 := by
      unfold zp_ref
      by_cases c : A.2.2.2.1 = 0
      · rw [if_pos c]
        exact (by decide : ¬ (1 : Int32) = 0)
      · rw [if_neg c]
        exact c
    rw [if_neg (show ¬ (Int32.ofNat A.1 : Int32) = 3 from zp_ne (j := 3) (by omega) (by omega) d), zc_X10_ends_M_8 _ _ r1, zq_X10_ends_M_13, k12, if_neg nz, zq_X10_ends_M_24, if_neg d]
    refine ⟨N, J, rfl, ?_, r3, zp_frLr J⟩
    by_cases c : A.2.2.2.1 = 0
    · rw [if_pos c]
      exact r2
    · rw [if_neg c]
      unfold zp_ref at r2
      rw [if_neg c] at r2
      exact r2
end ZPE
end
section
/-! LINES OF A BENCH, on both sides at once -/
def zpB (S C L : Nat) (I I' : Nat → Nat → Int32) : Prop := (I 2 0 = Int32.ofNat L ∧ I' 6 4 = Int32.ofNat L) ∧ (I 2 5 = Int32.ofNat S ∧ I' 7 32 = Int32.ofNat S ∧ S ≤ 6) ∧ (I 2 6 = Int32.ofNat C ∧ I' 7 33 = Int32.ofNat C ∧ C ≤ 5) ∧ (I 2 7 = 0 ∧ I' 7 34 = 0) ∧ (I 2 1 = I' 7 28 ∧ I 2 2 = I' 7 29 ∧ I 2 3 = I' 7 30 ∧ I 2 4 = I' 7 31) ∧ (∀ s, s < S → I 3 s = I' 8 (24 + s)) ∧ (∀ c, c < C → (I 4 c = I' 9 (100 + 5 * c) ∧ I 5 c = I' 9 (100 + 5 * c + 1) ∧ I 6 c = I' 9 (100 + 5 * c + 2) ∧ I 7 c = I' 9 (100 + 5 * c + 3) ∧ I 8 c = I' 9 (100 + 5 * c + 4)) ∧ 0 ≤ (I 6 c).toInt ∧ (I 6 c).toInt < S)
/-- what lies outside the reference's slot 4 -/
def zp_fk (I N : Nat → Nat → Int32) : Prop := ∀ a b, ((a = 6 ∧ b < 4) ∨ (a = 7 ∧ b < 28) ∨ (a = 8 ∧ b < 24) ∨ (a = 9 ∧ b < 100) ∨ a = 10) → N a b = I a b
theorem zp_fkf {I N : Nat → Nat → Int32} (h : zp_fr I N) : zp_fk I N := fun a b hab => h a b (by omega)
theorem zp_fkt {I K N : Nat → Nat → Int32} (h : zp_fk I K) (h2 : zp_fk K N) : zp_fk I N := fun a b hab => (h2 a b hab).trans (h a b hab)
section ZPF
variable {T : Nat → Int} {n S C L : Nat} {A : zpA} {I I' N N' : Nat → Nat → Int32} {J J' : Nat → Nat → Int64}
theorem zpB_fr (h : zpB S C L I I') (h1 : zp_fr I N) (h2 : zp_fr I' N') : zpB S C L N N' := by
  obtain ⟨⟨a1, a2⟩, ⟨b1, b2, b3⟩, ⟨c1, c2, c3⟩, d, ⟨e1, e2, e3, e4⟩, f, g⟩ := h
  refine ⟨⟨?_, ?_⟩, ⟨?_, ?_, b3⟩, ⟨?_, ?_, c3⟩, ?_, ⟨?_, ?_, ?_, ?_⟩, ?_, ?_⟩
  · rw [h1 _ _ (by decide)]; exact a1
  · rw [h2 _ _ (by decide)]; exact a2
  · rw [h1 _ _ (by decide)]; exact b1
  · rw [h2 _ _ (by decide)]; exact b2
  · rw [h1 _ _ (by decide)]; exact c1
  · rw [h2 _ _ (by decide)]; exact c2
  · rw [h1 _ _ (by decide), h2 _ _ (by decide)]; exact d
  · rw [h1 _ _ (by decide), h2 _ _ (by decide)]; exact e1
  · rw [h1 _ _ (by decide), h2 _ _ (by decide)]; exact e2
  · rw [h1 _ _ (by decide), h2 _ _ (by decide)]; exact e3
  · rw [h1 _ _ (by decide), h2 _ _ (by decide)]; exact e4
  · intro s hs
    rw [h1 _ _ (by decide), h2 _ _ (by decide)]; exact f s hs
  · intro c hc
    rw [h1 _ _ (by decide), h1 _ _ (by decide), h1 _ _ (by decide), h1 _ _ (by decide), h1 _ _ (by decide), h2 _ _ (by decide), h2 _ _ (by decide), h2 _ _ (by decide), h2 _ _ (by decide), h2 _ _ (by decide)]; exact g c hc
theorem zpXA_w (h : zpXA T n A I) {a b : Nat} (ha : 2 ≤ a) (x : Int32) : zpXA T n A (zm_w I a b x) := by
  obtain ⟨h1, hT, h4, h5, h6, h2, h3⟩ := h
  exact ⟨by rw [ze_wo (by omega)]; exact h1, fun i hi => by rw [ze_wo (by omega)]; exact hT i hi, by rw [ze_wo (by omega)]; exact h4, by rw [ze_wo (by omega)]; exact h5, by rw [ze_wo (by omega)]; exact h6, by rw [ze_wo (by omega)]; exact h2, by rw [ze_wo (by omega)]; exact h3⟩
theorem zpM_w (h : zpM T n A I J) {a b : Nat} (ha : 6 ≤ a) (x : Int32) : zpM T n A (zm_w I a b x) J := by
  obtain ⟨h1, hT, h4, h5, h6, h2, h3, h7, h8⟩ := h
  exact ⟨by rw [ze_wo (by omega)]; exact h1, fun i hi => by rw [ze_wo (by omega)]; exact hT i hi, by rw [ze_wo (by omega)]; exact h4, by rw [ze_wo (by omega)]; exact h5, by rw [ze_wo (by omega)]; exact h6, by rw [ze_wo (by omega)]; exact h2, by rw [ze_wo (by omega)]; exact h3, fun z => by rw [ze_wo (by omega)]; exact h7 z, h8⟩
theorem zp_tellM {q : Nat} (hq : q ≤ 6) (v : Int32) : zF_X10_tells zW_M [.ref 0, .int (Int32.ofNat q), .int v] (I, J) = some (none, (zm_w I 7 (28 + q) v, J)) := by
  have e : (28 : Int32) + Int32.ofNat q = Int32.ofNat (28 + q) := by
    rw [show (28 : Int32) = Int32.ofNat 28 from rfl]
    exact zh_ofadd (zp_o (by omega)) (by omega)
  rw [zf_X10_tells_M, zq_X10_tells_M_0, e, if_neg (zp_in (by omega) (by omega)), zp_cl (by omega)]
theorem zp_tellL {q : Nat} {x : Int32} (hx : x = Int32.ofNat q) (hq : q ≤ 6) (v : Int32) : zF_X10_tells zW_M [.ref 0, .int x, .int v] (I, J) = some (none, (zm_w I 7 (28 + q) v, J)) := by
  rw [hx]
  exact zp_tellM hq v
theorem zp_readM {q : Nat} (hq : q ≤ 6) : zF_X10_hasRead zW_M [.ref 0, .int (Int32.ofNat q)] (I, J) = some (some (.int (I 7 (28 + q))), (I, J)) := by
  have e : (28 : Int32) + Int32.ofNat q = Int32.ofNat (28 + q) := by
    rw [show (28 : Int32) = Int32.ofNat 28 from rfl]
    exact zh_ofadd (zp_o (by omega)) (by omega)
  rw [zf_X10_hasRead_M, zq_X10_hasRead_M_0, e, if_neg (zp_in (by omega) (by omega)), zp_cl (by omega)]
/-- the first line -/
theorem zp_first (hn : n ≤ 800) (hW : zpW T n A) (h : zpXA T n A I) (h' : zpM T n A I' J') (hB : zpB 0 0 0 I I') : ∃ (B : zpA) (N N' : Nat → Nat → Int32) (P' : Nat → Nat → Int64), zF_X8_readFirst zW_TB [.ref 0, .ref 2] (I, J) = some (none, (N, J)) ∧ zv_X10_bench_M_36 I' J' = zv_X10_bench_M_109 N' P' ∧ zpXA T n B N ∧ zpM T n B N' P' ∧ zpW T n B ∧ A.2.1 ≤ B.2.1 ∧ N 2 0 = Int32.ofNat 0 ∧ N' 6 4 = Int32.ofNat 0 ∧ zp_fk I' N' ∧ (B.2.2.2.1 = 0 → zpB 0 0 0 N N') := by
  have c0 : (0 : Int32).toInt = 0 := by decide
  obtain ⟨K1, q1, g1, f1⟩ := zp_twX (J := J) 0 (by decide) hn hW h
  obtain ⟨K1', P1, q1', g1', f1', -⟩ := zp_asM zp_wd0 hn hW h'
  have s1 := zp_s_tw (T := T) (n := n) 0 hW
  have W1 := zp_W_tw (T := T) (n := n) 0 hW
  generalize hA1 : zp_tw T n 0 A = A1 at g1 g1' s1 W1
  obtain ⟨r2, K2, q2, v2, g2, f2⟩ := zp_taX (J := J) 1 (by decide) hn W1 g1 0 3
  obtain ⟨r2', K2', P2, q2', v2', g2', f2', -⟩ := zp_taM zp_wd1 0 3 (by decide) hn W1 g1'
  have s2 := zp_s_ta (T := T) (n := n) 1 (0 : Int32).toInt (3 : Int32).toInt W1
  have W2 := zp_W_ta (T := T) (n := n) 1 (0 : Int32).toInt (3 : Int32).toInt W1
  generalize hA2 : zp_ta T n 1 (0 : Int32).toInt (3 : Int32).toInt A1 = A2 at v2 g2 v2' g2' s2 W2
  have g2 := zpXA_w (a := 2) (b := 1) g2 (by decide) r2
  have g2' := zpM_w (a := 7) (b := 28) g2' (by decide) r2'
  obtain ⟨r3, K3, q3, v3, g3, f3⟩ := zp_taX (J := J) 2 (by decide) hn W2 g2 0 99
  obtain ⟨r3', K3', P3, q3', v3', g3', f3', -⟩ := zp_taM zp_wd2 0 99 (by decide) hn W2 g2'
  have s3 := zp_s_ta (T := T) (n := n) 2 (0 : Int32).toInt (99 : Int32).toInt W2
  have W3 := zp_W_ta (T := T) (n := n) 2 (0 : Int32).toInt (99 : Int32).toInt W2
  generalize hA3 : zp_ta T n 2 (0 : Int32).toInt (99 : Int32).toInt A2.1 = A3 at v3 g3 v3' g3' s3 W3
  have g3 := zpXA_w (a := 2) (b := 2) g3 (by decide) r3
  have g3' := zpM_w (a := 7) (b := 29) g3' (by decide) r3'
  obtain ⟨r4, K4, q4, v4, g4, f4⟩ := zp_taX (J := J) 3 (by decide) hn W3 g3 1 30
  obtain ⟨r4', K4', P4, q4', v4', g4', f4', -⟩ := zp_taM zp_wd3 1 30 (by decide) hn W3 g3'
  have s4 := zp_s_ta (T := T) (n := n) 3 (1 : Int32).toInt (30 : Int32).toInt W3
  have W4 := zp_W_ta (T := T) (n := n) 3 (1 : Int32).toInt (30 : Int32).toInt W3
  generalize hA4 : zp_ta T n 3 (1 : Int32).toInt (30 : Int32).toInt A3.1 = A4 at v4 g4 v4' g4' s4 W4
  have g4 := zpXA_w (a := 2) (b := 3) g4 (by decide) r4
  have g4' := zpM_w (a := 7) (b := 30) g4' (by decide) r4'
  obtain ⟨r5, K5, q5, v5, g5, f5⟩ := zp_taX (J := J) 4 (by decide) hn W4 g4 0 10
  obtain ⟨r5', K5', P5, q5', v5', g5', f5', -⟩ := zp_taM zp_wd4 0 10 (by decide) hn W4 g4'
  have s5 := zp_s_ta (T := T) (n := n) 4 (0 : Int32).toInt (10 : Int32).toInt W4
  have W5 := zp_W_ta (T := T) (n := n) 4 (0 : Int32).toInt (10 : Int32).toInt W4
  generalize hA5 : zp_ta T n 4 (0 : Int32).toInt (10 : Int32).toInt A4.1 = A5 at v5 g5 v5' g5' s5 W5
  refine ⟨A5.1, zm_w K5 2 4 r5, zm_w K5' 7 31 r5', P5, ?_, ?_, zpXA_w g5 (by decide) r5, zpM_w g5' (by decide) r5', W5, by omega, ?_, ?_, ?_, ?_⟩
  · rw [zf_X8_readFirst_TB, zc_X8_readFirst_TB_0 _ _ q1, zc_X8_readFirst_TB_6 _ _ q2, zc_X8_readFirst_TB_15 _ _ _ q3, zc_X8_readFirst_TB_28 _ _ _ q4, zc_X8_readFirst_TB_41 _ _ _ q5, zq_X8_readFirst_TB_54]
  · rw [zc_X10_bench_M_36 _ _ q1', zc_X10_bench_M_43 _ _ q2', zc_X10_bench_M_54 _ _ _ _ (zp_tellL (q := 0) (x := 0) rfl (by decide) _), zc_X10_bench_M_57 _ _ q3', zc_X10_bench_M_69 _ _ _ _ (zp_tellL (q := 1) (x := 1) rfl (by decide) _), zc_X10_bench_M_72 _ _ q4', zc_X10_bench_M_84 _ _ _ _ (zp_tellL (q := 2) (x := 2) rfl (by decide) _), zc_X10_bench_M_87 _ _ q5', zc_X10_bench_M_99 _ _ _ _ (zp_tellL (q := 3) (x := 3) rfl (by decide) _), zq_X10_bench_M_102]
  · rw [ze_wj (by decide), f5 _ _ (by decide), ze_wj (by decide), f4 _ _ (by decide), ze_wj (by decide), f3 _ _ (by decide), ze_wj (by decide), f2 _ _ (by decide), f1 _ _ (by decide)]
    exact hB.1.1
  · rw [ze_wo (by decide), f5' _ _ (by decide), ze_wo (by decide), f4' _ _ (by decide), ze_wo (by decide), f3' _ _ (by decide), ze_wo (by decide), f2' _ _ (by decide), f1' _ _ (by decide)]
    exact hB.1.2
  · intro a b hab
    have w : ∀ (Q : Nat → Nat → Int32) (i : Nat) (x : Int32), 28 ≤ i → zm_w Q 7 i x a b = Q a b := fun Q i x hi => by
      unfold zm_w
      rw [if_neg (by omega)]
    have h0 : a ≠ 0 := by omega
    rw [w _ _ _ (by decide), f5' _ _ h0, w _ _ _ (by decide), f4' _ _ h0, w _ _ _ (by decide), f3' _ _ h0, w _ _ _ (by decide), f2' _ _ h0, f1' _ _ h0]
  · intro z5
    have z4 : A4.1.2.2.2.1 = 0 := zp_f_ta (T := T) (n := n) (w := 4) (lo := (0 : Int32).toInt) (hi := (10 : Int32).toInt) (by rw [hA5]; exact z5)
    have z3 : A3.1.2.2.2.1 = 0 := zp_f_ta (T := T) (n := n) (w := 3) (lo := (1 : Int32).toInt) (hi := (30 : Int32).toInt) (by rw [hA4]; exact z4)
    have z2 : A2.1.2.2.2.1 = 0 := zp_f_ta (T := T) (n := n) (w := 2) (lo := (0 : Int32).toInt) (hi := (99 : Int32).toInt) (by rw [hA3]; exact z3)
    have u5 : r5 = r5' := Int32.toInt_inj.mp (v5.trans (v5' z5).symm)
    have u4 : r4 = r4' := Int32.toInt_inj.mp (v4.trans (v4' z4).symm)
    have u3 : r3 = r3' := Int32.toInt_inj.mp (v3.trans (v3' z3).symm)
    have u2 : r2 = r2' := Int32.toInt_inj.mp (v2.trans (v2' z2).symm)
    subst u5 u4 u3 u2
    obtain ⟨⟨a1, a2⟩, ⟨b1, b2, b3⟩, ⟨c1, c2, c3⟩, d, -, -, -⟩ := hB
    have fX : ∀ b, b = 0 ∨ 5 ≤ b → zm_w K5 2 4 r5 2 b = I 2 b := fun b hb => by rw [ze_wj (by omega), f5 _ _ (by decide), ze_wj (by omega), f4 _ _ (by decide), ze_wj (by omega), f3 _ _ (by decide), ze_wj (by omega), f2 _ _ (by decide), f1 _ _ (by decide)]
    have fM : ∀ a b, a ≠ 0 → (a ≠ 7 ∨ 32 ≤ b) → zm_w K5' 7 31 r5 a b = I' a b := by
      intro a b h0 hb
      have w : ∀ (Q : Nat → Nat → Int32) (i : Nat) (x : Int32), i ≤ 31 → zm_w Q 7 i x a b = Q a b := fun Q i x hi => by
        unfold zm_w
        rw [if_neg (by omega)]
      rw [w _ _ _ (by decide), f5' _ _ h0, w _ _ _ (by decide), f4' _ _ h0, w _ _ _ (by decide), f3' _ _ h0, w _ _ _ (by decide), f2' _ _ h0, f1' _ _ h0]
    refine ⟨⟨?_, ?_⟩, ⟨?_, ?_, b3⟩, ⟨?_, ?_, c3⟩, ?_, ⟨?_, ?_, ?_, ?_⟩, fun s hs => absurd hs (Nat.not_lt_zero s), fun s hs => absurd hs (Nat.not_lt_zero s)⟩
    · rw [fX 0 (by decide)]; exact a1
    · rw [fM 6 4 (by decide) (by decide)]; exact a2
    · rw [fX 5 (by decide)]; exact b1
    · rw [fM 7 32 (by decide) (by decide)]; exact b2
    · rw [fX 6 (by decide)]; exact c1
    · rw [fM 7 33 (by decide) (by decide)]; exact c2
    · rw [fX 7 (by decide), fM 7 34 (by decide) (by decide)]; exact d
    · rw [ze_wj (by decide), f5 _ _ (by decide), ze_wj (by decide), f4 _ _ (by decide), ze_wj (by decide), f3 _ _ (by decide), ze_wi, ze_wj (by decide), f5' _ _ (by decide), ze_wj (by decide), f4' _ _ (by decide), ze_wj (by decide), f3' _ _ (by decide), ze_wi]
    · rw [ze_wj (by decide), f5 _ _ (by decide), ze_wj (by decide), f4 _ _ (by decide), ze_wi, ze_wj (by decide), f5' _ _ (by decide), ze_wj (by decide), f4' _ _ (by decide), ze_wi]
    · rw [ze_wj (by decide), f5 _ _ (by decide), ze_wi, ze_wj (by decide), f5' _ _ (by decide), ze_wi]
    · rw [ze_wi, ze_wi]
end ZPF
end
section
section ZPG
variable {T : Nat → Int} {n S C L : Nat} {A : zpA} {I I' N N' : Nat → Nat → Int32} {J J' : Nat → Nat → Int64}
/-- a seat's line, behind its first word: the class -/
theorem zp_seatX (hn : n ≤ 800) (hW : zpW T n A) (h : zpXA T n A I) (hf : A.2.2.2.1 = 0) (hi : zp_is T A.1 A.2.1 A.2.2.1 5) (hS : S < 6) (h5 : I 2 5 = Int32.ofNat S) : ∃ (v : Int32) (N : Nat → Nat → Int32), zF_X8_readSeat zW_TB [.ref 0, .ref 2] (I, J) = some (none, (zm_w (zm_w N 3 S v) 2 5 (Int32.ofNat (S + 1)), J)) ∧ zp_fr I N ∧ ((zp_is T (zp_adv T n A).1 (zp_adv T n A).2.1 (zp_adv T n A).2.2.1 6 ∧ zpXA T n (zp_nu T n 0 9 (zp_adv T n (zp_adv T n A))).1 N ∧ (-v).toInt = (zp_nu T n 0 9 (zp_adv T n (zp_adv T n A))).2) ∨ (¬ zp_is T (zp_adv T n A).1 (zp_adv T n A).2.1 (zp_adv T n A).2.2.1 6 ∧ zpXA T n (zp_ta T n 7 0 9 (zp_adv T n A)).1 N ∧ v.toInt = (zp_ta T n 7 0 9 (zp_adv T n A)).2)) := by
  have c0 : (0 : Int32).toInt = 0 := by decide
  have c9 : (9 : Int32).toInt = 9 := by decide
  have e1 : zp_tw T n 5 A = zp_adv T n A := by
    unfold zp_tw
    rw [if_pos hf, if_pos hi]
  obtain ⟨K1, q1, g1, f1⟩ := zp_twX (J := J) 5 (by decide) hn hW h
  have W1 := zp_W_tw (T := T) (n := n) 5 hW
  rw [e1] at g1 W1
  have hf1 : (zp_adv T n A).2.2.2.1 = 0 := hf
  have l6 : I 2 5 < 6 := by
    rw [h5, ze_lt, zp_o (by omega), show (6 : Int32).toInt = 6 by decide]
    omega
  have b1 := zp_W_b W1
  obtain ⟨x, q2, g2⟩ := zp_isX (J := J) 6 (by decide) g1 hn b1.2.1 b1.1 b1.2.2.1
  rw [zf_X8_readSeat_TB, zq_X8_readSeat_TB_0, if_pos l6, zc_X8_readSeat_TB_17 _ _ _ q1, zc_X8_readSeat_TB_23 _ _ _ q2, zq_X8_readSeat_TB_29, h5]
  have fin : ∀ (K : Nat → Nat → Int32) (v : Int32), zp_fr I K → zv_X8_readSeat_TB_66 (zm_w K 3 S v) J (Int32.ofNat S) = some (none, (zm_w (zm_w K 3 S v) 2 5 (Int32.ofNat (S + 1)), J)) := fun K v hK => by
    rw [zq_X8_readSeat_TB_66, ze_wo (by decide), hK 2 5 (by decide), h5, zp_o1 (by omega)]
  rcases g2 with ⟨rfl, i6⟩ | ⟨rfl, i6⟩
  · obtain ⟨r, K2, q3, v3, g3, f3⟩ := zp_taX (J := J) 6 (by decide) hn W1 g1 0 9
    have e2 : zp_ta T n 6 (0 : Int32).toInt (9 : Int32).toInt (zp_adv T n A) = zp_nu T n 0 9 (zp_adv T n (zp_adv T n A)) := by
      unfold zp_ta zp_tw
      rw [if_pos hf1, if_pos i6, c0, c9]
    rw [e2] at v3 g3
    rw [if_neg (by decide), zc_X8_readSeat_TB_32 _ _ _ q3, zq_X8_readSeat_TB_46, if_neg (zp_in (by omega) (by omega)), zp_cl (by omega), fin K2 (-r) (zp_frt f1 f3)]
    exact ⟨-r, K2, rfl, zp_frt f1 f3, Or.inl ⟨i6, g3, by rw [Int32.neg_neg]; exact v3⟩⟩
  · obtain ⟨r, K2, q3, v3, g3, f3⟩ := zp_taX (J := J) 7 (by decide) hn W1 g1 0 9
    rw [c0, c9] at v3 g3
    rw [if_pos rfl, zc_X8_readSeat_TB_51 _ _ _ q3, zq_X8_readSeat_TB_65, if_neg (zp_in (by omega) (by omega)), zp_cl (by omega), fin K2 r (zp_frt f1 f3)]
    exact ⟨r, K2, rfl, zp_frt f1 f3, Or.inr ⟨i6, g3, v3⟩⟩
/-- the same: the reference, behind the first word -/
theorem zp_seatM (hn : n ≤ 800) (hW : zpW T n A) (h : zpM T n A I J) (hf : A.2.2.2.1 = 0) (hS : S < 6) (h5 : I 7 32 = Int32.ofNat S) : ∃ (v : Int32) (N : Nat → Nat → Int32) (P : Nat → Nat → Int64), zF_X10_seatLine zW_M [.ref 0] (I, J) = some (none, (zm_w (zm_w N 8 (24 + S) v) 7 32 (Int32.ofNat (S + 1)), P)) ∧ zp_fr I N ∧ ((zp_is T A.1 A.2.1 A.2.2.1 6 ∧ zpM T n (zp_nu T n 0 9 (zp_adv T n A)).1 N P ∧ ((zp_nu T n 0 9 (zp_adv T n A)).1.2.2.2.1 = 0 → (-v).toInt = (zp_nu T n 0 9 (zp_adv T n A)).2)) ∨ (¬ zp_is T A.1 A.2.1 A.2.2.1 6 ∧ zpM T n (zp_ta T n 7 0 9 A).1 N P ∧ ((zp_ta T n 7 0 9 A).1.2.2.2.1 = 0 → v.toInt = (zp_ta T n 7 0 9 A).2))) := by
  have c0 : (0 : Int32).toInt = 0 := by decide
  have c9 : (9 : Int32).toInt = 9 := by decide
  have c24 : (24 : Int32) + Int32.ofNat S = Int32.ofNat (24 + S) := by
    rw [show (24 : Int32) = Int32.ofNat 24 from rfl]
    exact zh_ofadd (zp_o (by omega)) (by omega)
  obtain ⟨x, K1, P1, q1, g1, f1, -⟩ := zp_tkM (J := J) zp_wd6 hn hW h
  have fin : ∀ (K : Nat → Nat → Int32) (P : Nat → Nat → Int64) (l r v : Int32), zp_fr I K → (∀ y : Int32, zv_X10_seatLine_M_38 K P l r y 24 = zv_X10_seatLine_M_49 K P l r v (24 + y)) → zv_X10_seatLine_M_26 K P l r = some (none, (zm_w (zm_w K 8 (24 + S) v) 7 32 (Int32.ofNat (S + 1)), P)) := by
    intro K P l r v hK hv
    have k5 : K 7 (28 + 4) = Int32.ofNat S := (hK 7 32 (by decide)).trans h5
    have hr := zp_readM (I := K) (J := P) (q := 4) (by decide)
    rw [k5] at hr
    have k6 : zm_w K 8 (24 + S) v 7 (28 + 4) = Int32.ofNat S := by rw [ze_wo (by decide)]; exact k5
    have hr2 := zp_readM (I := zm_w K 8 (24 + S) v) (J := P) (q := 4) (by decide)
    rw [k6] at hr2
    rw [zc_X10_seatLine_M_26 _ _ _ _ hr, hv, zq_X10_seatLine_M_49, c24, if_neg (zp_in (by omega) (by omega)), zp_cl (by omega), zc_X10_seatLine_M_50 _ _ _ _ hr2, zc_X10_seatLine_M_57 _ _ _ _ _ _ (zp_tellL (q := 4) (x := 4) rfl (by decide) _), zp_o1 (by omega), zq_X10_seatLine_M_62]
  rw [zf_X10_seatLine_M, zc_X10_seatLine_M_0 _ _ q1, zq_X10_seatLine_M_7]
  rcases g1 with ⟨rfl, -, i6, g1⟩ | ⟨rfl, i6, g1⟩
  · obtain ⟨r, K2, P2, q2, v2, g2, f2, -⟩ := zp_nuM 0 9 (by decide) hn (zp_W_adv (zp_W_b hW).2.1 hW.2.2.2) g1
    rw [c0, c9] at v2 g2
    rw [if_neg (by decide), zc_X10_seatLine_M_19 _ _ _ q2, fin K2 P2 1 r (-r) (zp_frt f1 f2) (fun y => by rw [zq_X10_seatLine_M_38, if_neg (by decide), zq_X10_seatLine_M_43])]
    exact ⟨-r, K2, P2, rfl, zp_frt f1 f2, Or.inl ⟨i6, g2, fun z => by rw [Int32.neg_neg]; exact v2 z⟩⟩
  · obtain ⟨K2, P2, q2, g2, f2, -⟩ := zp_asM zp_wd7 hn hW g1
    obtain ⟨r, K3, P3, q3, v3, g3, f3, -⟩ := zp_nuM 0 9 (by decide) hn (zp_W_tw 7 hW) g2
    rw [c0, c9] at v3 g3
    rw [if_pos rfl, zc_X10_seatLine_M_12 _ _ _ q2, zc_X10_seatLine_M_19 _ _ _ q3, fin K3 P3 0 r r (zp_frt f1 (zp_frt f2 f3)) (fun y => by rw [zq_X10_seatLine_M_38, if_pos rfl, zq_X10_seatLine_M_48])]
    exact ⟨r, K3, P3, rfl, zp_frt f1 (zp_frt f2 f3), Or.inr ⟨fun z => i6 ⟨hf, z⟩, g3, v3⟩⟩
/-- a caller's line, on both sides -/
theorem zp_call (hn : n ≤ 800) (hW : zpW T n A) (h : zpXA T n A I) (h' : zpM T n (zp_adv T n A) I' J') (hf : A.2.2.2.1 = 0) (hi : zp_is T A.1 A.2.1 A.2.2.1 8) (hC : C < 5) (hB : zpB S C L I I') : ∃ (B : zpA) (N N' : Nat → Nat → Int32) (P' : Nat → Nat → Int64), zF_X8_readCaller zW_TB [.ref 0, .ref 2] (I, J) = some (none, (N, J)) ∧ zF_X10_callerLine zW_M [.ref 0] (I', J') = some (none, (N', P')) ∧ zpXA T n B N ∧ zpM T n B N' P' ∧ zpW T n B ∧ A.2.1 ≤ B.2.1 ∧ N 2 0 = Int32.ofNat L ∧ N' 6 4 = Int32.ofNat L ∧ zp_fk I' N' ∧ (B.2.2.2.1 = 0 → zpB S (C + 1) L N N') := by
  obtain ⟨⟨a1, a2⟩, ⟨b1, b2, b3⟩, ⟨c1, c2, c3⟩, d, ⟨e1, e2, e3, e4⟩, fS, gC⟩ := hB
  have c0 : (0 : Int32).toInt = 0 := by decide
  have et : zp_tw T n 8 A = zp_adv T n A := by
    unfold zp_tw
    rw [if_pos hf, if_pos hi]
  have hS1 : (Int32.ofNat S - 1).toInt = S - 1 := by rw [zh_sub (by rw [zp_o (by omega), ze_i1]; omega) (by rw [zp_o (by omega), ze_i1]; omega), zp_o (by omega), ze_i1]
  have l6 : I 2 6 < 5 := by
    rw [c1, ze_lt, zp_o (by omega), show (5 : Int32).toInt = 5 by decide]
    omega
  have ek : (5 : Int32) * ((20 : Int32) + Int32.ofNat C) = Int32.ofNat (100 + 5 * C) := by
    have c5 : (5 : Int32).toInt = 5 := by decide
    have e20 : (20 : Int32) + Int32.ofNat C = Int32.ofNat (20 + C) := by
      rw [show (20 : Int32) = Int32.ofNat 20 from rfl]
      exact zh_ofadd (zp_o (by omega)) (by omega)
    rw [e20]
    apply Int32.toInt_inj.mp
    rw [zh_mul (by rw [c5, zp_o (by omega)]; omega) (by rw [c5, zp_o (by omega)]; omega), c5, zp_o (by omega), zp_o (by omega)]
    omega
  have ea : ∀ q : Nat, q ≤ 4 → Int32.ofNat (100 + 5 * C) + Int32.ofNat q = Int32.ofNat (100 + 5 * C + q) := fun q hq => zh_ofadd (zp_o (by omega)) (by omega)
  obtain ⟨K1, q1, g1, f1⟩ := zp_twX (J := J) 8 (by decide) hn hW h
  have W1 := zp_W_tw (T := T) (n := n) 8 hW
  have s1 := zp_s_tw (T := T) (n := n) 8 hW
  rw [et] at g1 W1 s1
  generalize hA1 : zp_adv T n A = A1 at g1 h' W1 s1
  obtain ⟨r2, K2, q2, v2, g2, f2⟩ := zp_taX (J := J) 9 (by decide) hn W1 g1 0 99
  obtain ⟨r2', K2', P2, q2', v2', g2', f2', -⟩ := zp_taM zp_wd9 0 99 (by decide) hn W1 h'
  have s2 := zp_s_ta (T := T) (n := n) 9 (0 : Int32).toInt (99 : Int32).toInt W1
  have W2 := zp_W_ta (T := T) (n := n) 9 (0 : Int32).toInt (99 : Int32).toInt W1
  generalize hA2 : zp_ta T n 9 (0 : Int32).toInt (99 : Int32).toInt A1 = A2 at v2 g2 v2' g2' s2 W2
  have g2 := zpXA_w (a := 4) (b := C) g2 (by decide) r2
  have g2' := zpM_w (a := 9) (b := 100 + 5 * C) g2' (by decide) r2'
  obtain ⟨r3, K3, q3, v3, g3, f3⟩ := zp_taX (J := J) 10 (by decide) hn W2 g2 0 30
  obtain ⟨r3', K3', P3, q3', v3', g3', f3', -⟩ := zp_taM zp_wd10 0 30 (by decide) hn W2 g2'
  have s3 := zp_s_ta (T := T) (n := n) 10 (0 : Int32).toInt (30 : Int32).toInt W2
  have W3 := zp_W_ta (T := T) (n := n) 10 (0 : Int32).toInt (30 : Int32).toInt W2
  generalize hA3 : zp_ta T n 10 (0 : Int32).toInt (30 : Int32).toInt A2.1 = A3 at v3 g3 v3' g3' s3 W3
  have g3 := zpXA_w (a := 5) (b := C) g3 (by decide) r3
  have g3' := zpM_w (a := 9) (b := 100 + 5 * C + 1) g3' (by decide) r3'
  obtain ⟨r4, K4, q4, v4, g4, f4⟩ := zp_taX (J := J) 5 (by decide) hn W3 g3 0 (Int32.ofNat S - 1)
  obtain ⟨r4', K4', P4, q4', v4', g4', f4', -⟩ := zp_taM zp_wd5 0 (Int32.ofNat S - 1) (by rw [hS1]; omega) hn W3 g3'
  have s4 := zp_s_ta (T := T) (n := n) 5 (0 : Int32).toInt (Int32.ofNat S - 1).toInt W3
  have W4 := zp_W_ta (T := T) (n := n) 5 (0 : Int32).toInt (Int32.ofNat S - 1).toInt W3
  generalize hA4 : zp_ta T n 5 (0 : Int32).toInt (Int32.ofNat S - 1).toInt A3.1 = A4 at v4 g4 v4' g4' s4 W4
  have g4 := zpXA_w (a := 6) (b := C) g4 (by decide) r4
  have g4' := zpM_w (a := 9) (b := 100 + 5 * C + 2) g4' (by decide) r4'
  obtain ⟨r5, K5, q5, v5, g5, f5⟩ := zp_taX (J := J) 11 (by decide) hn W4 g4 0 99
  obtain ⟨r5', K5', P5, q5', v5', g5', f5', -⟩ := zp_taM zp_wd11 0 99 (by decide) hn W4 g4'
  have s5 := zp_s_ta (T := T) (n := n) 11 (0 : Int32).toInt (99 : Int32).toInt W4
  have W5 := zp_W_ta (T := T) (n := n) 11 (0 : Int32).toInt (99 : Int32).toInt W4
  generalize hA5 : zp_ta T n 11 (0 : Int32).toInt (99 : Int32).toInt A4.1 = A5 at v5 g5 v5' g5' s5 W5
  have g5 := zpXA_w (a := 7) (b := C) g5 (by decide) r5
  have g5' := zpM_w (a := 9) (b := 100 + 5 * C + 3) g5' (by decide) r5'
  obtain ⟨r6, K6, q6, v6, g6, f6⟩ := zp_taX (J := J) 12 (by decide) hn W5 g5 r5 99
  obtain ⟨r6', K6', P6, q6', v6', g6', f6', -⟩ := zp_taM zp_wd12 r5' 99 (by decide) hn W5 g5'
  have e56 : zp_ta T n 12 r5'.toInt (99 : Int32).toInt A5.1 = zp_ta T n 12 r5.toInt (99 : Int32).toInt A5.1 := by
    by_cases z : A5.1.2.2.2.1 = 0
    · rw [v5' z, v5]
    · rw [zp_n_ta z, zp_n_ta z]
  rw [e56] at v6' g6'
  have s6 := zp_s_ta (T := T) (n := n) 12 r5.toInt (99 : Int32).toInt W5
  have W6 := zp_W_ta (T := T) (n := n) 12 r5.toInt (99 : Int32).toInt W5
  generalize hA6 : zp_ta T n 12 r5.toInt (99 : Int32).toInt A5.1 = A6 at v6 g6 v6' g6' s6 W6
  have x5 : ∀ a b, a ≠ 0 → a ≠ 4 → a ≠ 5 → zm_w K3 5 C r3 a b = I a b := fun a b h0 h4 h5 => by rw [ze_wo h5, f3 a b h0, ze_wo h4, f2 a b h0, f1 a b h0]
  have x6 : K6 2 6 = Int32.ofNat C := by rw [f6 _ _ (by decide), ze_wo (by decide), f5 _ _ (by decide), ze_wo (by decide), f4 _ _ (by decide), x5 _ _ (by decide) (by decide) (by decide)]; exact c1
  have y1 : ∀ a b, a ≠ 0 → a ≠ 9 → zm_w K3' 9 (100 + 5 * C + 1) r3' a b = I' a b := fun a b h0 h9 => by rw [ze_wo h9, f3' a b h0, ze_wo h9, f2' a b h0]
  have y6 : ∀ a b, a ≠ 0 → a ≠ 9 → zm_w K6' 9 (100 + 5 * C + 4) r6' a b = I' a b := fun a b h0 h9 => by rw [ze_wo h9, f6' a b h0, ze_wo h9, f5' a b h0, ze_wo h9, f4' a b h0, y1 a b h0 h9]
  refine ⟨A6.1, zm_w (zm_w K6 8 C r6) 2 6 (Int32.ofNat (C + 1)), zm_w (zm_w K6' 9 (100 + 5 * C + 4) r6') 7 33 (Int32.ofNat (C + 1)), P6, ?_, ?_, zpXA_w (zpXA_w g6 (by decide) _) (by decide) _, zpM_w (zpM_w g6' (by decide) _) (by decide) _, W6, by omega, ?_, ?_, ?_, ?_⟩
  · have i5 : zm_w K3 5 C r3 2 5 = Int32.ofNat S := by rw [x5 _ _ (by decide) (by decide) (by decide)]; exact b1
    have q4 := q4
    rw [← i5] at q4
    rw [zf_X8_readCaller_TB, zq_X8_readCaller_TB_0, if_pos l6, c1, zc_X8_readCaller_TB_16 _ _ _ q1, zc_X8_readCaller_TB_22 _ _ _ q2, zq_X8_readCaller_TB_36, if_neg (zp_in (by omega) (by omega)), zp_cl (by omega), zc_X8_readCaller_TB_37 _ _ _ q3, zq_X8_readCaller_TB_51, if_neg (zp_in (by omega) (by omega)), zp_cl (by omega), zc_X8_readCaller_TB_52 _ _ _ q4, zq_X8_readCaller_TB_70, if_neg (zp_in (by omega) (by omega)), zp_cl (by omega), zc_X8_readCaller_TB_71 _ _ _ q5, zq_X8_readCaller_TB_85, if_neg (zp_in (by omega) (by omega)), if_neg (zp_in (by omega) (by omega)), zp_cl (by omega), ze_wi, zc_X8_readCaller_TB_100 _ _ _ _ _ q6, zq_X8_readCaller_TB_105, if_neg (zp_in (by omega) (by omega)), zp_cl (by omega), ze_wo (show (2 : Nat) ≠ 8 by decide), x6, zp_o1 (by omega)]
  · have hr0 := zp_readM (I := I') (J := J') (q := 5) (by decide)
    rw [show (28 + 5 : Nat) = 33 from rfl, c2] at hr0
    have hr1 := zp_readM (I := zm_w K3' 9 (100 + 5 * C + 1) r3') (J := P3) (q := 4) (by decide)
    rw [y1 7 (28 + 4) (by decide) (by decide), show (28 + 4 : Nat) = 32 from rfl, b2] at hr1
    have hr2 := zp_readM (I := zm_w K6' 9 (100 + 5 * C + 4) r6') (J := P6) (q := 5) (by decide)
    rw [y6 7 (28 + 5) (by decide) (by decide), show (28 + 5 : Nat) = 33 from rfl, c2] at hr2
    have o1 := ea 1 (by decide)
    have o2 := ea 2 (by decide)
    have o3 := ea 3 (by decide)
    have o4 := ea 4 (by decide)
    rw [zf_X10_callerLine_M, zc_X10_callerLine_M_0 _ _ hr0, zc_X10_callerLine_M_8 _ _ _ _ _ q2', ek, zq_X10_callerLine_M_26, if_neg (zp_in (by omega) (by omega)), zp_cl (by omega), zc_X10_callerLine_M_27 _ _ _ q3', show Int32.ofNat (100 + 5 * C) + 1 = Int32.ofNat (100 + 5 * C + 1) from o1, zq_X10_callerLine_M_44, if_neg (zp_in (by omega) (by omega)), zp_cl (by omega), zc_X10_callerLine_M_45 _ _ _ hr1, zc_X10_callerLine_M_62 _ _ _ _ _ _ _ q4', show Int32.ofNat (100 + 5 * C) + 2 = Int32.ofNat (100 + 5 * C + 2) from o2, zq_X10_callerLine_M_67, if_neg (zp_in (by omega) (by omega)), zp_cl (by omega), zc_X10_callerLine_M_68 _ _ _ q5', show Int32.ofNat (100 + 5 * C) + 3 = Int32.ofNat (100 + 5 * C + 3) from o3, zq_X10_callerLine_M_85, show Int32.ofNat (100 + 5 * C) + 3 = Int32.ofNat (100 + 5 * C + 3) from o3, if_neg (zp_in (by omega) (by omega)), if_neg (zp_in (by omega) (by omega)), zp_cl (by omega), ze_wi, zc_X10_callerLine_M_105 _ _ _ _ _ _ q6', show Int32.ofNat (100 + 5 * C) + 4 = Int32.ofNat (100 + 5 * C + 4) from o4, zq_X10_callerLine_M_110, if_neg (zp_in (by omega) (by omega)), zp_cl (by omega), zc_X10_callerLine_M_111 _ _ _ hr2, zc_X10_callerLine_M_118 _ _ _ _ _ (zp_tellL (q := 5) (x := 5) rfl (by decide) _), zp_o1 (by omega), zq_X10_callerLine_M_123]
  · rw [ze_wj (by decide), ze_wo (by decide), f6 _ _ (by decide), ze_wo (by decide), f5 _ _ (by decide), ze_wo (by decide), f4 _ _ (by decide), x5 _ _ (by decide) (by decide) (by decide)]
    exact a1
  · rw [ze_wo (by decide), y6 _ _ (by decide) (by decide)]
    exact a2
  · intro a b hab
    have h0 : a ≠ 0 := by omega
    have w : ∀ (Q : Nat → Nat → Int32) (i : Nat) (x : Int32), 100 ≤ i → zm_w Q 9 i x a b = Q a b := fun Q i x hi => by
      unfold zm_w
      rw [if_neg (by omega)]
    have w7 : ∀ (Q : Nat → Nat → Int32) (x : Int32), zm_w Q 7 33 x a b = Q a b := fun Q x => by
      unfold zm_w
      rw [if_neg (by omega)]
    rw [w7, w _ _ _ (by omega), f6' _ _ h0, w _ _ _ (by omega), f5' _ _ h0, w _ _ _ (by omega), f4' _ _ h0, w _ _ _ (by omega), f3' _ _ h0, w _ _ _ (by omega), f2' _ _ h0]
  · intro z6
    have z5 : A5.1.2.2.2.1 = 0 := zp_f_ta (T := T) (n := n) (w := 12) (lo := r5.toInt) (hi := (99 : Int32).toInt) (by rw [hA6]; exact z6)
    have z4 : A4.1.2.2.2.1 = 0 := zp_f_ta (T := T) (n := n) (w := 11) (lo := (0 : Int32).toInt) (hi := (99 : Int32).toInt) (by rw [hA5]; exact z5)
    have z3 : A3.1.2.2.2.1 = 0 := zp_f_ta (T := T) (n := n) (w := 5) (lo := (0 : Int32).toInt) (hi := (Int32.ofNat S - 1).toInt) (by rw [hA4]; exact z4)
    have z2 : A2.1.2.2.2.1 = 0 := zp_f_ta (T := T) (n := n) (w := 10) (lo := (0 : Int32).toInt) (hi := (30 : Int32).toInt) (by rw [hA3]; exact z3)
    have u6 : r6 = r6' := Int32.toInt_inj.mp (v6.trans (v6' z6).symm)
    have u5 : r5 = r5' := Int32.toInt_inj.mp (v5.trans (v5' z5).symm)
    have u4 : r4 = r4' := Int32.toInt_inj.mp (v4.trans (v4' z4).symm)
    have u3 : r3 = r3' := Int32.toInt_inj.mp (v3.trans (v3' z3).symm)
    have u2 : r2 = r2' := Int32.toInt_inj.mp (v2.trans (v2' z2).symm)
    have fX : ∀ a b, a ≠ 0 → a ≠ 4 → a ≠ 5 → a ≠ 6 → a ≠ 7 → a ≠ 8 → zm_w K6 8 C r6 a b = I a b := fun a b h0 h4 h5 h6 h7 h8 => by rw [ze_wo h8, f6 a b h0, ze_wo h7, f5 a b h0, ze_wo h6, f4 a b h0, x5 a b h0 h4 h5]
    refine ⟨⟨?_, ?_⟩, ⟨?_, ?_, b3⟩, ⟨ze_wi, ze_wi, by omega⟩, ?_, ⟨?_, ?_, ?_, ?_⟩, ?_, ?_⟩
    · rw [ze_wj (by decide), fX _ _ (by decide) (by decide) (by decide) (by decide) (by decide) (by decide)]; exact a1
    · rw [ze_wo (by decide), y6 _ _ (by decide) (by decide)]; exact a2
    · rw [ze_wj (by decide), fX _ _ (by decide) (by decide) (by decide) (by decide) (by decide) (by decide)]; exact b1
    · rw [ze_wj (by decide), y6 _ _ (by decide) (by decide)]; exact b2
    · rw [ze_wj (by decide), fX _ _ (by decide) (by decide) (by decide) (by decide) (by decide) (by decide), ze_wj (by decide), y6 _ _ (by decide) (by decide)]; exact d
    · rw [ze_wj (by decide), fX _ _ (by decide) (by decide) (by decide) (by decide) (by decide) (by decide), ze_wj (by decide), y6 _ _ (by decide) (by decide)]; exact e1
    · rw [ze_wj (by decide), fX _ _ (by decide) (by decide) (by decide) (by decide) (by decide) (by decide), ze_wj (by decide), y6 _ _ (by decide) (by decide)]; exact e2
    · rw [ze_wj (by decide), fX _ _ (by decide) (by decide) (by decide) (by decide) (by decide) (by decide), ze_wj (by decide), y6 _ _ (by decide) (by decide)]; exact e3
    · rw [ze_wj (by decide), fX _ _ (by decide) (by decide) (by decide) (by decide) (by decide) (by decide), ze_wj (by decide), y6 _ _ (by decide) (by decide)]; exact e4
    · intro s hs
      rw [ze_wo (by decide), fX _ _ (by decide) (by decide) (by decide) (by decide) (by decide) (by decide), ze_wo (by decide), y6 _ _ (by decide) (by decide)]; exact fS s hs
    · intro c hc
      by_cases e : c = C
      · subst e
        have s4z : zm_w (zm_w K6 8 c r6) 2 6 (Int32.ofNat (c + 1)) 6 c = r4 := by rw [ze_wo (by decide), ze_wo (by decide), f6 _ _ (by decide), ze_wo (by decide), f5 _ _ (by decide), ze_wi]
        have r4b : (0 : Int32).toInt ≤ A4.2 ∧ A4.2 ≤ (Int32.ofNat S - 1).toInt := by
          have := zp_r_ta (T := T) (n := n) (w := 5) (lo := (0 : Int32).toInt) (hi := (Int32.ofNat S - 1).toInt) (A := A3.1) (by rw [hA4]; exact z4)
          rw [hA4] at this
          exact this
        refine ⟨⟨?_, ?_, ?_, ?_, ?_⟩, by rw [s4z]; omega, by rw [s4z]; omega⟩
        · rw [ze_wo (by decide), ze_wo (by decide), f6 _ _ (by decide), ze_wo (by decide), f5 _ _ (by decide), ze_wo (by decide), f4 _ _ (by decide), ze_wo (by decide), f3 _ _ (by decide), ze_wi, ze_wo (by decide), ze_wj (by omega), f6' _ _ (by decide), ze_wj (by omega), f5' _ _ (by decide), ze_wj (by omega), f4' _ _ (by decide), ze_wj (by omega), f3' _ _ (by decide), ze_wi]; exact u2
        · rw [ze_wo (by decide), ze_wo (by decide), f6 _ _ (by decide), ze_wo (by decide), f5 _ _ (by decide), ze_wo (by decide), f4 _ _ (by decide), ze_wi, ze_wo (by decide), ze_wj (by omega), f6' _ _ (by decide), ze_wj (by omega), f5' _ _ (by decide), ze_wj (by omega), f4' _ _ (by decide), ze_wi]; exact u3
        · rw [ze_wo (by decide), ze_wo (by decide), f6 _ _ (by decide), ze_wo (by decide), f5 _ _ (by decide), ze_wi, ze_wo (by decide), ze_wj (by omega), f6' _ _ (by decide), ze_wj (by omega), f5' _ _ (by decide), ze_wi]; exact u4
        · rw [ze_wo (by decide), ze_wo (by decide), f6 _ _ (by decide), ze_wi, ze_wo (by decide), ze_wj (by omega), f6' _ _ (by decide), ze_wi]; exact u5
        · rw [ze_wo (by decide), ze_wi, ze_wo (by decide), ze_wi]; exact u6
      · have hg := gC c (by omega)
        have xo : ∀ a, 4 ≤ a → a ≤ 8 → zm_w (zm_w K6 8 C r6) 2 6 (Int32.ofNat (C + 1)) a c = I a c := by
          intro a h4 h8
          have w : ∀ (Q : Nat → Nat → Int32) (m : Nat) (x : Int32), zm_w Q m C x a c = Q a c := fun Q m x => ze_wj e
          rw [ze_wo (by omega), w, f6 _ _ (by omega), w, f5 _ _ (by omega), w, f4 _ _ (by omega), w, f3 _ _ (by omega), w, f2 _ _ (by omega), f1 _ _ (by omega)]
        have yo : ∀ i, i < 100 + 5 * C → zm_w (zm_w K6' 9 (100 + 5 * C + 4) r6') 7 33 (Int32.ofNat (C + 1)) 9 i = I' 9 i := fun i hi => by rw [ze_wo (by decide), ze_wj (by omega), f6' _ _ (by decide), ze_wj (by omega), f5' _ _ (by decide), ze_wj (by omega), f4' _ _ (by decide), ze_wj (by omega), f3' _ _ (by decide), ze_wj (by omega), f2' _ _ (by decide)]
        rw [xo 4 (by decide) (by decide), xo 5 (by decide) (by decide), xo 6 (by decide) (by decide), xo 7 (by decide) (by decide), xo 8 (by decide) (by decide), yo _ (by omega), yo _ (by omega), yo _ (by omega), yo _ (by omega), yo _ (by omega)]
        exact hg
end ZPG
end
section
section ZPH
variable {T : Nat → Int} {n S C L : Nat} {A : zpA} {I I' N N' : Nat → Nat → Int32} {J J' : Nat → Nat → Int64}
/-- room for one more -/
theorem zp_room0 (q m : Int32) : zF_X10_isRoom zW_M [.ref 0, .int 0, .int q, .int m] (I, J) = some (some (.int 0), (I, J)) := by
  rw [zf_X10_isRoom_M, zq_X10_isRoom_M_0, if_pos rfl, zq_X10_isRoom_M_18, if_pos rfl, zq_X10_isRoom_M_33, if_pos rfl, zq_X10_isRoom_M_48, zq_X10_isRoom_M_49, if_pos (Or.inl rfl)]
theorem zp_room1 {q m z : Nat} (hq : q ≤ 6) (hm : m ≤ 1000) (hz : z ≤ 1000) (hr : I 7 (28 + q) = Int32.ofNat z) (hn : n ≤ 800) (hW : zpW T n A) (h : zpM T n A I J) (hf : A.2.2.2.1 = 0) : ∃ N P, zp_fr I N ∧ ((z = m ∧ zF_X10_isRoom zW_M [.ref 0, .int 1, .int (Int32.ofNat q), .int (Int32.ofNat m)] (I, J) = some (some (.int 0), (N, P)) ∧ zpM T n (zp_ref 3 A) N P) ∨ (z ≠ m ∧ zF_X10_isRoom zW_M [.ref 0, .int 1, .int (Int32.ofNat q), .int (Int32.ofNat m)] (I, J) = some (some (.int 1), (N, P)) ∧ zpM T n (zp_adv T n A) N P)) := by
  have h12 := h.2.2.2.2.2.1
  have hread := zp_readM (I := I) (J := J) hq
  rw [hr] at hread
  rw [zf_X10_isRoom_M, zq_X10_isRoom_M_0, if_neg (by decide), zc_X10_isRoom_M_4 _ _ _ _ _ hread, zq_X10_isRoom_M_9]
  by_cases c : z = m
  · obtain ⟨N, r1, r2, r3⟩ := zp_refM 3 h
    have k12 := r2.2.2.2.2.2.1
    have nz : ¬ (zp_ref 3 A).2.2.2.1 = 0 := zp_f_ref (by decide)
    refine ⟨N, J, r3, Or.inl ⟨c, ?_, r2⟩⟩
    rw [c, if_pos rfl, zc_X10_isRoom_M_13 _ _ _ _ _ r1, zq_X10_isRoom_M_18, if_neg (by decide), zq_X10_isRoom_M_22, k12, if_neg nz, zq_X10_isRoom_M_33, if_neg (by decide), zq_X10_isRoom_M_37, k12, if_neg nz, zq_X10_isRoom_M_48, zq_X10_isRoom_M_49, if_pos (Or.inl rfl)]
  · obtain ⟨N, P, r1, r2, r3, -⟩ := zp_advM hn (zp_W_b hW).2.1 h
    have k12 := r2.2.2.2.2.2.1
    have kz : (zp_adv T n A).2.2.2.1 = 0 := hf
    refine ⟨N, P, r3, Or.inr ⟨c, ?_, r2⟩⟩
    rw [if_neg (zp_ne hz hm c), zq_X10_isRoom_M_18, if_neg (by decide), zq_X10_isRoom_M_22, h12, if_pos hf, zc_X10_isRoom_M_29 _ _ _ _ _ r1, zq_X10_isRoom_M_33, if_neg (by decide), zq_X10_isRoom_M_37, k12, if_pos kz, zq_X10_isRoom_M_44, zq_X10_isRoom_M_49, if_pos (Or.inr rfl)]
theorem zp_s_adv2 (hW : zpW T n A) : A.2.1 ≤ (zp_adv T n A).2.1 := Nat.le_trans (zp_W_b hW).1 (zp_s_adv hW)
/-- any line but the first -/
theorem zp_line (hn : n ≤ 800) (hW : zpW T n A) (h : zpXA T n A I) (h' : zpM T n A I' J') (hf : A.2.2.2.1 = 0) (hB : zpB S C L I I') (i : Int32) : ∃ (B : zpA) (N N' : Nat → Nat → Int32) (P' : Nat → Nat → Int64), zv_X8_read_TB_61 I J i = zv_X8_read_TB_100 N J i ∧ zF_X10_lineHere zW_M [.ref 0] (I', J') = some (none, (N', P')) ∧ zpXA T n B N ∧ zpM T n B N' P' ∧ zpW T n B ∧ A.2.1 ≤ B.2.1 ∧ N 2 0 = Int32.ofNat L ∧ N' 6 4 = Int32.ofNat L ∧ zp_fk I' N' ∧ (B.2.2.2.1 = 0 → ∃ S2 C2, zpB S2 C2 L N N') := by
  have b := zp_W_b hW
  have hBB := hB
  obtain ⟨⟨a1, a2⟩, ⟨b1, b2, b3⟩, ⟨c1, c2, c3⟩, d, ⟨e1, e2, e3, e4⟩, fS, gC⟩ := hB
  obtain ⟨x, q1, g1⟩ := zp_isX (J := J) 5 (by decide) h hn b.2.1 b.1 b.2.2.1
  obtain ⟨x', q1', g1'⟩ := zp_isM (J := J') zp_wd5 hW h'
  rw [zc_X8_read_TB_61 _ _ _ q1, zq_X8_read_TB_67, zf_X10_lineHere_M, zc_X10_lineHere_M_0 _ _ q1']
  have s2 := zp_s_adv2 hW
  have W2 := zp_W_adv (T := T) (n := n) b.2.1 hW.2.2.2
  have o6 : (6 : Int32) = Int32.ofNat 6 := rfl
  have o5 : (5 : Int32) = Int32.ofNat 5 := rfl
  have o4 : (4 : Int32) = Int32.ofNat 4 := rfl
  by_cases i5 : zp_is T A.1 A.2.1 A.2.2.1 5
  · rcases g1 with ⟨rfl, -⟩ | ⟨-, g⟩
    rotate_left
    · exact absurd i5 g
    rcases g1' with ⟨rfl, -⟩ | ⟨-, g⟩
    rotate_left
    · exact absurd ⟨hf, i5⟩ g
    obtain ⟨K', P', f', alt⟩ := zp_room1 (q := 4) (m := 6) (z := S) (by decide) (by decide) (by omega) b2 hn hW h' hf
    rw [if_neg (by decide)]
    rcases alt with ⟨hS, r1, r2⟩ | ⟨hS, r1, r2⟩
    · obtain ⟨N, u1, u2, u3⟩ := zp_refX (J := J) 3 h
      have k12 := r2.2.2.2.2.2.1
      have nz : ¬ (zp_ref 3 A).2.2.2.1 = 0 := zp_f_ref (by decide)
      have l6 : ¬ (I 2 5 < 6) := by
        rw [b1, hS]
        decide
      have eX : zF_X8_readSeat zW_TB [.ref 0, .ref 2] (I, J) = some (none, (N, J)) := by rw [zf_X8_readSeat_TB, zq_X8_readSeat_TB_0, if_neg l6, zc_X8_readSeat_TB_11 _ _ _ u1, zq_X8_readSeat_TB_16]
      refine ⟨zp_ref 3 A, N, K', P', by rw [zc_X8_read_TB_70 _ _ _ eX, zq_X8_read_TB_75], ?_, u2, r2, zp_W_ref 3 (by decide) hW, Nat.le_of_eq (zp_s_ref 3).symm, by rw [u3 _ _ (by decide)]; exact a1, by rw [f' _ _ (by decide)]; exact a2, zp_fkf f', fun z => absurd z nz⟩
      rw [zc_X10_lineHere_M_8 _ _ _ r1, zq_X10_lineHere_M_14, if_pos rfl, zq_X10_lineHere_M_24, k12, if_neg nz, zq_X10_lineHere_M_54, k12, if_neg nz, zq_X10_lineHere_M_66]
    · have hS6 : S < 6 := by omega
      obtain ⟨v, N, u1, u2, u3⟩ := zp_seatX (J := J) hn hW h hf i5 hS6 b1
      obtain ⟨v', N', Q', w1, w2, w3⟩ := zp_seatM hn W2 r2 hf hS6 ((f' 7 32 (by decide)).trans b2)
      have eM : zv_X10_lineHere_M_8 I' J' 1 = some (none, (zm_w (zm_w N' 8 (24 + S) v') 7 32 (Int32.ofNat (S + 1)), Q')) := by rw [zc_X10_lineHere_M_8 _ _ _ r1, zq_X10_lineHere_M_14, if_neg (by decide), zc_X10_lineHere_M_17 _ _ w1, zq_X10_lineHere_M_21, zq_X10_lineHere_M_66]
      have eX : zv_X8_read_TB_70 I J i = zv_X8_read_TB_100 (zm_w (zm_w N 3 S v) 2 5 (Int32.ofNat (S + 1))) J i := by rw [zc_X8_read_TB_70 _ _ _ u1, zq_X8_read_TB_75]
      have w2 := zp_frt f' w2
      have fin : ∀ B : zpA × Int, zpXA T n B.1 N → zpM T n B.1 N' Q' → zpW T n B.1 → A.2.1 ≤ B.1.2.1 → (B.1.2.2.2.1 = 0 → v = v') → ∃ (B : zpA) (N N' : Nat → Nat → Int32) (P' : Nat → Nat → Int64), zv_X8_read_TB_70 I J i = zv_X8_read_TB_100 N J i ∧ zv_X10_lineHere_M_8 I' J' 1 = some (none, (N', P')) ∧ zpXA T n B N ∧ zpM T n B N' P' ∧ zpW T n B ∧ A.2.1 ≤ B.2.1 ∧ N 2 0 = Int32.ofNat L ∧ N' 6 4 = Int32.ofNat L ∧ zp_fk I' N' ∧ (B.2.2.2.1 = 0 → ∃ S2 C2, zpB S2 C2 L N N') := by
        intro B x1 x2 x3 x4 x5
        refine ⟨B.1, _, _, Q', eX, eM, zpXA_w (zpXA_w x1 (by decide) _) (by decide) _, zpM_w (zpM_w x2 (by decide) _) (by decide) _, x3, x4, by rw [ze_wj (by decide), ze_wo (by decide), u2 _ _ (by decide)]; exact a1, by rw [ze_wo (by decide), ze_wo (by decide), w2 _ _ (by decide)]; exact a2, fun a b hab => ?_, fun z => ⟨S + 1, C, ?_⟩⟩
        · unfold zm_w
          rw [if_neg (by omega), if_neg (by omega)]
          exact w2 a b (by omega)
        have ev := x5 z
        refine ⟨⟨?_, ?_⟩, ⟨ze_wi, ze_wi, by omega⟩, ⟨?_, ?_, c3⟩, ?_, ⟨?_, ?_, ?_, ?_⟩, ?_, ?_⟩
        · rw [ze_wj (by decide), ze_wo (by decide), u2 _ _ (by decide)]; exact a1
        · rw [ze_wo (by decide), ze_wo (by decide), w2 _ _ (by decide)]; exact a2
        · rw [ze_wj (by decide), ze_wo (by decide), u2 _ _ (by decide)]; exact c1
        · rw [ze_wj (by decide), ze_wo (by decide), w2 _ _ (by decide)]; exact c2
        · rw [ze_wj (by decide), ze_wo (by decide), u2 _ _ (by decide), ze_wj (by decide), ze_wo (by decide), w2 _ _ (by decide)]; exact d
        · rw [ze_wj (by decide), ze_wo (by decide), u2 _ _ (by decide), ze_wj (by decide), ze_wo (by decide), w2 _ _ (by decide)]; exact e1
        · rw [ze_wj (by decide), ze_wo (by decide), u2 _ _ (by decide), ze_wj (by decide), ze_wo (by decide), w2 _ _ (by decide)]; exact e2
        · rw [ze_wj (by decide), ze_wo (by decide), u2 _ _ (by decide), ze_wj (by decide), ze_wo (by decide), w2 _ _ (by decide)]; exact e3
        · rw [ze_wj (by decide), ze_wo (by decide), u2 _ _ (by decide), ze_wj (by decide), ze_wo (by decide), w2 _ _ (by decide)]; exact e4
        · intro s hs
          by_cases e : s = S
          · subst e
            rw [ze_wo (by decide), ze_wi, ze_wo (by decide), ze_wi]
            exact ev
          · rw [ze_wo (by decide), ze_wj e, u2 _ _ (by decide), ze_wo (by decide), ze_wj (by omega), w2 _ _ (by decide)]
            exact fS s (by omega)
        · intro c hc
          have xo : ∀ a, 4 ≤ a → a ≤ 8 → zm_w (zm_w N 3 S v) 2 5 (Int32.ofNat (S + 1)) a c = I a c := fun a h4 h8 => by rw [ze_wo (by omega), ze_wo (by omega), u2 _ _ (by omega)]
          have yo : ∀ j, zm_w (zm_w N' 8 (24 + S) v') 7 32 (Int32.ofNat (S + 1)) 9 j = I' 9 j := fun j => by rw [ze_wo (by decide), ze_wo (by decide), w2 _ _ (by decide)]
          rw [xo 4 (by decide) (by decide), xo 5 (by decide) (by decide), xo 6 (by decide) (by decide), xo 7 (by decide) (by decide), xo 8 (by decide) (by decide), yo, yo, yo, yo, yo]
          obtain ⟨g5, g6, g7⟩ := gC c hc
          exact ⟨g5, g6, by omega⟩
      rcases u3 with ⟨k6, u4, u5⟩ | ⟨k6, u4, u5⟩
      · rcases w3 with ⟨-, w4, w5⟩ | ⟨m6, -, -⟩
        rotate_left
        · exact absurd k6 m6
        refine fin _ u4 w4 (zp_W_nu 0 9 (zp_W_adv (zp_W_b W2).2.1 W2.2.2.2)) (Nat.le_trans s2 (Nat.le_trans (zp_s_adv2 W2) (zp_s_nu 0 9 (zp_W_adv (zp_W_b W2).2.1 W2.2.2.2)))) (fun z => ?_)
        have e := Int32.toInt_inj.mp (u5.trans (w5 z).symm)
        have e := congrArg (fun y : Int32 => -y) e
        rw [Int32.neg_neg, Int32.neg_neg] at e
        exact e
      · rcases w3 with ⟨m6, -, -⟩ | ⟨-, w4, w5⟩
        · exact absurd m6 k6
        · exact fin _ u4 w4 (zp_W_ta 7 0 9 W2) (Nat.le_trans s2 (zp_s_ta 7 0 9 W2)) (fun z => Int32.toInt_inj.mp (u5.trans (w5 z).symm))
  · rcases g1 with ⟨-, g⟩ | ⟨rfl, -⟩
    · exact absurd g i5
    rcases g1' with ⟨-, -, g⟩ | ⟨rfl, -⟩
    · exact absurd g i5
    obtain ⟨x, q2, g2⟩ := zp_isX (J := J) 8 (by decide) h hn b.2.1 b.1 b.2.2.1
    obtain ⟨x', q2', g2'⟩ := zp_isM (J := J') zp_wd8 hW h'
    have k12 := h'.2.2.2.2.2.1
    rw [if_pos rfl, zc_X8_read_TB_78 _ _ _ q2, zq_X8_read_TB_84, zc_X10_lineHere_M_8 _ _ _ (zp_room0 4 6), zq_X10_lineHere_M_14, if_pos rfl, zq_X10_lineHere_M_24, k12, if_pos hf, zc_X10_lineHere_M_31 _ _ q2']
    by_cases i8 : zp_is T A.1 A.2.1 A.2.2.1 8
    · rcases g2 with ⟨rfl, -⟩ | ⟨-, g⟩
      rotate_left
      · exact absurd i8 g
      rcases g2' with ⟨rfl, -⟩ | ⟨-, g⟩
      rotate_left
      · exact absurd ⟨hf, i8⟩ g
      obtain ⟨K', P', f', alt⟩ := zp_room1 (q := 5) (m := 5) (z := C) (by decide) (by decide) (by omega) c2 hn hW h' hf
      rw [if_neg (by decide)]
      rcases alt with ⟨hC, r1, r2⟩ | ⟨hC, r1, r2⟩
      · obtain ⟨N, u1, u2, u3⟩ := zp_refX (J := J) 3 h
        have k12 := r2.2.2.2.2.2.1
        have nz : ¬ (zp_ref 3 A).2.2.2.1 = 0 := zp_f_ref (by decide)
        have l6 : ¬ (I 2 6 < 5) := by
          rw [c1, hC]
          decide
        have eX : zF_X8_readCaller zW_TB [.ref 0, .ref 2] (I, J) = some (none, (N, J)) := by rw [zf_X8_readCaller_TB, zq_X8_readCaller_TB_0, if_neg l6, zc_X8_readCaller_TB_10 _ _ _ u1, zq_X8_readCaller_TB_15]
        refine ⟨zp_ref 3 A, N, K', P', by rw [zc_X8_read_TB_87 _ _ _ eX, zq_X8_read_TB_92], ?_, u2, r2, zp_W_ref 3 (by decide) hW, Nat.le_of_eq (zp_s_ref 3).symm, by rw [u3 _ _ (by decide)]; exact a1, by rw [f' _ _ (by decide)]; exact a2, zp_fkf f', fun z => absurd z nz⟩
        rw [zc_X10_lineHere_M_39 _ _ _ r1, zq_X10_lineHere_M_44, if_pos rfl, zq_X10_lineHere_M_54, k12, if_neg nz, zq_X10_lineHere_M_66]
      · obtain ⟨B, N, N', Q', u1, u2, u3, u4, u5, u6, u7, u8, u10, u9⟩ := zp_call (J := J) hn hW h r2 hf i8 (by omega) (zpB_fr hBB (zp_frr I) f')
        refine ⟨B, N, N', Q', by rw [zc_X8_read_TB_87 _ _ _ u1, zq_X8_read_TB_92], ?_, u3, u4, u5, u6, u7, u8, zp_fkt (zp_fkf f') u10, fun z => ⟨S, C + 1, u9 z⟩⟩
        rw [zc_X10_lineHere_M_39 _ _ _ r1, zq_X10_lineHere_M_44, if_neg (by decide), zc_X10_lineHere_M_47 _ _ u2, zq_X10_lineHere_M_51, zq_X10_lineHere_M_66]
    · rcases g2 with ⟨-, g⟩ | ⟨rfl, -⟩
      · exact absurd g i8
      rcases g2' with ⟨-, -, g⟩ | ⟨rfl, -⟩
      · exact absurd g i8
      obtain ⟨N, u1, u2, u3⟩ := zp_refX (J := J) 1 h
      obtain ⟨N', r1, r2, r3⟩ := zp_refM 1 h'
      refine ⟨zp_ref 1 A, N, N', J', by rw [if_pos rfl, zc_X8_read_TB_95 _ _ _ u1], ?_, u2, r2, zp_W_ref 1 (by decide) hW, Nat.le_of_eq (zp_s_ref 1).symm, by rw [u3 _ _ (by decide)]; exact a1, by rw [r3 _ _ (by decide)]; exact a2, zp_fkf r3, fun z => absurd z (zp_f_ref (by decide))⟩
      rw [zc_X10_lineHere_M_39 _ _ _ (zp_room0 5 5), zq_X10_lineHere_M_44, if_pos rfl, zq_X10_lineHere_M_54, k12, if_pos hf, zc_X10_lineHere_M_61 _ _ r1, zq_X10_lineHere_M_66]
theorem zp_goodM (h : zpM T n A I J) : zF_X10_isGood zW_M [.ref 0] (I, J) = some (some (.int (if A.2.2.2.1 = 0 then 1 else 0)), (I, J)) := by
  have h12 := h.2.2.2.2.2.1
  rw [zf_X10_isGood_M, zq_X10_isGood_M_0, h12]
  by_cases c : A.2.2.2.1 = 0
  · rw [if_pos c, if_pos c, zq_X10_isGood_M_7, zq_X10_isGood_M_12, if_pos (Or.inr rfl)]
  · rw [if_neg c, if_neg c, zq_X10_isGood_M_11, zq_X10_isGood_M_12, if_pos (Or.inl rfl)]
theorem zp_addk {K' : Nat → Nat → Int32} (hk : zp_fk I' K') {R0 : zm_R} {M0 : zm_R} (h : ∃ (B : zpA) (N N' : Nat → Nat → Int32) (P' : Nat → Nat → Int64) (l : Int32), R0 = zv_X8_read_TB_120 N J l ∧ M0 = zv_X10_bench_M_133 N' P' ∧ zpXA T n B N ∧ zpM T n B N' P' ∧ zpW T n B ∧ zp_fk K' N' ∧ (B.2.2.2.1 = 0 → ∃ S C L, zpB S C L N N')) : ∃ (B : zpA) (N N' : Nat → Nat → Int32) (P' : Nat → Nat → Int64) (l : Int32), R0 = zv_X8_read_TB_120 N J l ∧ M0 = zv_X10_bench_M_133 N' P' ∧ zpXA T n B N ∧ zpM T n B N' P' ∧ zpW T n B ∧ zp_fk I' N' ∧ (B.2.2.2.1 = 0 → ∃ S C L, zpB S C L N N') := by
  obtain ⟨B, N, N', P', l, h1, h2, h3, h4, h5, h6, h7⟩ := h
  exact ⟨B, N, N', P', l, h1, h2, h3, h4, h5, zp_fkt hk h6, h7⟩
/-- all lines -/
theorem zp_loop (hn : n ≤ 800) : ∀ (d : Nat) (A : zpA) (I I' : Nat → Nat → Int32) (J J' : Nat → Nat → Int64) (i : Nat), n - A.2.1 < d → zpW T n A → zpXA T n A I → zpM T n A I' J' → i ≤ 800 → (A.2.2.2.1 = 0 → i ≤ A.2.1 ∧ ∃ S C L, zpB S C L I I' ∧ L = i ∧ (L = 0 → S = 0 ∧ C = 0)) → ∃ (B : zpA) (N N' : Nat → Nat → Int32) (P' : Nat → Nat → Int64) (l : Int32), zv_X8_read_TB_25 I J (Int32.ofNat i) = zv_X8_read_TB_120 N J l ∧ zv_X10_bench_M_13 I' J' = zv_X10_bench_M_133 N' P' ∧ zpXA T n B N ∧ zpM T n B N' P' ∧ zpW T n B ∧ zp_fk I' N' ∧ (B.2.2.2.1 = 0 → ∃ S C L, zpB S C L N N') := by
  intro d
  induction d with
  | zero => intro A I I' J J' i hd; omega
  | succ d ih =>
    intro A I I' J J' i hd hW h h' hi hB
    have b := zp_W_b hW
    have k2 := h.2.2.2.2.2.1
    have k4 := h.2.2.1
    have k8 := h'.2.2.1
    rw [zc_X10_bench_M_13 _ _ (zp_goodM h'), zq_X10_bench_M_17]
    by_cases hf : A.2.2.2.1 = 0
    · obtain ⟨hi2, S, C, L, hB, hL, hL0⟩ := hB hf
      rw [if_pos hf, if_neg (by decide), zq_X10_bench_M_20, k8]
      by_cases hk : A.1 = 0
      · refine ⟨A, I, I', J', Int32.ofNat i, ?_, by rw [if_pos (by rw [hk]; rfl)], h, h', hW, fun _ _ _ => rfl, fun _ => ⟨S, C, L, hB⟩⟩
        rw [zq_X8_read_TB_25]
        split
        · rfl
        · rw [zq_X8_read_TB_32, k4, if_pos (by rw [hk]; rfl)]
      · have hs := b.2.2.2 hk
        have c800 : ¬ ((800 : Int32) ≤ Int32.ofNat i) := fun z => by
          rw [show (800 : Int32) = Int32.ofNat 800 from rfl] at z
          have := (zp_le (by omega) (by omega)).mp z
          omega
        have nk : ¬ (Int32.ofNat A.1 : Int32) = 0 := zp_ne (j := 0) (by omega) (by omega) hk
        rw [zq_X8_read_TB_25, if_neg c800, zq_X8_read_TB_32, k4, if_neg nk, zq_X8_read_TB_39, k2, if_pos hf, zq_X8_read_TB_46, hB.1.1, if_neg nk, zq_X10_bench_M_27, if_neg (show ¬ ((4 : Int32) < 0 ∨ 5 ≤ Int32.toNatClampNeg 4) by decide), show Int32.toNatClampNeg 4 = 4 by decide, hB.1.2]
        -- behind the line: its sign, and one line more
        have tail : ∀ (B : zpA) (N N' : Nat → Nat → Int32) (P' : Nat → Nat → Int64), zpXA T n B N → zpM T n B N' P' → zpW T n B → A.2.1 ≤ B.2.1 → N 2 0 = Int32.ofNat L → N' 6 4 = Int32.ofNat L → zp_fk I' N' → (B.2.2.2.1 = 0 → ∃ S2 C2, zpB S2 C2 L N N') → ∃ (B : zpA) (Q Q' : Nat → Nat → Int32) (R' : Nat → Nat → Int64) (l : Int32), zv_X8_read_TB_100 N J (Int32.ofNat i) = zv_X8_read_TB_120 Q J l ∧ zv_X10_bench_M_109 N' P' = zv_X10_bench_M_133 Q' R' ∧ zpXA T n B Q ∧ zpM T n B Q' R' ∧ zpW T n B ∧ zp_fk I' Q' ∧ (B.2.2.2.1 = 0 → ∃ S C L, zpB S C L Q Q') := by
          intro B N N' P' x1 x2 x3 x4 n0 n6 xk x5
          obtain ⟨K, t1, t2, t3⟩ := zp_tsX (J := J) hn x3 x1
          have W3 := zp_W_ts x3
          have eM : ∃ (K' : Nat → Nat → Int32) (R' : Nat → Nat → Int64), zv_X10_bench_M_109 N' P' = zv_X10_bench_M_120 K' R' ∧ zpM T n (zp_ts T n B) K' R' ∧ zp_fr N' K' := by
            rw [zc_X10_bench_M_109 _ _ (zp_goodM x2), zq_X10_bench_M_113]
            by_cases z : B.2.2.2.1 = 0
            · obtain ⟨K', R', y1, y2, y3, -⟩ := zp_tsM hn x3 x2
              rw [if_pos z, if_neg (by decide), zc_X10_bench_M_116 _ _ y1]
              exact ⟨K', R', rfl, y2, y3⟩
            · rw [if_neg z, if_pos rfl, zp_n_ts z]
              exact ⟨N', P', rfl, x2, zp_frr N'⟩
          obtain ⟨K', R', m1, m2, m3⟩ := eM
          rw [zc_X8_read_TB_100 _ _ _ t1, zq_X8_read_TB_104, t3 _ _ (by decide), n0, m1, zq_X10_bench_M_120, if_neg (show ¬ ((4 : Int32) < 0 ∨ 5 ≤ Int32.toNatClampNeg 4) by decide), if_neg (show ¬ ((4 : Int32) < 0 ∨ 5 ≤ Int32.toNatClampNeg 4) by decide), show Int32.toNatClampNeg 4 = 4 by decide, m3 _ _ (by decide), n6, zp_o1 (by omega), zp_o1 (by omega)]
          have adv : (zp_ts T n B).2.2.2.1 = 0 → B.2.2.2.1 = 0 ∧ B.2.1 < (zp_ts T n B).2.1 := by
            intro z
            by_cases y : B.2.2.2.1 = 0
            · refine ⟨y, ?_⟩
              unfold zp_ts at z ⊢
              rw [if_pos y] at z ⊢
              by_cases w : B.1 = 3
              · rw [if_pos w]
                have bb := zp_W_b x3
                have := zp_s_adv x3
                have := bb.2.2.2 (by omega)
                omega
              · rw [if_neg w] at z
                exact absurd z (zp_f_ref (by decide))
            · rw [zp_n_ts y] at z
              exact absurd z y
          by_cases z : (zp_ts T n B).2.2.2.1 = 0
          · obtain ⟨y1, y2⟩ := adv z
            obtain ⟨S2, C2, y3⟩ := x5 y1
            have y4 := zpB_fr y3 t3 m3
            obtain ⟨⟨a1, a2⟩, ⟨b1, b2, b3⟩, ⟨c1, c2, c3⟩, d2, ⟨e1, e2, e3, e4⟩, fS, gC⟩ := y4
            have xk2 : zp_fk I' (zm_w K' 6 4 (Int32.ofNat (L + 1))) := fun a b hab => by
              unfold zm_w
              rw [if_neg (by omega), m3 a b (by omega)]
              exact xk a b hab
            refine zp_addk xk2 (ih (zp_ts T n B) _ _ J R' (i + 1) (by have := (zp_W_b W3).2.1; omega) W3 (zpXA_w t2 (by decide) _) (zpM_w m2 (by decide) _) (by omega) (fun _ => ⟨by omega, S2, C2, L + 1, ⟨⟨ze_wi, ze_wi⟩, ⟨?_, ?_, b3⟩, ⟨?_, ?_, c3⟩, ?_, ⟨?_, ?_, ?_, ?_⟩, ?_, ?_⟩, by omega, fun q => absurd q (Nat.succ_ne_zero L)⟩))
            · rw [ze_wj (by decide)]; exact b1
            · rw [ze_wo (by decide)]; exact b2
            · rw [ze_wj (by decide)]; exact c1
            · rw [ze_wo (by decide)]; exact c2
            · rw [ze_wj (by decide), ze_wo (by decide)]; exact d2
            · rw [ze_wj (by decide), ze_wo (by decide)]; exact e1
            · rw [ze_wj (by decide), ze_wo (by decide)]; exact e2
            · rw [ze_wj (by decide), ze_wo (by decide)]; exact e3
            · rw [ze_wj (by decide), ze_wo (by decide)]; exact e4
            · intro s hs
              rw [ze_wo (by decide), ze_wo (by decide)]; exact fS s hs
            · intro c hc
              rw [ze_wo (by decide), ze_wo (by decide), ze_wo (by decide), ze_wo (by decide), ze_wo (by decide), ze_wo (by decide), ze_wo (by decide), ze_wo (by decide), ze_wo (by decide), ze_wo (by decide)]; exact gC c hc
          · have p1 := zpXA_w (a := 2) (b := 0) t2 (by decide) (Int32.ofNat (L + 1))
            have p2 := zpM_w (a := 6) (b := 4) m2 (by decide) (Int32.ofNat (L + 1))
            have p3 := p1.2.2.2.2.2.1
            refine ⟨zp_ts T n B, _, _, R', Int32.ofNat (i + 1), ?_, ?_, p1, p2, W3, fun a b hab => by unfold zm_w; rw [if_neg (by omega), m3 a b (by omega)]; exact xk a b hab, fun q => absurd q z⟩
            · rw [zq_X8_read_TB_25]
              split
              · rfl
              · rw [zq_X8_read_TB_32]
                split
                · rfl
                · rw [zq_X8_read_TB_39, p3, if_neg z]
            · rw [zc_X10_bench_M_13 _ _ (zp_goodM p2), zq_X10_bench_M_17, if_neg z, if_pos rfl]
        by_cases l0 : L = 0
        · obtain ⟨hs0, hc0⟩ := hL0 l0
          subst l0 hs0 hc0
          obtain ⟨B, N, N', P', u1, u2, u3, u4, u5, u6, u7, u8, u10, u9⟩ := zp_first (J := J) hn hW h h' hB
          rw [if_pos (show (Int32.ofNat 0 : Int32) = 0 from rfl), zc_X8_read_TB_53 _ _ _ u1, zq_X8_read_TB_58, if_pos (show (Int32.ofNat 0 : Int32) = 0 from rfl), u2]
          exact tail B N N' P' u3 u4 u5 u6 u7 u8 u10 (fun z => ⟨0, 0, u9 z⟩)
        · obtain ⟨B, N, N', P', u1, u2, u3, u4, u5, u6, u7, u8, u10, u9⟩ := zp_line (J := J) hn hW h h' hf hB (Int32.ofNat i)
          have nl : ¬ (Int32.ofNat L : Int32) = 0 := zp_ne (j := 0) (by omega) (by omega) l0
          rw [if_neg nl, u1, if_neg nl, zc_X10_bench_M_105 _ _ u2]
          exact tail B N N' P' u3 u4 u5 u6 u7 u8 u10 u9
    · refine ⟨A, I, I', J', Int32.ofNat i, ?_, by rw [if_neg hf, if_pos rfl], h, h', hW, fun _ _ _ => rfl, fun q => absurd q hf⟩
      rw [zq_X8_read_TB_25]
      split
      · rfl
      · rw [zq_X8_read_TB_32]
        split
        · rfl
        · rw [zq_X8_read_TB_39, k2, if_neg hf]
end ZPH
end
section
/-! copyFrom, exactly -/
section ZPI
variable {J : Nat → Nat → Int64}
theorem zp_cf66 : ∀ (d s : Nat) (I : Nat → Nat → Int32), s + d = 6 → ∃ N, zv_X0_copyFrom_BB_66 I J (Int32.ofNat s) = zv_X0_copyFrom_BB_92 N J (Int32.ofNat 0) ∧ (∀ b, s ≤ b → b < 6 → N 1 b = I 11 b) ∧ (∀ a b, (a ≠ 1 ∨ b < s) → N a b = I a b) := by
  have o6 : (6 : Int32) = Int32.ofNat 6 := rfl
  intro d
  induction d with
  | zero =>
    intro s I h
    refine ⟨I, ?_, fun b h1 h2 => by omega, fun a b _ => rfl⟩
    rw [zq_X0_copyFrom_BB_66, if_pos (by rw [o6]; exact (zp_le (by omega) (by omega)).mpr (by omega)), zq_X0_copyFrom_BB_90]
    rfl
  | succ d ih =>
    intro s I h
    obtain ⟨N, q1, q2, q3⟩ := ih (s + 1) (zm_w I 1 s (I 11 s)) (by omega)
    refine ⟨N, ?_, fun b h1 h2 => ?_, fun a b hab => ?_⟩
    · rw [zq_X0_copyFrom_BB_66, if_neg (fun z => by rw [o6] at z; have := (zp_le (by omega) (by omega)).mp z; omega), zq_X0_copyFrom_BB_72, if_neg (zp_in (by omega) (by omega)), if_neg (zp_in (by omega) (by omega)), zp_cl (by omega), zp_o1 (by omega)]
      exact q1
    · by_cases e : b = s
      · subst e
        rw [q3 1 b (Or.inr (by omega)), ze_wi]
      · rw [q2 b (by omega) h2, ze_wo (by decide)]
    · rw [q3 a b (hab.elim Or.inl (fun z => Or.inr (by omega)))]
      rcases hab with z | z
      · exact ze_wo z
      · exact ze_wj (by omega)
theorem zp_cf92 : ∀ (d c : Nat) (I : Nat → Nat → Int32), c + d = 5 → ∃ N, zv_X0_copyFrom_BB_92 I J (Int32.ofNat c) = zv_X0_copyFrom_BB_165 N J (Int32.ofNat 0) ∧ (∀ b, c ≤ b → b < 5 → N 2 b = I 12 b ∧ N 3 b = I 13 b ∧ N 4 b = I 14 b ∧ N 5 b = I 15 b ∧ N 6 b = I 16 b) ∧ (∀ a b, (a < 2 ∨ 6 < a ∨ b < c) → N a b = I a b) := by
  have o5 : (5 : Int32) = Int32.ofNat 5 := rfl
  intro d
  induction d with
  | zero =>
    intro s I h
    refine ⟨I, ?_, fun b h1 h2 => by omega, fun a b _ => rfl⟩
    rw [zq_X0_copyFrom_BB_92, if_pos (by rw [o5]; exact (zp_le (by omega) (by omega)).mpr (by omega)), zq_X0_copyFrom_BB_163]
    rfl
  | succ d ih =>
    intro s I h
    obtain ⟨N, q1, q2, q3⟩ := ih (s + 1) (zm_w (zm_w (zm_w (zm_w (zm_w I 2 s (I 12 s)) 3 s ((zm_w I 2 s (I 12 s)) 13 s)) 4 s ((zm_w (zm_w I 2 s (I 12 s)) 3 s ((zm_w I 2 s (I 12 s)) 13 s)) 14 s)) 5 s ((zm_w (zm_w (zm_w I 2 s (I 12 s)) 3 s ((zm_w I 2 s (I 12 s)) 13 s)) 4 s ((zm_w (zm_w I 2 s (I 12 s)) 3 s ((zm_w I 2 s (I 12 s)) 13 s)) 14 s)) 15 s)) 6 s ((zm_w (zm_w (zm_w (zm_w I 2 s (I 12 s)) 3 s ((zm_w I 2 s (I 12 s)) 13 s)) 4 s ((zm_w (zm_w I 2 s (I 12 s)) 3 s ((zm_w I 2 s (I 12 s)) 13 s)) 14 s)) 5 s ((zm_w (zm_w (zm_w I 2 s (I 12 s)) 3 s ((zm_w I 2 s (I 12 s)) 13 s)) 4 s ((zm_w (zm_w I 2 s (I 12 s)) 3 s ((zm_w I 2 s (I 12 s)) 13 s)) 14 s)) 15 s)) 16 s)) (by omega)
    have w2 : (zm_w (zm_w (zm_w (zm_w (zm_w I 2 s (I 12 s)) 3 s ((zm_w I 2 s (I 12 s)) 13 s)) 4 s ((zm_w (zm_w I 2 s (I 12 s)) 3 s ((zm_w I 2 s (I 12 s)) 13 s)) 14 s)) 5 s ((zm_w (zm_w (zm_w I 2 s (I 12 s)) 3 s ((zm_w I 2 s (I 12 s)) 13 s)) 4 s ((zm_w (zm_w I 2 s (I 12 s)) 3 s ((zm_w I 2 s (I 12 s)) 13 s)) 14 s)) 15 s)) 6 s ((zm_w (zm_w (zm_w (zm_w I 2 s (I 12 s)) 3 s ((zm_w I 2 s (I 12 s)) 13 s)) 4 s ((zm_w (zm_w I 2 s (I 12 s)) 3 s ((zm_w I 2 s (I 12 s)) 13 s)) 14 s)) 5 s ((zm_w (zm_w (zm_w I 2 s (I 12 s)) 3 s ((zm_w I 2 s (I 12 s)) 13 s)) 4 s ((zm_w (zm_w I 2 s (I 12 s)) 3 s ((zm_w I 2 s (I 12 s)) 13 s)) 14 s)) 15 s)) 16 s)) 2 s = I 12 s := by rw [ze_wo (by decide), ze_wo (by decide), ze_wo (by decide), ze_wo (by decide), ze_wi]
    have w3 : (zm_w (zm_w (zm_w (zm_w (zm_w I 2 s (I 12 s)) 3 s ((zm_w I 2 s (I 12 s)) 13 s)) 4 s ((zm_w (zm_w I 2 s (I 12 s)) 3 s ((zm_w I 2 s (I 12 s)) 13 s)) 14 s)) 5 s ((zm_w (zm_w (zm_w I 2 s (I 12 s)) 3 s ((zm_w I 2 s (I 12 s)) 13 s)) 4 s ((zm_w (zm_w I 2 s (I 12 s)) 3 s ((zm_w I 2 s (I 12 s)) 13 s)) 14 s)) 15 s)) 6 s ((zm_w (zm_w (zm_w (zm_w I 2 s (I 12 s)) 3 s ((zm_w I 2 s (I 12 s)) 13 s)) 4 s ((zm_w (zm_w I 2 s (I 12 s)) 3 s ((zm_w I 2 s (I 12 s)) 13 s)) 14 s)) 5 s ((zm_w (zm_w (zm_w I 2 s (I 12 s)) 3 s ((zm_w I 2 s (I 12 s)) 13 s)) 4 s ((zm_w (zm_w I 2 s (I 12 s)) 3 s ((zm_w I 2 s (I 12 s)) 13 s)) 14 s)) 15 s)) 16 s)) 3 s = I 13 s := by rw [ze_wo (by decide), ze_wo (by decide), ze_wo (by decide), ze_wi, ze_wo (by decide)]
    have w4 : (zm_w (zm_w (zm_w (zm_w (zm_w I 2 s (I 12 s)) 3 s ((zm_w I 2 s (I 12 s)) 13 s)) 4 s ((zm_w (zm_w I 2 s (I 12 s)) 3 s ((zm_w I 2 s (I 12 s)) 13 s)) 14 s)) 5 s ((zm_w (zm_w (zm_w I 2 s (I 12 s)) 3 s ((zm_w I 2 s (I 12 s)) 13 s)) 4 s ((zm_w (zm_w I 2 s (I 12 s)) 3 s ((zm_w I 2 s (I 12 s)) 13 s)) 14 s)) 15 s)) 6 s ((zm_w (zm_w (zm_w (zm_w I 2 s (I 12 s)) 3 s ((zm_w I 2 s (I 12 s)) 13 s)) 4 s ((zm_w (zm_w I 2 s (I 12 s)) 3 s ((zm_w I 2 s (I 12 s)) 13 s)) 14 s)) 5 s ((zm_w (zm_w (zm_w I 2 s (I 12 s)) 3 s ((zm_w I 2 s (I 12 s)) 13 s)) 4 s ((zm_w (zm_w I 2 s (I 12 s)) 3 s ((zm_w I 2 s (I 12 s)) 13 s)) 14 s)) 15 s)) 16 s)) 4 s = I 14 s := by rw [ze_wo (by decide), ze_wo (by decide), ze_wi, ze_wo (by decide), ze_wo (by decide)]
    have w5 : (zm_w (zm_w (zm_w (zm_w (zm_w I 2 s (I 12 s)) 3 s ((zm_w I 2 s (I 12 s)) 13 s)) 4 s ((zm_w (zm_w I 2 s (I 12 s)) 3 s ((zm_w I 2 s (I 12 s)) 13 s)) 14 s)) 5 s ((zm_w (zm_w (zm_w I 2 s (I 12 s)) 3 s ((zm_w I 2 s (I 12 s)) 13 s)) 4 s ((zm_w (zm_w I 2 s (I 12 s)) 3 s ((zm_w I 2 s (I 12 s)) 13 s)) 14 s)) 15 s)) 6 s ((zm_w (zm_w (zm_w (zm_w I 2 s (I 12 s)) 3 s ((zm_w I 2 s (I 12 s)) 13 s)) 4 s ((zm_w (zm_w I 2 s (I 12 s)) 3 s ((zm_w I 2 s (I 12 s)) 13 s)) 14 s)) 5 s ((zm_w (zm_w (zm_w I 2 s (I 12 s)) 3 s ((zm_w I 2 s (I 12 s)) 13 s)) 4 s ((zm_w (zm_w I 2 s (I 12 s)) 3 s ((zm_w I 2 s (I 12 s)) 13 s)) 14 s)) 15 s)) 16 s)) 5 s = I 15 s := by rw [ze_wo (by decide), ze_wi, ze_wo (by decide), ze_wo (by decide), ze_wo (by decide)]
    have w6 : (zm_w (zm_w (zm_w (zm_w (zm_w I 2 s (I 12 s)) 3 s ((zm_w I 2 s (I 12 s)) 13 s)) 4 s ((zm_w (zm_w I 2 s (I 12 s)) 3 s ((zm_w I 2 s (I 12 s)) 13 s)) 14 s)) 5 s ((zm_w (zm_w (zm_w I 2 s (I 12 s)) 3 s ((zm_w I 2 s (I 12 s)) 13 s)) 4 s ((zm_w (zm_w I 2 s (I 12 s)) 3 s ((zm_w I 2 s (I 12 s)) 13 s)) 14 s)) 15 s)) 6 s ((zm_w (zm_w (zm_w (zm_w I 2 s (I 12 s)) 3 s ((zm_w I 2 s (I 12 s)) 13 s)) 4 s ((zm_w (zm_w I 2 s (I 12 s)) 3 s ((zm_w I 2 s (I 12 s)) 13 s)) 14 s)) 5 s ((zm_w (zm_w (zm_w I 2 s (I 12 s)) 3 s ((zm_w I 2 s (I 12 s)) 13 s)) 4 s ((zm_w (zm_w I 2 s (I 12 s)) 3 s ((zm_w I 2 s (I 12 s)) 13 s)) 14 s)) 15 s)) 16 s)) 6 s = I 16 s := by rw [ze_wi, ze_wo (by decide), ze_wo (by decide), ze_wo (by decide), ze_wo (by decide)]
    have wo' : ∀ a b, (a < 2 ∨ 6 < a ∨ b < s) → (zm_w (zm_w (zm_w (zm_w (zm_w I 2 s (I 12 s)) 3 s ((zm_w I 2 s (I 12 s)) 13 s)) 4 s ((zm_w (zm_w I 2 s (I 12 s)) 3 s ((zm_w I 2 s (I 12 s)) 13 s)) 14 s)) 5 s ((zm_w (zm_w (zm_w I 2 s (I 12 s)) 3 s ((zm_w I 2 s (I 12 s)) 13 s)) 4 s ((zm_w (zm_w I 2 s (I 12 s)) 3 s ((zm_w I 2 s (I 12 s)) 13 s)) 14 s)) 15 s)) 6 s ((zm_w (zm_w (zm_w (zm_w I 2 s (I 12 s)) 3 s ((zm_w I 2 s (I 12 s)) 13 s)) 4 s ((zm_w (zm_w I 2 s (I 12 s)) 3 s ((zm_w I 2 s (I 12 s)) 13 s)) 14 s)) 5 s ((zm_w (zm_w (zm_w I 2 s (I 12 s)) 3 s ((zm_w I 2 s (I 12 s)) 13 s)) 4 s ((zm_w (zm_w I 2 s (I 12 s)) 3 s ((zm_w I 2 s (I 12 s)) 13 s)) 14 s)) 15 s)) 16 s)) a b = I a b := by
      intro a b hab
      unfold zm_w
      rw [if_neg (by omega), if_neg (by omega), if_neg (by omega), if_neg (by omega), if_neg (by omega)]
    refine ⟨N, ?_, fun b h1 h2 => ?_, fun a b hab => ?_⟩
    · rw [zq_X0_copyFrom_BB_92, if_neg (fun z => by rw [o5] at z; have := (zp_le (by omega) (by omega)).mp z; omega), zq_X0_copyFrom_BB_97, if_neg (zp_in (by omega) (by omega)), if_neg (zp_in (by omega) (by omega)), if_neg (zp_in (by omega) (by omega)), if_neg (zp_in (by omega) (by omega)), if_neg (zp_in (by omega) (by omega)), if_neg (zp_in (by omega) (by omega)), if_neg (zp_in (by omega) (by omega)), if_neg (zp_in (by omega) (by omega)), if_neg (zp_in (by omega) (by omega)), if_neg (zp_in (by omega) (by omega)), zp_cl (by omega), zp_o1 (by omega)]
      exact q1
    · by_cases e : b = s
      · subst e
        rw [q3 2 b (Or.inr (Or.inr (by omega))), q3 3 b (Or.inr (Or.inr (by omega))), q3 4 b (Or.inr (Or.inr (by omega))), q3 5 b (Or.inr (Or.inr (by omega))), q3 6 b (Or.inr (Or.inr (by omega)))]
        exact ⟨w2, w3, w4, w5, w6⟩
      · have r := q2 b (by omega) h2
        rw [wo' 12 b (by omega), wo' 13 b (by omega), wo' 14 b (by omega), wo' 15 b (by omega), wo' 16 b (by omega)] at r
        exact r
    · rw [q3 a b (by omega)]
      exact wo' a b hab
theorem zp_cf165 {k : Nat} (hk : k ≤ 41) : ∀ (d s : Nat) (I : Nat → Nat → Int32), s + d = k → I 0 7 = Int32.ofNat k → ∃ N, zv_X0_copyFrom_BB_165 I J (Int32.ofNat s) = some (none, (N, J)) ∧ (∀ b, s ≤ b → b < k → N 7 b = I 17 b ∧ N 8 b = I 18 b ∧ N 9 b = I 19 b) ∧ (∀ a b, (a < 7 ∨ 9 < a ∨ b < s) → N a b = I a b) := by
  have o40 : (40 : Int32) = Int32.ofNat 40 := rfl
  intro d
  induction d with
  | zero =>
    intro s I h h7
    refine ⟨I, ?_, fun b h1 h2 => by omega, fun a b _ => rfl⟩
    rw [zq_X0_copyFrom_BB_165, h7, if_pos ((zp_le (by omega) (by omega)).mpr (by omega)), zq_X0_copyFrom_BB_221]
  | succ d ih =>
    intro s I h h7
    have wo' : ∀ a b, (a < 7 ∨ 9 < a ∨ b < s) → (zm_w (zm_w (zm_w I 7 s (I 17 s)) 8 s ((zm_w I 7 s (I 17 s)) 18 s)) 9 s ((zm_w (zm_w I 7 s (I 17 s)) 8 s ((zm_w I 7 s (I 17 s)) 18 s)) 19 s)) a b = I a b := by
      intro a b hab
      unfold zm_w
      rw [if_neg (by omega), if_neg (by omega), if_neg (by omega)]
    obtain ⟨N, q1, q2, q3⟩ := ih (s + 1) (zm_w (zm_w (zm_w I 7 s (I 17 s)) 8 s ((zm_w I 7 s (I 17 s)) 18 s)) 9 s ((zm_w (zm_w I 7 s (I 17 s)) 8 s ((zm_w I 7 s (I 17 s)) 18 s)) 19 s)) (by omega) (by rw [wo' 0 7 (by omega)]; exact h7)
    have w7 : (zm_w (zm_w (zm_w I 7 s (I 17 s)) 8 s ((zm_w I 7 s (I 17 s)) 18 s)) 9 s ((zm_w (zm_w I 7 s (I 17 s)) 8 s ((zm_w I 7 s (I 17 s)) 18 s)) 19 s)) 7 s = I 17 s := by rw [ze_wo (by decide), ze_wo (by decide), ze_wi]
    have w8 : (zm_w (zm_w (zm_w I 7 s (I 17 s)) 8 s ((zm_w I 7 s (I 17 s)) 18 s)) 9 s ((zm_w (zm_w I 7 s (I 17 s)) 8 s ((zm_w I 7 s (I 17 s)) 18 s)) 19 s)) 8 s = I 18 s := by rw [ze_wo (by decide), ze_wi, ze_wo (by decide)]
    have w9 : (zm_w (zm_w (zm_w I 7 s (I 17 s)) 8 s ((zm_w I 7 s (I 17 s)) 18 s)) 9 s ((zm_w (zm_w I 7 s (I 17 s)) 8 s ((zm_w I 7 s (I 17 s)) 18 s)) 19 s)) 9 s = I 19 s := by rw [ze_wi, ze_wo (by decide), ze_wo (by decide)]
    refine ⟨N, ?_, fun b h1 h2 => ?_, fun a b hab => ?_⟩
    · rw [zq_X0_copyFrom_BB_165, h7, if_neg (fun z => by have := (zp_le (by omega) (by omega)).mp z; omega), zq_X0_copyFrom_BB_173, if_neg (fun z => by rw [o40, ze_lt, zp_o (by omega), zp_o (by omega)] at z; omega), zq_X0_copyFrom_BB_179, if_neg (zp_in (by omega) (by omega)), if_neg (zp_in (by omega) (by omega)), if_neg (zp_in (by omega) (by omega)), if_neg (zp_in (by omega) (by omega)), if_neg (zp_in (by omega) (by omega)), if_neg (zp_in (by omega) (by omega)), zp_cl (by omega), zp_o1 (by omega)]
      exact q1
    · by_cases e : b = s
      · subst e
        rw [q3 7 b (Or.inr (Or.inr (by omega))), q3 8 b (Or.inr (Or.inr (by omega))), q3 9 b (Or.inr (Or.inr (by omega)))]
        exact ⟨w7, w8, w9⟩
      · have r := q2 b (by omega) h2
        rw [wo' 17 b (by omega), wo' 18 b (by omega), wo' 19 b (by omega)] at r
        exact r
    · rw [q3 a b (by omega)]
      exact wo' a b hab
theorem zp_cfX (I : Nat → Nat → Int32) {k : Nat} (hk : k ≤ 41) (h7 : I 10 7 = Int32.ofNat k) : ∃ N, zF_X0_copyFrom zW_BB [.ref 0, .ref 10] (I, J) = some (none, (N, J)) ∧ (∀ j, j < 8 → N 0 j = I 10 j) ∧ (∀ s, s < 6 → N 1 s = I 11 s) ∧ (∀ c, c < 5 → N 2 c = I 12 c ∧ N 3 c = I 13 c ∧ N 4 c = I 14 c ∧ N 5 c = I 15 c ∧ N 6 c = I 16 c) ∧ (∀ b, b < k → N 7 b = I 17 b ∧ N 8 b = I 18 b ∧ N 9 b = I 19 b) ∧ (∀ a b, 10 ≤ a → N a b = I a b) := by
  have e : zF_X0_copyFrom zW_BB [.ref 0, .ref 10] (I, J) = zv_X0_copyFrom_BB_66 (zm_w (zm_w (zm_w (zm_w (zm_w (zm_w (zm_w (zm_w I 0 0 (I 10 0)) 0 1 ((zm_w I 0 0 (I 10 0)) 10 1)) 0 2 ((zm_w (zm_w I 0 0 (I 10 0)) 0 1 ((zm_w I 0 0 (I 10 0)) 10 1)) 10 2)) 0 3 ((zm_w (zm_w (zm_w I 0 0 (I 10 0)) 0 1 ((zm_w I 0 0 (I 10 0)) 10 1)) 0 2 ((zm_w (zm_w I 0 0 (I 10 0)) 0 1 ((zm_w I 0 0 (I 10 0)) 10 1)) 10 2)) 10 3)) 0 4 ((zm_w (zm_w (zm_w (zm_w I 0 0 (I 10 0)) 0 1 ((zm_w I 0 0 (I 10 0)) 10 1)) 0 2 ((zm_w (zm_w I 0 0 (I 10 0)) 0 1 ((zm_w I 0 0 (I 10 0)) 10 1)) 10 2)) 0 3 ((zm_w (zm_w (zm_w I 0 0 (I 10 0)) 0 1 ((zm_w I 0 0 (I 10 0)) 10 1)) 0 2 ((zm_w (zm_w I 0 0 (I 10 0)) 0 1 ((zm_w I 0 0 (I 10 0)) 10 1)) 10 2)) 10 3)) 10 4)) 0 5 ((zm_w (zm_w (zm_w (zm_w (zm_w I 0 0 (I 10 0)) 0 1 ((zm_w I 0 0 (I 10 0)) 10 1)) 0 2 ((zm_w (zm_w I 0 0 (I 10 0)) 0 1 ((zm_w I 0 0 (I 10 0)) 10 1)) 10 2)) 0 3 ((zm_w (zm_w (zm_w I 0 0 (I 10 0)) 0 1 ((zm_w I 0 0 (I 10 0)) 10 1)) 0 2 ((zm_w (zm_w I 0 0 (I 10 0)) 0 1 ((zm_w I 0 0 (I 10 0)) 10 1)) 10 2)) 10 3)) 0 4 ((zm_w (zm_w (zm_w (zm_w I 0 0 (I 10 0)) 0 1 ((zm_w I 0 0 (I 10 0)) 10 1)) 0 2 ((zm_w (zm_w I 0 0 (I 10 0)) 0 1 ((zm_w I 0 0 (I 10 0)) 10 1)) 10 2)) 0 3 ((zm_w (zm_w (zm_w I 0 0 (I 10 0)) 0 1 ((zm_w I 0 0 (I 10 0)) 10 1)) 0 2 ((zm_w (zm_w I 0 0 (I 10 0)) 0 1 ((zm_w I 0 0 (I 10 0)) 10 1)) 10 2)) 10 3)) 10 4)) 10 5)) 0 6 ((zm_w (zm_w (zm_w (zm_w (zm_w (zm_w I 0 0 (I 10 0)) 0 1 ((zm_w I 0 0 (I 10 0)) 10 1)) 0 2 ((zm_w (zm_w I 0 0 (I 10 0)) 0 1 ((zm_w I 0 0 (I 10 0)) 10 1)) 10 2)) 0 3 ((zm_w (zm_w (zm_w I 0 0 (I 10 0)) 0 1 ((zm_w I 0 0 (I 10 0)) 10 1)) 0 2 ((zm_w (zm_w I 0 0 (I 10 0)) 0 1 ((zm_w I 0 0 (I 10 0)) 10 1)) 10 2)) 10 3)) 0 4 ((zm_w (zm_w (zm_w (zm_w I 0 0 (I 10 0)) 0 1 ((zm_w I 0 0 (I 10 0)) 10 1)) 0 2 ((zm_w (zm_w I 0 0 (I 10 0)) 0 1 ((zm_w I 0 0 (I 10 0)) 10 1)) 10 2)) 0 3 ((zm_w (zm_w (zm_w I 0 0 (I 10 0)) 0 1 ((zm_w I 0 0 (I 10 0)) 10 1)) 0 2 ((zm_w (zm_w I 0 0 (I 10 0)) 0 1 ((zm_w I 0 0 (I 10 0)) 10 1)) 10 2)) 10 3)) 10 4)) 0 5 ((zm_w (zm_w (zm_w (zm_w (zm_w I 0 0 (I 10 0)) 0 1 ((zm_w I 0 0 (I 10 0)) 10 1)) 0 2 ((zm_w (zm_w I 0 0 (I 10 0)) 0 1 ((zm_w I 0 0 (I 10 0)) 10 1)) 10 2)) 0 3 ((zm_w (zm_w (zm_w I 0 0 (I 10 0)) 0 1 ((zm_w I 0 0 (I 10 0)) 10 1)) 0 2 ((zm_w (zm_w I 0 0 (I 10 0)) 0 1 ((zm_w I 0 0 (I 10 0)) 10 1)) 10 2)) 10 3)) 0 4 ((zm_w (zm_w (zm_w (zm_w I 0 0 (I 10 0)) 0 1 ((zm_w I 0 0 (I 10 0)) 10 1)) 0 2 ((zm_w (zm_w I 0 0 (I 10 0)) 0 1 ((zm_w I 0 0 (I 10 0)) 10 1)) 10 2)) 0 3 ((zm_w (zm_w (zm_w I 0 0 (I 10 0)) 0 1 ((zm_w I 0 0 (I 10 0)) 10 1)) 0 2 ((zm_w (zm_w I 0 0 (I 10 0)) 0 1 ((zm_w I 0 0 (I 10 0)) 10 1)) 10 2)) 10 3)) 10 4)) 10 5)) 10 6)) 0 7 ((zm_w (zm_w (zm_w (zm_w (zm_w (zm_w (zm_w I 0 0 (I 10 0)) 0 1 ((zm_w I 0 0 (I 10 0)) 10 1)) 0 2 ((zm_w (zm_w I 0 0 (I 10 0)) 0 1 ((zm_w I 0 0 (I 10 0)) 10 1)) 10 2)) 0 3 ((zm_w (zm_w (zm_w I 0 0 (I 10 0)) 0 1 ((zm_w I 0 0 (I 10 0)) 10 1)) 0 2 ((zm_w (zm_w I 0 0 (I 10 0)) 0 1 ((zm_w I 0 0 (I 10 0)) 10 1)) 10 2)) 10 3)) 0 4 ((zm_w (zm_w (zm_w (zm_w I 0 0 (I 10 0)) 0 1 ((zm_w I 0 0 (I 10 0)) 10 1)) 0 2 ((zm_w (zm_w I 0 0 (I 10 0)) 0 1 ((zm_w I 0 0 (I 10 0)) 10 1)) 10 2)) 0 3 ((zm_w (zm_w (zm_w I 0 0 (I 10 0)) 0 1 ((zm_w I 0 0 (I 10 0)) 10 1)) 0 2 ((zm_w (zm_w I 0 0 (I 10 0)) 0 1 ((zm_w I 0 0 (I 10 0)) 10 1)) 10 2)) 10 3)) 10 4)) 0 5 ((zm_w (zm_w (zm_w (zm_w (zm_w I 0 0 (I 10 0)) 0 1 ((zm_w I 0 0 (I 10 0)) 10 1)) 0 2 ((zm_w (zm_w I 0 0 (I 10 0)) 0 1 ((zm_w I 0 0 (I 10 0)) 10 1)) 10 2)) 0 3 ((zm_w (zm_w (zm_w I 0 0 (I 10 0)) 0 1 ((zm_w I 0 0 (I 10 0)) 10 1)) 0 2 ((zm_w (zm_w I 0 0 (I 10 0)) 0 1 ((zm_w I 0 0 (I 10 0)) 10 1)) 10 2)) 10 3)) 0 4 ((zm_w (zm_w (zm_w (zm_w I 0 0 (I 10 0)) 0 1 ((zm_w I 0 0 (I 10 0)) 10 1)) 0 2 ((zm_w (zm_w I 0 0 (I 10 0)) 0 1 ((zm_w I 0 0 (I 10 0)) 10 1)) 10 2)) 0 3 ((zm_w (zm_w (zm_w I 0 0 (I 10 0)) 0 1 ((zm_w I 0 0 (I 10 0)) 10 1)) 0 2 ((zm_w (zm_w I 0 0 (I 10 0)) 0 1 ((zm_w I 0 0 (I 10 0)) 10 1)) 10 2)) 10 3)) 10 4)) 10 5)) 0 6 ((zm_w (zm_w (zm_w (zm_w (zm_w (zm_w I 0 0 (I 10 0)) 0 1 ((zm_w I 0 0 (I 10 0)) 10 1)) 0 2 ((zm_w (zm_w I 0 0 (I 10 0)) 0 1 ((zm_w I 0 0 (I 10 0)) 10 1)) 10 2)) 0 3 ((zm_w (zm_w (zm_w I 0 0 (I 10 0)) 0 1 ((zm_w I 0 0 (I 10 0)) 10 1)) 0 2 ((zm_w (zm_w I 0 0 (I 10 0)) 0 1 ((zm_w I 0 0 (I 10 0)) 10 1)) 10 2)) 10 3)) 0 4 ((zm_w (zm_w (zm_w (zm_w I 0 0 (I 10 0)) 0 1 ((zm_w I 0 0 (I 10 0)) 10 1)) 0 2 ((zm_w (zm_w I 0 0 (I 10 0)) 0 1 ((zm_w I 0 0 (I 10 0)) 10 1)) 10 2)) 0 3 ((zm_w (zm_w (zm_w I 0 0 (I 10 0)) 0 1 ((zm_w I 0 0 (I 10 0)) 10 1)) 0 2 ((zm_w (zm_w I 0 0 (I 10 0)) 0 1 ((zm_w I 0 0 (I 10 0)) 10 1)) 10 2)) 10 3)) 10 4)) 0 5 ((zm_w (zm_w (zm_w (zm_w (zm_w I 0 0 (I 10 0)) 0 1 ((zm_w I 0 0 (I 10 0)) 10 1)) 0 2 ((zm_w (zm_w I 0 0 (I 10 0)) 0 1 ((zm_w I 0 0 (I 10 0)) 10 1)) 10 2)) 0 3 ((zm_w (zm_w (zm_w I 0 0 (I 10 0)) 0 1 ((zm_w I 0 0 (I 10 0)) 10 1)) 0 2 ((zm_w (zm_w I 0 0 (I 10 0)) 0 1 ((zm_w I 0 0 (I 10 0)) 10 1)) 10 2)) 10 3)) 0 4 ((zm_w (zm_w (zm_w (zm_w I 0 0 (I 10 0)) 0 1 ((zm_w I 0 0 (I 10 0)) 10 1)) 0 2 ((zm_w (zm_w I 0 0 (I 10 0)) 0 1 ((zm_w I 0 0 (I 10 0)) 10 1)) 10 2)) 0 3 ((zm_w (zm_w (zm_w I 0 0 (I 10 0)) 0 1 ((zm_w I 0 0 (I 10 0)) 10 1)) 0 2 ((zm_w (zm_w I 0 0 (I 10 0)) 0 1 ((zm_w I 0 0 (I 10 0)) 10 1)) 10 2)) 10 3)) 10 4)) 10 5)) 10 6)) 10 7)) J (Int32.ofNat 0) := (zf_X0_copyFrom_BB I J).trans (zq_X0_copyFrom_BB_0 I J)
  have w : ∀ j, j < 8 → (zm_w (zm_w (zm_w (zm_w (zm_w (zm_w (zm_w (zm_w I 0 0 (I 10 0)) 0 1 ((zm_w I 0 0 (I 10 0)) 10 1)) 0 2 ((zm_w (zm_w I 0 0 (I 10 0)) 0 1 ((zm_w I 0 0 (I 10 0)) 10 1)) 10 2)) 0 3 ((zm_w (zm_w (zm_w I 0 0 (I 10 0)) 0 1 ((zm_w I 0 0 (I 10 0)) 10 1)) 0 2 ((zm_w (zm_w I 0 0 (I 10 0)) 0 1 ((zm_w I 0 0 (I 10 0)) 10 1)) 10 2)) 10 3)) 0 4 ((zm_w (zm_w (zm_w (zm_w I 0 0 (I 10 0)) 0 1 ((zm_w I 0 0 (I 10 0)) 10 1)) 0 2 ((zm_w (zm_w I 0 0 (I 10 0)) 0 1 ((zm_w I 0 0 (I 10 0)) 10 1)) 10 2)) 0 3 ((zm_w (zm_w (zm_w I 0 0 (I 10 0)) 0 1 ((zm_w I 0 0 (I 10 0)) 10 1)) 0 2 ((zm_w (zm_w I 0 0 (I 10 0)) 0 1 ((zm_w I 0 0 (I 10 0)) 10 1)) 10 2)) 10 3)) 10 4)) 0 5 ((zm_w (zm_w (zm_w (zm_w (zm_w I 0 0 (I 10 0)) 0 1 ((zm_w I 0 0 (I 10 0)) 10 1)) 0 2 ((zm_w (zm_w I 0 0 (I 10 0)) 0 1 ((zm_w I 0 0 (I 10 0)) 10 1)) 10 2)) 0 3 ((zm_w (zm_w (zm_w I 0 0 (I 10 0)) 0 1 ((zm_w I 0 0 (I 10 0)) 10 1)) 0 2 ((zm_w (zm_w I 0 0 (I 10 0)) 0 1 ((zm_w I 0 0 (I 10 0)) 10 1)) 10 2)) 10 3)) 0 4 ((zm_w (zm_w (zm_w (zm_w I 0 0 (I 10 0)) 0 1 ((zm_w I 0 0 (I 10 0)) 10 1)) 0 2 ((zm_w (zm_w I 0 0 (I 10 0)) 0 1 ((zm_w I 0 0 (I 10 0)) 10 1)) 10 2)) 0 3 ((zm_w (zm_w (zm_w I 0 0 (I 10 0)) 0 1 ((zm_w I 0 0 (I 10 0)) 10 1)) 0 2 ((zm_w (zm_w I 0 0 (I 10 0)) 0 1 ((zm_w I 0 0 (I 10 0)) 10 1)) 10 2)) 10 3)) 10 4)) 10 5)) 0 6 ((zm_w (zm_w (zm_w (zm_w (zm_w (zm_w I 0 0 (I 10 0)) 0 1 ((zm_w I 0 0 (I 10 0)) 10 1)) 0 2 ((zm_w (zm_w I 0 0 (I 10 0)) 0 1 ((zm_w I 0 0 (I 10 0)) 10 1)) 10 2)) 0 3 ((zm_w (zm_w (zm_w I 0 0 (I 10 0)) 0 1 ((zm_w I 0 0 (I 10 0)) 10 1)) 0 2 ((zm_w (zm_w I 0 0 (I 10 0)) 0 1 ((zm_w I 0 0 (I 10 0)) 10 1)) 10 2)) 10 3)) 0 4 ((zm_w (zm_w (zm_w (zm_w I 0 0 (I 10 0)) 0 1 ((zm_w I 0 0 (I 10 0)) 10 1)) 0 2 ((zm_w (zm_w I 0 0 (I 10 0)) 0 1 ((zm_w I 0 0 (I 10 0)) 10 1)) 10 2)) 0 3 ((zm_w (zm_w (zm_w I 0 0 (I 10 0)) 0 1 ((zm_w I 0 0 (I 10 0)) 10 1)) 0 2 ((zm_w (zm_w I 0 0 (I 10 0)) 0 1 ((zm_w I 0 0 (I 10 0)) 10 1)) 10 2)) 10 3)) 10 4)) 0 5 ((zm_w (zm_w (zm_w (zm_w (zm_w I 0 0 (I 10 0)) 0 1 ((zm_w I 0 0 (I 10 0)) 10 1)) 0 2 ((zm_w (zm_w I 0 0 (I 10 0)) 0 1 ((zm_w I 0 0 (I 10 0)) 10 1)) 10 2)) 0 3 ((zm_w (zm_w (zm_w I 0 0 (I 10 0)) 0 1 ((zm_w I 0 0 (I 10 0)) 10 1)) 0 2 ((zm_w (zm_w I 0 0 (I 10 0)) 0 1 ((zm_w I 0 0 (I 10 0)) 10 1)) 10 2)) 10 3)) 0 4 ((zm_w (zm_w (zm_w (zm_w I 0 0 (I 10 0)) 0 1 ((zm_w I 0 0 (I 10 0)) 10 1)) 0 2 ((zm_w (zm_w I 0 0 (I 10 0)) 0 1 ((zm_w I 0 0 (I 10 0)) 10 1)) 10 2)) 0 3 ((zm_w (zm_w (zm_w I 0 0 (I 10 0)) 0 1 ((zm_w I 0 0 (I 10 0)) 10 1)) 0 2 ((zm_w (zm_w I 0 0 (I 10 0)) 0 1 ((zm_w I 0 0 (I 10 0)) 10 1)) 10 2)) 10 3)) 10 4)) 10 5)) 10 6)) 0 7 ((zm_w (zm_w (zm_w (zm_w (zm_w (zm_w (zm_w I 0 0 (I 10 0)) 0 1 ((zm_w I 0 0 (I 10 0)) 10 1)) 0 2 ((zm_w (zm_w I 0 0 (I 10 0)) 0 1 ((zm_w I 0 0 (I 10 0)) 10 1)) 10 2)) 0 3 ((zm_w (zm_w (zm_w I 0 0 (I 10 0)) 0 1 ((zm_w I 0 0 (I 10 0)) 10 1)) 0 2 ((zm_w (zm_w I 0 0 (I 10 0)) 0 1 ((zm_w I 0 0 (I 10 0)) 10 1)) 10 2)) 10 3)) 0 4 ((zm_w (zm_w (zm_w (zm_w I 0 0 (I 10 0)) 0 1 ((zm_w I 0 0 (I 10 0)) 10 1)) 0 2 ((zm_w (zm_w I 0 0 (I 10 0)) 0 1 ((zm_w I 0 0 (I 10 0)) 10 1)) 10 2)) 0 3 ((zm_w (zm_w (zm_w I 0 0 (I 10 0)) 0 1 ((zm_w I 0 0 (I 10 0)) 10 1)) 0 2 ((zm_w (zm_w I 0 0 (I 10 0)) 0 1 ((zm_w I 0 0 (I 10 0)) 10 1)) 10 2)) 10 3)) 10 4)) 0 5 ((zm_w (zm_w (zm_w (zm_w (zm_w I 0 0 (I 10 0)) 0 1 ((zm_w I 0 0 (I 10 0)) 10 1)) 0 2 ((zm_w (zm_w I 0 0 (I 10 0)) 0 1 ((zm_w I 0 0 (I 10 0)) 10 1)) 10 2)) 0 3 ((zm_w (zm_w (zm_w I 0 0 (I 10 0)) 0 1 ((zm_w I 0 0 (I 10 0)) 10 1)) 0 2 ((zm_w (zm_w I 0 0 (I 10 0)) 0 1 ((zm_w I 0 0 (I 10 0)) 10 1)) 10 2)) 10 3)) 0 4 ((zm_w (zm_w (zm_w (zm_w I 0 0 (I 10 0)) 0 1 ((zm_w I 0 0 (I 10 0)) 10 1)) 0 2 ((zm_w (zm_w I 0 0 (I 10 0)) 0 1 ((zm_w I 0 0 (I 10 0)) 10 1)) 10 2)) 0 3 ((zm_w (zm_w (zm_w I 0 0 (I 10 0)) 0 1 ((zm_w I 0 0 (I 10 0)) 10 1)) 0 2 ((zm_w (zm_w I 0 0 (I 10 0)) 0 1 ((zm_w I 0 0 (I 10 0)) 10 1)) 10 2)) 10 3)) 10 4)) 10 5)) 0 6 ((zm_w (zm_w (zm_w (zm_w (zm_w (zm_w I 0 0 (I 10 0)) 0 1 ((zm_w I 0 0 (I 10 0)) 10 1)) 0 2 ((zm_w (zm_w I 0 0 (I 10 0)) 0 1 ((zm_w I 0 0 (I 10 0)) 10 1)) 10 2)) 0 3 ((zm_w (zm_w (zm_w I 0 0 (I 10 0)) 0 1 ((zm_w I 0 0 (I 10 0)) 10 1)) 0 2 ((zm_w (zm_w I 0 0 (I 10 0)) 0 1 ((zm_w I 0 0 (I 10 0)) 10 1)) 10 2)) 10 3)) 0 4 ((zm_w (zm_w (zm_w (zm_w I 0 0 (I 10 0)) 0 1 ((zm_w I 0 0 (I 10 0)) 10 1)) 0 2 ((zm_w (zm_w I 0 0 (I 10 0)) 0 1 ((zm_w I 0 0 (I 10 0)) 10 1)) 10 2)) 0 3 ((zm_w (zm_w (zm_w I 0 0 (I 10 0)) 0 1 ((zm_w I 0 0 (I 10 0)) 10 1)) 0 2 ((zm_w (zm_w I 0 0 (I 10 0)) 0 1 ((zm_w I 0 0 (I 10 0)) 10 1)) 10 2)) 10 3)) 10 4)) 0 5 ((zm_w (zm_w (zm_w (zm_w (zm_w I 0 0 (I 10 0)) 0 1 ((zm_w I 0 0 (I 10 0)) 10 1)) 0 2 ((zm_w (zm_w I 0 0 (I 10 0)) 0 1 ((zm_w I 0 0 (I 10 0)) 10 1)) 10 2)) 0 3 ((zm_w (zm_w (zm_w I 0 0 (I 10 0)) 0 1 ((zm_w I 0 0 (I 10 0)) 10 1)) 0 2 ((zm_w (zm_w I 0 0 (I 10 0)) 0 1 ((zm_w I 0 0 (I 10 0)) 10 1)) 10 2)) 10 3)) 0 4 ((zm_w (zm_w (zm_w (zm_w I 0 0 (I 10 0)) 0 1 ((zm_w I 0 0 (I 10 0)) 10 1)) 0 2 ((zm_w (zm_w I 0 0 (I 10 0)) 0 1 ((zm_w I 0 0 (I 10 0)) 10 1)) 10 2)) 0 3 ((zm_w (zm_w (zm_w I 0 0 (I 10 0)) 0 1 ((zm_w I 0 0 (I 10 0)) 10 1)) 0 2 ((zm_w (zm_w I 0 0 (I 10 0)) 0 1 ((zm_w I 0 0 (I 10 0)) 10 1)) 10 2)) 10 3)) 10 4)) 10 5)) 10 6)) 10 7)) 0 j = I 10 j := by
    intro j hj
    match j, hj with
    | 0, _ => rw [ze_wj (by decide), ze_wj (by decide), ze_wj (by decide), ze_wj (by decide), ze_wj (by decide), ze_wj (by decide), ze_wj (by decide), ze_wi]
    | 1, _ => rw [ze_wj (by decide), ze_wj (by decide), ze_wj (by decide), ze_wj (by decide), ze_wj (by decide), ze_wj (by decide), ze_wi, ze_wo (by decide)]
    | 2, _ => rw [ze_wj (by decide), ze_wj (by decide), ze_wj (by decide), ze_wj (by decide), ze_wj (by decide), ze_wi, ze_wo (by decide), ze_wo (by decide)]
    | 3, _ => rw [ze_wj (by decide), ze_wj (by decide), ze_wj (by decide), ze_wj (by decide), ze_wi, ze_wo (by decide), ze_wo (by decide), ze_wo (by decide)]
    | 4, _ => rw [ze_wj (by decide), ze_wj (by decide), ze_wj (by decide), ze_wi, ze_wo (by decide), ze_wo (by decide), ze_wo (by decide), ze_wo (by decide)]
    | 5, _ => rw [ze_wj (by decide), ze_wj (by decide), ze_wi, ze_wo (by decide), ze_wo (by decide), ze_wo (by decide), ze_wo (by decide), ze_wo (by decide)]
    | 6, _ => rw [ze_wj (by decide), ze_wi, ze_wo (by decide), ze_wo (by decide), ze_wo (by decide), ze_wo (by decide), ze_wo (by decide), ze_wo (by decide)]
    | 7, _ => rw [ze_wi, ze_wo (by decide), ze_wo (by decide), ze_wo (by decide), ze_wo (by decide), ze_wo (by decide), ze_wo (by decide), ze_wo (by decide)]
    | j + 8, h => omega
  have wo' : ∀ a b, a ≠ 0 → (zm_w (zm_w (zm_w (zm_w (zm_w (zm_w (zm_w (zm_w I 0 0 (I 10 0)) 0 1 ((zm_w I 0 0 (I 10 0)) 10 1)) 0 2 ((zm_w (zm_w I 0 0 (I 10 0)) 0 1 ((zm_w I 0 0 (I 10 0)) 10 1)) 10 2)) 0 3 ((zm_w (zm_w (zm_w I 0 0 (I 10 0)) 0 1 ((zm_w I 0 0 (I 10 0)) 10 1)) 0 2 ((zm_w (zm_w I 0 0 (I 10 0)) 0 1 ((zm_w I 0 0 (I 10 0)) 10 1)) 10 2)) 10 3)) 0 4 ((zm_w (zm_w (zm_w (zm_w I 0 0 (I 10 0)) 0 1 ((zm_w I 0 0 (I 10 0)) 10 1)) 0 2 ((zm_w (zm_w I 0 0 (I 10 0)) 0 1 ((zm_w I 0 0 (I 10 0)) 10 1)) 10 2)) 0 3 ((zm_w (zm_w (zm_w I 0 0 (I 10 0)) 0 1 ((zm_w I 0 0 (I 10 0)) 10 1)) 0 2 ((zm_w (zm_w I 0 0 (I 10 0)) 0 1 ((zm_w I 0 0 (I 10 0)) 10 1)) 10 2)) 10 3)) 10 4)) 0 5 ((zm_w (zm_w (zm_w (zm_w (zm_w I 0 0 (I 10 0)) 0 1 ((zm_w I 0 0 (I 10 0)) 10 1)) 0 2 ((zm_w (zm_w I 0 0 (I 10 0)) 0 1 ((zm_w I 0 0 (I 10 0)) 10 1)) 10 2)) 0 3 ((zm_w (zm_w (zm_w I 0 0 (I 10 0)) 0 1 ((zm_w I 0 0 (I 10 0)) 10 1)) 0 2 ((zm_w (zm_w I 0 0 (I 10 0)) 0 1 ((zm_w I 0 0 (I 10 0)) 10 1)) 10 2)) 10 3)) 0 4 ((zm_w (zm_w (zm_w (zm_w I 0 0 (I 10 0)) 0 1 ((zm_w I 0 0 (I 10 0)) 10 1)) 0 2 ((zm_w (zm_w I 0 0 (I 10 0)) 0 1 ((zm_w I 0 0 (I 10 0)) 10 1)) 10 2)) 0 3 ((zm_w (zm_w (zm_w I 0 0 (I 10 0)) 0 1 ((zm_w I 0 0 (I 10 0)) 10 1)) 0 2 ((zm_w (zm_w I 0 0 (I 10 0)) 0 1 ((zm_w I 0 0 (I 10 0)) 10 1)) 10 2)) 10 3)) 10 4)) 10 5)) 0 6 ((zm_w (zm_w (zm_w (zm_w (zm_w (zm_w I 0 0 (I 10 0)) 0 1 ((zm_w I 0 0 (I 10 0)) 10 1)) 0 2 ((zm_w (zm_w I 0 0 (I 10 0)) 0 1 ((zm_w I 0 0 (I 10 0)) 10 1)) 10 2)) 0 3 ((zm_w (zm_w (zm_w I 0 0 (I 10 0)) 0 1 ((zm_w I 0 0 (I 10 0)) 10 1)) 0 2 ((zm_w (zm_w I 0 0 (I 10 0)) 0 1 ((zm_w I 0 0 (I 10 0)) 10 1)) 10 2)) 10 3)) 0 4 ((zm_w (zm_w (zm_w (zm_w I 0 0 (I 10 0)) 0 1 ((zm_w I 0 0 (I 10 0)) 10 1)) 0 2 ((zm_w (zm_w I 0 0 (I 10 0)) 0 1 ((zm_w I 0 0 (I 10 0)) 10 1)) 10 2)) 0 3 ((zm_w (zm_w (zm_w I 0 0 (I 10 0)) 0 1 ((zm_w I 0 0 (I 10 0)) 10 1)) 0 2 ((zm_w (zm_w I 0 0 (I 10 0)) 0 1 ((zm_w I 0 0 (I 10 0)) 10 1)) 10 2)) 10 3)) 10 4)) 0 5 ((zm_w (zm_w (zm_w (zm_w (zm_w I 0 0 (I 10 0)) 0 1 ((zm_w I 0 0 (I 10 0)) 10 1)) 0 2 ((zm_w (zm_w I 0 0 (I 10 0)) 0 1 ((zm_w I 0 0 (I 10 0)) 10 1)) 10 2)) 0 3 ((zm_w (zm_w (zm_w I 0 0 (I 10 0)) 0 1 ((zm_w I 0 0 (I 10 0)) 10 1)) 0 2 ((zm_w (zm_w I 0 0 (I 10 0)) 0 1 ((zm_w I 0 0 (I 10 0)) 10 1)) 10 2)) 10 3)) 0 4 ((zm_w (zm_w (zm_w (zm_w I 0 0 (I 10 0)) 0 1 ((zm_w I 0 0 (I 10 0)) 10 1)) 0 2 ((zm_w (zm_w I 0 0 (I 10 0)) 0 1 ((zm_w I 0 0 (I 10 0)) 10 1)) 10 2)) 0 3 ((zm_w (zm_w (zm_w I 0 0 (I 10 0)) 0 1 ((zm_w I 0 0 (I 10 0)) 10 1)) 0 2 ((zm_w (zm_w I 0 0 (I 10 0)) 0 1 ((zm_w I 0 0 (I 10 0)) 10 1)) 10 2)) 10 3)) 10 4)) 10 5)) 10 6)) 0 7 ((zm_w (zm_w (zm_w (zm_w (zm_w (zm_w (zm_w I 0 0 (I 10 0)) 0 1 ((zm_w I 0 0 (I 10 0)) 10 1)) 0 2 ((zm_w (zm_w I 0 0 (I 10 0)) 0 1 ((zm_w I 0 0 (I 10 0)) 10 1)) 10 2)) 0 3 ((zm_w (zm_w (zm_w I 0 0 (I 10 0)) 0 1 ((zm_w I 0 0 (I 10 0)) 10 1)) 0 2 ((zm_w (zm_w I 0 0 (I 10 0)) 0 1 ((zm_w I 0 0 (I 10 0)) 10 1)) 10 2)) 10 3)) 0 4 ((zm_w (zm_w (zm_w (zm_w I 0 0 (I 10 0)) 0 1 ((zm_w I 0 0 (I 10 0)) 10 1)) 0 2 ((zm_w (zm_w I 0 0 (I 10 0)) 0 1 ((zm_w I 0 0 (I 10 0)) 10 1)) 10 2)) 0 3 ((zm_w (zm_w (zm_w I 0 0 (I 10 0)) 0 1 ((zm_w I 0 0 (I 10 0)) 10 1)) 0 2 ((zm_w (zm_w I 0 0 (I 10 0)) 0 1 ((zm_w I 0 0 (I 10 0)) 10 1)) 10 2)) 10 3)) 10 4)) 0 5 ((zm_w (zm_w (zm_w (zm_w (zm_w I 0 0 (I 10 0)) 0 1 ((zm_w I 0 0 (I 10 0)) 10 1)) 0 2 ((zm_w (zm_w I 0 0 (I 10 0)) 0 1 ((zm_w I 0 0 (I 10 0)) 10 1)) 10 2)) 0 3 ((zm_w (zm_w (zm_w I 0 0 (I 10 0)) 0 1 ((zm_w I 0 0 (I 10 0)) 10 1)) 0 2 ((zm_w (zm_w I 0 0 (I 10 0)) 0 1 ((zm_w I 0 0 (I 10 0)) 10 1)) 10 2)) 10 3)) 0 4 ((zm_w (zm_w (zm_w (zm_w I 0 0 (I 10 0)) 0 1 ((zm_w I 0 0 (I 10 0)) 10 1)) 0 2 ((zm_w (zm_w I 0 0 (I 10 0)) 0 1 ((zm_w I 0 0 (I 10 0)) 10 1)) 10 2)) 0 3 ((zm_w (zm_w (zm_w I 0 0 (I 10 0)) 0 1 ((zm_w I 0 0 (I 10 0)) 10 1)) 0 2 ((zm_w (zm_w I 0 0 (I 10 0)) 0 1 ((zm_w I 0 0 (I 10 0)) 10 1)) 10 2)) 10 3)) 10 4)) 10 5)) 0 6 ((zm_w (zm_w (zm_w (zm_w (zm_w (zm_w I 0 0 (I 10 0)) 0 1 ((zm_w I 0 0 (I 10 0)) 10 1)) 0 2 ((zm_w (zm_w I 0 0 (I 10 0)) 0 1 ((zm_w I 0 0 (I 10 0)) 10 1)) 10 2)) 0 3 ((zm_w (zm_w (zm_w I 0 0 (I 10 0)) 0 1 ((zm_w I 0 0 (I 10 0)) 10 1)) 0 2 ((zm_w (zm_w I 0 0 (I 10 0)) 0 1 ((zm_w I 0 0 (I 10 0)) 10 1)) 10 2)) 10 3)) 0 4 ((zm_w (zm_w (zm_w (zm_w I 0 0 (I 10 0)) 0 1 ((zm_w I 0 0 (I 10 0)) 10 1)) 0 2 ((zm_w (zm_w I 0 0 (I 10 0)) 0 1 ((zm_w I 0 0 (I 10 0)) 10 1)) 10 2)) 0 3 ((zm_w (zm_w (zm_w I 0 0 (I 10 0)) 0 1 ((zm_w I 0 0 (I 10 0)) 10 1)) 0 2 ((zm_w (zm_w I 0 0 (I 10 0)) 0 1 ((zm_w I 0 0 (I 10 0)) 10 1)) 10 2)) 10 3)) 10 4)) 0 5 ((zm_w (zm_w (zm_w (zm_w (zm_w I 0 0 (I 10 0)) 0 1 ((zm_w I 0 0 (I 10 0)) 10 1)) 0 2 ((zm_w (zm_w I 0 0 (I 10 0)) 0 1 ((zm_w I 0 0 (I 10 0)) 10 1)) 10 2)) 0 3 ((zm_w (zm_w (zm_w I 0 0 (I 10 0)) 0 1 ((zm_w I 0 0 (I 10 0)) 10 1)) 0 2 ((zm_w (zm_w I 0 0 (I 10 0)) 0 1 ((zm_w I 0 0 (I 10 0)) 10 1)) 10 2)) 10 3)) 0 4 ((zm_w (zm_w (zm_w (zm_w I 0 0 (I 10 0)) 0 1 ((zm_w I 0 0 (I 10 0)) 10 1)) 0 2 ((zm_w (zm_w I 0 0 (I 10 0)) 0 1 ((zm_w I 0 0 (I 10 0)) 10 1)) 10 2)) 0 3 ((zm_w (zm_w (zm_w I 0 0 (I 10 0)) 0 1 ((zm_w I 0 0 (I 10 0)) 10 1)) 0 2 ((zm_w (zm_w I 0 0 (I 10 0)) 0 1 ((zm_w I 0 0 (I 10 0)) 10 1)) 10 2)) 10 3)) 10 4)) 10 5)) 10 6)) 10 7)) a b = I a b := by
    intro a b ha
    rw [ze_wo ha, ze_wo ha, ze_wo ha, ze_wo ha, ze_wo ha, ze_wo ha, ze_wo ha, ze_wo ha]
  rw [e]
  generalize (zm_w (zm_w (zm_w (zm_w (zm_w (zm_w (zm_w (zm_w I 0 0 (I 10 0)) 0 1 ((zm_w I 0 0 (I 10 0)) 10 1)) 0 2 ((zm_w (zm_w I 0 0 (I 10 0)) 0 1 ((zm_w I 0 0 (I 10 0)) 10 1)) 10 2)) 0 3 ((zm_w (zm_w (zm_w I 0 0 (I 10 0)) 0 1 ((zm_w I 0 0 (I 10 0)) 10 1)) 0 2 ((zm_w (zm_w I 0 0 (I 10 0)) 0 1 ((zm_w I 0 0 (I 10 0)) 10 1)) 10 2)) 10 3)) 0 4 ((zm_w (zm_w (zm_w (zm_w I 0 0 (I 10 0)) 0 1 ((zm_w I 0 0 (I 10 0)) 10 1)) 0 2 ((zm_w (zm_w I 0 0 (I 10 0)) 0 1 ((zm_w I 0 0 (I 10 0)) 10 1)) 10 2)) 0 3 ((zm_w (zm_w (zm_w I 0 0 (I 10 0)) 0 1 ((zm_w I 0 0 (I 10 0)) 10 1)) 0 2 ((zm_w (zm_w I 0 0 (I 10 0)) 0 1 ((zm_w I 0 0 (I 10 0)) 10 1)) 10 2)) 10 3)) 10 4)) 0 5 ((zm_w (zm_w (zm_w (zm_w (zm_w I 0 0 (I 10 0)) 0 1 ((zm_w I 0 0 (I 10 0)) 10 1)) 0 2 ((zm_w (zm_w I 0 0 (I 10 0)) 0 1 ((zm_w I 0 0 (I 10 0)) 10 1)) 10 2)) 0 3 ((zm_w (zm_w (zm_w I 0 0 (I 10 0)) 0 1 ((zm_w I 0 0 (I 10 0)) 10 1)) 0 2 ((zm_w (zm_w I 0 0 (I 10 0)) 0 1 ((zm_w I 0 0 (I 10 0)) 10 1)) 10 2)) 10 3)) 0 4 ((zm_w (zm_w (zm_w (zm_w I 0 0 (I 10 0)) 0 1 ((zm_w I 0 0 (I 10 0)) 10 1)) 0 2 ((zm_w (zm_w I 0 0 (I 10 0)) 0 1 ((zm_w I 0 0 (I 10 0)) 10 1)) 10 2)) 0 3 ((zm_w (zm_w (zm_w I 0 0 (I 10 0)) 0 1 ((zm_w I 0 0 (I 10 0)) 10 1)) 0 2 ((zm_w (zm_w I 0 0 (I 10 0)) 0 1 ((zm_w I 0 0 (I 10 0)) 10 1)) 10 2)) 10 3)) 10 4)) 10 5)) 0 6 ((zm_w (zm_w (zm_w (zm_w (zm_w (zm_w I 0 0 (I 10 0)) 0 1 ((zm_w I 0 0 (I 10 0)) 10 1)) 0 2 ((zm_w (zm_w I 0 0 (I 10 0)) 0 1 ((zm_w I 0 0 (I 10 0)) 10 1)) 10 2)) 0 3 ((zm_w (zm_w (zm_w I 0 0 (I 10 0)) 0 1 ((zm_w I 0 0 (I 10 0)) 10 1)) 0 2 ((zm_w (zm_w I 0 0 (I 10 0)) 0 1 ((zm_w I 0 0 (I 10 0)) 10 1)) 10 2)) 10 3)) 0 4 ((zm_w (zm_w (zm_w (zm_w I 0 0 (I 10 0)) 0 1 ((zm_w I 0 0 (I 10 0)) 10 1)) 0 2 ((zm_w (zm_w I 0 0 (I 10 0)) 0 1 ((zm_w I 0 0 (I 10 0)) 10 1)) 10 2)) 0 3 ((zm_w (zm_w (zm_w I 0 0 (I 10 0)) 0 1 ((zm_w I 0 0 (I 10 0)) 10 1)) 0 2 ((zm_w (zm_w I 0 0 (I 10 0)) 0 1 ((zm_w I 0 0 (I 10 0)) 10 1)) 10 2)) 10 3)) 10 4)) 0 5 ((zm_w (zm_w (zm_w (zm_w (zm_w I 0 0 (I 10 0)) 0 1 ((zm_w I 0 0 (I 10 0)) 10 1)) 0 2 ((zm_w (zm_w I 0 0 (I 10 0)) 0 1 ((zm_w I 0 0 (I 10 0)) 10 1)) 10 2)) 0 3 ((zm_w (zm_w (zm_w I 0 0 (I 10 0)) 0 1 ((zm_w I 0 0 (I 10 0)) 10 1)) 0 2 ((zm_w (zm_w I 0 0 (I 10 0)) 0 1 ((zm_w I 0 0 (I 10 0)) 10 1)) 10 2)) 10 3)) 0 4 ((zm_w (zm_w (zm_w (zm_w I 0 0 (I 10 0)) 0 1 ((zm_w I 0 0 (I 10 0)) 10 1)) 0 2 ((zm_w (zm_w I 0 0 (I 10 0)) 0 1 ((zm_w I 0 0 (I 10 0)) 10 1)) 10 2)) 0 3 ((zm_w (zm_w (zm_w I 0 0 (I 10 0)) 0 1 ((zm_w I 0 0 (I 10 0)) 10 1)) 0 2 ((zm_w (zm_w I 0 0 (I 10 0)) 0 1 ((zm_w I 0 0 (I 10 0)) 10 1)) 10 2)) 10 3)) 10 4)) 10 5)) 10 6)) 0 7 ((zm_w (zm_w (zm_w (zm_w (zm_w (zm_w (zm_w I 0 0 (I 10 0)) 0 1 ((zm_w I 0 0 (I 10 0)) 10 1)) 0 2 ((zm_w (zm_w I 0 0 (I 10 0)) 0 1 ((zm_w I 0 0 (I 10 0)) 10 1)) 10 2)) 0 3 ((zm_w (zm_w (zm_w I 0 0 (I 10 0)) 0 1 ((zm_w I 0 0 (I 10 0)) 10 1)) 0 2 ((zm_w (zm_w I 0 0 (I 10 0)) 0 1 ((zm_w I 0 0 (I 10 0)) 10 1)) 10 2)) 10 3)) 0 4 ((zm_w (zm_w (zm_w (zm_w I 0 0 (I 10 0)) 0 1 ((zm_w I 0 0 (I 10 0)) 10 1)) 0 2 ((zm_w (zm_w I 0 0 (I 10 0)) 0 1 ((zm_w I 0 0 (I 10 0)) 10 1)) 10 2)) 0 3 ((zm_w (zm_w (zm_w I 0 0 (I 10 0)) 0 1 ((zm_w I 0 0 (I 10 0)) 10 1)) 0 2 ((zm_w (zm_w I 0 0 (I 10 0)) 0 1 ((zm_w I 0 0 (I 10 0)) 10 1)) 10 2)) 10 3)) 10 4)) 0 5 ((zm_w (zm_w (zm_w (zm_w (zm_w I 0 0 (I 10 0)) 0 1 ((zm_w I 0 0 (I 10 0)) 10 1)) 0 2 ((zm_w (zm_w I 0 0 (I 10 0)) 0 1 ((zm_w I 0 0 (I 10 0)) 10 1)) 10 2)) 0 3 ((zm_w (zm_w (zm_w I 0 0 (I 10 0)) 0 1 ((zm_w I 0 0 (I 10 0)) 10 1)) 0 2 ((zm_w (zm_w I 0 0 (I 10 0)) 0 1 ((zm_w I 0 0 (I 10 0)) 10 1)) 10 2)) 10 3)) 0 4 ((zm_w (zm_w (zm_w (zm_w I 0 0 (I 10 0)) 0 1 ((zm_w I 0 0 (I 10 0)) 10 1)) 0 2 ((zm_w (zm_w I 0 0 (I 10 0)) 0 1 ((zm_w I 0 0 (I 10 0)) 10 1)) 10 2)) 0 3 ((zm_w (zm_w (zm_w I 0 0 (I 10 0)) 0 1 ((zm_w I 0 0 (I 10 0)) 10 1)) 0 2 ((zm_w (zm_w I 0 0 (I 10 0)) 0 1 ((zm_w I 0 0 (I 10 0)) 10 1)) 10 2)) 10 3)) 10 4)) 10 5)) 0 6 ((zm_w (zm_w (zm_w (zm_w (zm_w (zm_w I 0 0 (I 10 0)) 0 1 ((zm_w I 0 0 (I 10 0)) 10 1)) 0 2 ((zm_w (zm_w I 0 0 (I 10 0)) 0 1 ((zm_w I 0 0 (I 10 0)) 10 1)) 10 2)) 0 3 ((zm_w (zm_w (zm_w I 0 0 (I 10 0)) 0 1 ((zm_w I 0 0 (I 10 0)) 10 1)) 0 2 ((zm_w (zm_w I 0 0 (I 10 0)) 0 1 ((zm_w I 0 0 (I 10 0)) 10 1)) 10 2)) 10 3)) 0 4 ((zm_w (zm_w (zm_w (zm_w I 0 0 (I 10 0)) 0 1 ((zm_w I 0 0 (I 10 0)) 10 1)) 0 2 ((zm_w (zm_w I 0 0 (I 10 0)) 0 1 ((zm_w I 0 0 (I 10 0)) 10 1)) 10 2)) 0 3 ((zm_w (zm_w (zm_w I 0 0 (I 10 0)) 0 1 ((zm_w I 0 0 (I 10 0)) 10 1)) 0 2 ((zm_w (zm_w I 0 0 (I 10 0)) 0 1 ((zm_w I 0 0 (I 10 0)) 10 1)) 10 2)) 10 3)) 10 4)) 0 5 ((zm_w (zm_w (zm_w (zm_w (zm_w I 0 0 (I 10 0)) 0 1 ((zm_w I 0 0 (I 10 0)) 10 1)) 0 2 ((zm_w (zm_w I 0 0 (I 10 0)) 0 1 ((zm_w I 0 0 (I 10 0)) 10 1)) 10 2)) 0 3 ((zm_w (zm_w (zm_w I 0 0 (I 10 0)) 0 1 ((zm_w I 0 0 (I 10 0)) 10 1)) 0 2 ((zm_w (zm_w I 0 0 (I 10 0)) 0 1 ((zm_w I 0 0 (I 10 0)) 10 1)) 10 2)) 10 3)) 0 4 ((zm_w (zm_w (zm_w (zm_w I 0 0 (I 10 0)) 0 1 ((zm_w I 0 0 (I 10 0)) 10 1)) 0 2 ((zm_w (zm_w I 0 0 (I 10 0)) 0 1 ((zm_w I 0 0 (I 10 0)) 10 1)) 10 2)) 0 3 ((zm_w (zm_w (zm_w I 0 0 (I 10 0)) 0 1 ((zm_w I 0 0 (I 10 0)) 10 1)) 0 2 ((zm_w (zm_w I 0 0 (I 10 0)) 0 1 ((zm_w I 0 0 (I 10 0)) 10 1)) 10 2)) 10 3)) 10 4)) 10 5)) 10 6)) 10 7)) = K at w wo'
  obtain ⟨N1, a1, a2, a3⟩ := zp_cf66 (J := J) 6 0 K rfl
  obtain ⟨N2, b1, b2, b3⟩ := zp_cf92 (J := J) 5 0 N1 rfl
  obtain ⟨N3, c1, c2, c3⟩ := zp_cf165 (J := J) hk k 0 N2 (Nat.zero_add k) (by rw [b3 0 7 (by omega), a3 0 7 (by omega), w 7 (by decide)]; exact h7)
  rw [a1, b1, c1]
  refine ⟨N3, rfl, fun j hj => ?_, fun s hs => ?_, fun c hc => ?_, fun b hb => ?_, fun a b ha => ?_⟩
  · rw [c3 0 j (by omega), b3 0 j (by omega), a3 0 j (by omega), w j hj]
  · rw [c3 1 s (by omega), b3 1 s (by omega), a2 s (by omega) hs, wo' 11 s (by decide)]
  · have r := b2 c (by omega) hc
    rw [a3 12 c (by omega), a3 13 c (by omega), a3 14 c (by omega), a3 15 c (by omega), a3 16 c (by omega), wo' 12 c (by decide), wo' 13 c (by decide), wo' 14 c (by decide), wo' 15 c (by decide), wo' 16 c (by decide)] at r
    rw [c3 2 c (by omega), c3 3 c (by omega), c3 4 c (by omega), c3 5 c (by omega), c3 6 c (by omega)]
    exact r
  · have r := c2 b (by omega) hb
    rw [b3 17 b (by omega), b3 18 b (by omega), b3 19 b (by omega), a3 17 b (by omega), a3 18 b (by omega), a3 19 b (by omega), wo' 17 b (by decide), wo' 18 b (by decide), wo' 19 b (by decide)] at r
    exact r
  · rw [c3 a b (by omega), b3 a b (by omega), a3 a b (by omega), wo' a b (by omega)]
end ZPI
end
section
/-! copyRow, copyBench, exactly -/
section ZPK
variable {J : Nat → Nat → Int64}
theorem zp_cr3 {n m len a b : Nat} (hq : zh_crEq n m len) (hm : 5 * m ≤ len) (hl : len ≤ 1000) (ha : a ≤ 4) (hb : b ≤ 4) (ea : (Int32.ofNat m * Int32.ofNat a : Int32) = Int32.ofNat (m * a)) (eb : (Int32.ofNat m * Int32.ofNat b : Int32) = Int32.ofNat (m * b)) (la : m * a + m ≤ len) (lb : m * b + m ≤ len) (hab : m * a + m ≤ m * b ∨ m * b + m ≤ m * a) : ∀ (d k : Nat) (I : Nat → Nat → Int32), k + d = m → ∃ N, zh_crV n m 3 (Int32.ofNat a) (Int32.ofNat b) (Int32.ofNat k) I J = some (none, (N, J)) ∧ (∀ q, k ≤ q → q < m → N n (m * b + q) = I n (m * a + q)) ∧ (∀ i j, (i ≠ n ∨ j < m * b + k ∨ m * b + m ≤ j) → N i j = I i j) := by
  intro d
  induction d with
  | zero =>
    intro k I h
    obtain ⟨-, hk⟩ := hq I J (Int32.ofNat a) (Int32.ofNat b)
    obtain ⟨h3, h9, h31⟩ := hk (Int32.ofNat k)
    refine ⟨I, ?_, fun q h1 h2 => by omega, fun i j _ => rfl⟩
    rw [h3, if_pos ((zp_le (by omega) (by omega)).mpr (by omega)), h31]
  | succ d ih =>
    intro k I h
    obtain ⟨-, hk⟩ := hq I J (Int32.ofNat a) (Int32.ofNat b)
    obtain ⟨h3, h9, h31⟩ := hk (Int32.ofNat k)
    obtain ⟨N, q1, q2, q3⟩ := ih (k + 1) (zm_w I n (m * b + k) (I n (m * a + k))) (by omega)
    have oa : Int32.ofNat m * Int32.ofNat a + Int32.ofNat k = Int32.ofNat (m * a + k) := by rw [ea]; exact zh_ofadd (zp_o (by omega)) (by omega)
    have ob : Int32.ofNat m * Int32.ofNat b + Int32.ofNat k = Int32.ofNat (m * b + k) := by rw [eb]; exact zh_ofadd (zp_o (by omega)) (by omega)
    refine ⟨N, ?_, fun q h1 h2 => ?_, fun i j hij => ?_⟩
    · rw [h3, if_neg (fun z => by have := (zp_le (by omega) (by omega)).mp z; omega), h9, oa, ob, if_neg (zp_in (by omega) (by omega)), if_neg (zp_in (by omega) (by omega)), zp_cl (by omega), zp_cl (by omega), zp_o1 (by omega)]
      exact q1
    · by_cases e : q = k
      · subst e
        rw [q3 n (m * b + q) (by omega), ze_wi]
      · rw [q2 q (by omega) h2, ze_wj (by omega)]
    · rw [q3 i j (by omega)]
      by_cases e : i = n
      · subst e
        exact ze_wj (by omega)
      · exact ze_wo e
theorem zp_crM {n m len a b : Nat} (hq : zh_crEq n m len) (hm : 5 * m ≤ len) (hl : len ≤ 1000) (ha : a ≤ 4) (hb : b ≤ 4) (ea : (Int32.ofNat m * Int32.ofNat a : Int32) = Int32.ofNat (m * a)) (eb : (Int32.ofNat m * Int32.ofNat b : Int32) = Int32.ofNat (m * b)) (la : m * a + m ≤ len) (lb : m * b + m ≤ len) (hab : m * a + m ≤ m * b ∨ m * b + m ≤ m * a) (I : Nat → Nat → Int32) : ∃ N, zF_X10_copyRow zW_M [.ref n, .int (Int32.ofNat m), .int (Int32.ofNat a), .int (Int32.ofNat b)] (I, J) = some (none, (N, J)) ∧ (∀ q, q < m → N n (m * b + q) = I n (m * a + q)) ∧ (∀ i j, i ≠ n → N i j = I i j) ∧ (∀ j, (j < m * b ∨ m * b + m ≤ j) → N n j = I n j) := by
  obtain ⟨N, q1, q2, q3⟩ := zp_cr3 (J := J) hq hm hl ha hb ea eb la lb hab m 0 I (Nat.zero_add m)
  exact ⟨N, ((hq I J (Int32.ofNat a) (Int32.ofNat b)).1).trans q1, fun q h => q2 q (Nat.zero_le q) h, fun i j h => q3 i j (Or.inl h), fun j h => q3 n j (Or.inr (by omega))⟩
theorem zp_mul : ∀ m, m < 121 → ∀ a, a < 5 → (Int32.ofNat m * Int32.ofNat a : Int32) = Int32.ofNat (m * a) := by decide +kernel
/-- a bench copied from slot a to slot b -/
theorem zp_cbM {a b : Nat} (ha : a ≤ 4) (hb : b ≤ 4) (hab : a < b ∨ b < a) (I : Nat → Nat → Int32) : ∃ N, zF_X10_copyBench zW_M [.ref 0, .int (Int32.ofNat a), .int (Int32.ofNat b)] (I, J) = some (none, (N, J)) ∧ N 6 b = I 6 a ∧ (∀ q, q < 7 → N 7 (7 * b + q) = I 7 (7 * a + q)) ∧ (∀ q, q < 6 → N 8 (6 * b + q) = I 8 (6 * a + q)) ∧ (∀ q, q < 25 → N 9 (25 * b + q) = I 9 (25 * a + q)) ∧ (∀ q, q < 120 → N 10 (120 * b + q) = I 10 (120 * a + q)) ∧ (∀ i j, (i < 6 ∨ 10 < i) → N i j = I i j) ∧ (∀ j, j ≠ b → N 6 j = I 6 j) ∧ (∀ j, (j < 7 * b ∨ 7 * b + 7 ≤ j) → N 7 j = I 7 j) ∧ (∀ j, (j < 6 * b ∨ 6 * b + 6 ≤ j) → N 8 j = I 8 j) ∧ (∀ j, (j < 25 * b ∨ 25 * b + 25 ≤ j) → N 9 j = I 9 j) ∧ (∀ j, (j < 120 * b ∨ 120 * b + 120 ≤ j) → N 10 j = I 10 j) := by
  obtain ⟨N1, a1, a2, a3, a4⟩ := zp_crM (J := J) zh_cr6 (by decide) (by decide) ha hb (zp_mul 1 (by decide) a (by omega)) (zp_mul 1 (by decide) b (by omega)) (by omega) (by omega) (by omega) I
  obtain ⟨N2, b1, b2, b3, b4⟩ := zp_crM (J := J) zh_cr7 (by decide) (by decide) ha hb (zp_mul 7 (by decide) a (by omega)) (zp_mul 7 (by decide) b (by omega)) (by omega) (by omega) (by omega) N1
  obtain ⟨N3, c1, c2, c3, c4⟩ := zp_crM (J := J) zh_cr8 (by decide) (by decide) ha hb (zp_mul 6 (by decide) a (by omega)) (zp_mul 6 (by decide) b (by omega)) (by omega) (by omega) (by omega) N2
  obtain ⟨N4, d1, d2, d3, d4⟩ := zp_crM (J := J) zh_cr9 (by decide) (by decide) ha hb (zp_mul 25 (by decide) a (by omega)) (zp_mul 25 (by decide) b (by omega)) (by omega) (by omega) (by omega) N3
  obtain ⟨N5, e1, e2, e3, e4⟩ := zp_crM (J := J) zh_cr10 (by decide) (by decide) ha hb (zp_mul 120 (by decide) a (by omega)) (zp_mul 120 (by decide) b (by omega)) (by omega) (by omega) (by omega) N4
  refine ⟨N5, ?_, ?_, fun q hq => ?_, fun q hq => ?_, fun q hq => ?_, fun q hq => ?_, fun i j hi => ?_, fun j hj => ?_, fun j hj => ?_, fun j hj => ?_, fun j hj => ?_, fun j hj => ?_⟩
  · rw [zf_X10_copyBench_M]
    exact (zc_X10_copyBench_M_0 I J _ _ a1).trans ((zc_X10_copyBench_M_10 N1 J _ _ b1).trans ((zc_X10_copyBench_M_21 N2 J _ _ c1).trans ((zc_X10_copyBench_M_32 N3 J _ _ d1).trans ((zc_X10_copyBench_M_43 N4 J _ _ e1).trans (zq_X10_copyBench_M_54 N5 J _ _)))))
  · have r := a2 0 (by decide)
    rw [show 1 * b + 0 = b by omega, show 1 * a + 0 = a by omega] at r
    rw [e3 6 b (by decide), d3 6 b (by decide), c3 6 b (by decide), b3 6 b (by decide)]
    exact r
  · rw [e3 7 _ (by decide), d3 7 _ (by decide), c3 7 _ (by decide), b2 q hq, a3 7 _ (by decide)]
  · rw [e3 8 _ (by decide), d3 8 _ (by decide), c2 q hq, b3 8 _ (by decide), a3 8 _ (by decide)]
  · rw [e3 9 _ (by decide), d2 q hq, c3 9 _ (by decide), b3 9 _ (by decide), a3 9 _ (by decide)]
  · rw [e2 q hq, d3 10 _ (by decide), c3 10 _ (by decide), b3 10 _ (by decide), a3 10 _ (by decide)]
  · rw [e3 i j (by omega), d3 i j (by omega), c3 i j (by omega), b3 i j (by omega), a3 i j (by omega)]
  · rw [e3 6 j (by decide), d3 6 j (by decide), c3 6 j (by decide), b3 6 j (by decide), a4 j (by omega)]
  · rw [e3 7 j (by decide), d3 7 j (by decide), c3 7 j (by decide), b4 j hj, a3 7 j (by decide)]
  · rw [e3 8 j (by decide), d3 8 j (by decide), c4 j hj, b3 8 j (by decide), a3 8 j (by decide)]
  · rw [e3 9 j (by decide), d4 j hj, c3 9 j (by decide), b3 9 j (by decide), a3 9 j (by decide)]
  · rw [e4 j hj, d3 10 j (by decide), c3 10 j (by decide), b3 10 j (by decide), a3 10 j (by decide)]
end ZPK
end
section
/-! bench, on both sides: around the lines -/
def zpA0 (T : Nat → Int) (n : Nat) : zpA := zp_adv T n (0, 0, 0, 0, -1)
section ZPL
variable {T : Nat → Int} {n : Nat} {I I' : Nat → Nat → Int32} {J J' : Nat → Nat → Int64}
theorem zpW0 : zpW T n (zpA0 T n) := zp_W_adv (A := (0, 0, 0, 0, -1)) (Nat.zero_le n) (fun _ => rfl)
theorem zp_rdX (h1 : I 0 1 = Int32.ofNat n) (hT : ∀ i, i < n → (I 1 i).toInt = T i) (hn : n ≤ 800) : ∃ K, zF_X8_read zW_TB [.ref 0, .ref 2] (I, J) = zv_X8_read_TB_25 K J (Int32.ofNat 0) ∧ zpXA T n (zpA0 T n) K ∧ ∀ j, j < 8 → K 2 j = 0 := by
  have hc : zF_X0_clear zW_B [.ref 0] (zm_sub2 [(2, 10)] ((zm_w (zm_w (zm_w I 0 2 0) 0 3 (-1)) 0 6 0), J)) = _ := (zf_X0_clear_B (zm_sub2 [(2, 10)] ((zm_w (zm_w (zm_w I 0 2 0) 0 3 (-1)) 0 6 0), J)).1 (zm_sub2 [(2, 10)] ((zm_w (zm_w (zm_w I 0 2 0) 0 3 (-1)) 0 6 0), J)).2).trans (zq_X0_clear_B_0 _ _)
  have e0 := (zf_X8_read_TB I J).trans (zc_X8_read_TB_0 I J hc)
  have w0 : ∀ a b, a < 2 → (zm_mrg [(2, 10)] ((zm_w (zm_w (zm_w I 0 2 0) 0 3 (-1)) 0 6 0), J) ((zm_w (zm_w (zm_w (zm_w (zm_w (zm_w (zm_w (zm_w (zm_sub2 [(2, 10)] ((zm_w (zm_w (zm_w I 0 2 0) 0 3 (-1)) 0 6 0), J)).1 0 0 0) 0 1 0) 0 2 0) 0 3 0) 0 4 0) 0 5 0) 0 6 0) 0 7 0), (zm_sub2 [(2, 10)] ((zm_w (zm_w (zm_w I 0 2 0) 0 3 (-1)) 0 6 0), J)).2)).1 a b = zm_w (zm_w (zm_w I 0 2 0) 0 3 (-1)) 0 6 0 a b := fun a b ha => by rw [(zy_m0 (a := 2) (z := 10) (n := a) (by omega) _ _).1]
  have w1 : ∀ j, j < 8 → (zm_mrg [(2, 10)] ((zm_w (zm_w (zm_w I 0 2 0) 0 3 (-1)) 0 6 0), J) ((zm_w (zm_w (zm_w (zm_w (zm_w (zm_w (zm_w (zm_w (zm_sub2 [(2, 10)] ((zm_w (zm_w (zm_w I 0 2 0) 0 3 (-1)) 0 6 0), J)).1 0 0 0) 0 1 0) 0 2 0) 0 3 0) 0 4 0) 0 5 0) 0 6 0) 0 7 0), (zm_sub2 [(2, 10)] ((zm_w (zm_w (zm_w I 0 2 0) 0 3 (-1)) 0 6 0), J)).2)).1 2 j = 0 := by
    intro j hj
    rw [(zy_m1 (a := 2) (z := 10) (n := 2) (by decide) (by decide) _ _).1]
    match j, hj with
    | 0, _ => rfl
    | 1, _ => rfl
    | 2, _ => rfl
    | 3, _ => rfl
    | 4, _ => rfl
    | 5, _ => rfl
    | 6, _ => rfl
    | 7, _ => rfl
    | j + 8, h => omega
  have wJ : (zm_mrg [(2, 10)] ((zm_w (zm_w (zm_w I 0 2 0) 0 3 (-1)) 0 6 0), J) ((zm_w (zm_w (zm_w (zm_w (zm_w (zm_w (zm_w (zm_w (zm_sub2 [(2, 10)] ((zm_w (zm_w (zm_w I 0 2 0) 0 3 (-1)) 0 6 0), J)).1 0 0 0) 0 1 0) 0 2 0) 0 3 0) 0 4 0) 0 5 0) 0 6 0) 0 7 0), (zm_sub2 [(2, 10)] ((zm_w (zm_w (zm_w I 0 2 0) 0 3 (-1)) 0 6 0), J)).2)).2 = J := by
    funext a
    by_cases c : a < 2 ∨ 12 ≤ a
    · rw [(zy_m0 (a := 2) (z := 10) (n := a) (by omega) _ _).2]
    · rw [(zy_m1 (a := 2) (z := 10) (n := a) (by omega) (by omega) _ _).2]
      show (zm_sub2 [(2, 10)] ((zm_w (zm_w (zm_w I 0 2 0) 0 3 (-1)) 0 6 0), J)).2 (a - 2) = J a
      rw [(zy_s1 (a := 2) (z := 10) (n := a - 2) (by omega) _).2, show 2 + (a - 2) = a by omega]
  rw [e0, wJ]
  generalize (zm_mrg [(2, 10)] ((zm_w (zm_w (zm_w I 0 2 0) 0 3 (-1)) 0 6 0), J) ((zm_w (zm_w (zm_w (zm_w (zm_w (zm_w (zm_w (zm_w (zm_sub2 [(2, 10)] ((zm_w (zm_w (zm_w I 0 2 0) 0 3 (-1)) 0 6 0), J)).1 0 0 0) 0 1 0) 0 2 0) 0 3 0) 0 4 0) 0 5 0) 0 6 0) 0 7 0), (zm_sub2 [(2, 10)] ((zm_w (zm_w (zm_w I 0 2 0) 0 3 (-1)) 0 6 0), J)).2)).1 = K0 at w0 w1
  obtain ⟨K, q1, q2, q3⟩ := zp_advX0 (T := T) (n := n) (e := 0) (f := 0) (p := -1) (I := K0) (J := J) (by rw [w0 0 1 (by decide), ze_wj (by decide), ze_wj (by decide), ze_wj (by decide)]; exact h1) (fun i hi => by rw [w0 1 i (by decide), ze_wo (by decide), ze_wo (by decide), ze_wo (by decide)]; exact hT i hi) (by rw [w0 0 6 (by decide), ze_wi]; rfl) (by rw [w0 0 2 (by decide), ze_wj (by decide), ze_wj (by decide), ze_wi]) (by rw [w0 0 3 (by decide), ze_wj (by decide), ze_wi]) hn (Nat.zero_le n)
  exact ⟨K, (zc_X8_read_TB_19 _ _ q1).trans (zq_X8_read_TB_23 _ _), q2, fun j hj => by rw [q3 2 j (by decide)]; exact w1 j hj⟩
theorem zp_clr9 : ∀ (d l : Nat) (I : Nat → Nat → Int32), l + d = 7 → ∃ N, zv_X10_clears_M_9 I J (Int32.ofNat l) = some (none, (N, J)) ∧ (∀ q, l ≤ q → q < 7 → N 7 (28 + q) = 0) ∧ (∀ a b, (a ≠ 7 ∨ b < 28 + l ∨ 35 ≤ b) → N a b = I a b) := by
  have o7 : (7 : Int32) = Int32.ofNat 7 := rfl
  intro d
  induction d with
  | zero =>
    intro l I h
    refine ⟨I, ?_, fun b h1 h2 => by omega, fun a b _ => rfl⟩
    rw [zq_X10_clears_M_9, if_pos (by rw [o7]; exact (zp_le (by omega) (by omega)).mpr (by omega)), zq_X10_clears_M_27]
  | succ d ih =>
    intro l I h
    obtain ⟨N, q1, q2, q3⟩ := ih (l + 1) (zm_w I 7 (28 + l) 0) (by omega)
    refine ⟨N, ?_, fun q h1 h2 => ?_, fun a b hab => ?_⟩
    · rw [zq_X10_clears_M_9, if_neg (fun z => by rw [o7] at z; have := (zp_le (by omega) (by omega)).mp z; omega), zc_X10_clears_M_15 _ _ _ (zp_tellM (by omega) 0), zq_X10_clears_M_21, zp_o1 (by omega)]
      exact q1
    · by_cases e : q = l
      · subst e
        rw [q3 7 (28 + q) (by omega), ze_wi]
      · exact q2 q (by omega) h2
    · rw [q3 a b (by omega)]
      unfold zm_w
      rw [if_neg (by omega)]
theorem zp_rdM (h6 : I' 0 6 = Int32.ofNat n) (hT : ∀ i, i < n → zp_sg (I' 5 i).toInt (T i)) (hn : n ≤ 800) : ∃ K P, zF_X10_bench zW_M [.ref 0] (I', J') = zv_X10_bench_M_13 K P ∧ zpM T n (zpA0 T n) K P ∧ K 6 4 = 0 ∧ (∀ q, q < 7 → K 7 (28 + q) = 0) ∧ zp_fk I' K := by
  obtain ⟨N, c1, c2, c3⟩ := zp_clr9 (J := J') 7 0 (zm_w (zm_w I' 0 0 0) 6 4 0) rfl
  have hc : zF_X10_clears zW_M [.ref 0] ((zm_w I' 0 0 0), J') = some (none, (N, J')) := by
    rw [zf_X10_clears_M, zq_X10_clears_M_0, if_neg (show ¬ ((4 : Int32) < 0 ∨ 5 ≤ Int32.toNatClampNeg 4) by decide), show Int32.toNatClampNeg 4 = 4 by decide]
    exact c1
  have n0 : ∀ b, b ≠ 0 → N 0 b = I' 0 b := fun b hb => by rw [c3 0 b (by omega), ze_wo (by decide), ze_wj hb]
  obtain ⟨K, P, q1, q2, q3, -⟩ := zp_nextM (T := T) (n := n) (A := (0, 0, 0, 0, -1)) (I := zm_w (zm_w (zm_w N 0 12 0) 0 13 (-1)) 0 7 0) (J := J') hn (Nat.zero_le n) (by rw [ze_wj (by decide), ze_wj (by decide), ze_wj (by decide), n0 6 (by decide)]; exact h6) (fun i hi => by rw [ze_wo (by decide), ze_wo (by decide), ze_wo (by decide), c3 5 i (by omega), ze_wo (by decide), ze_wo (by decide)]; exact hT i hi) ze_wi (by rw [ze_wj (by decide), ze_wj (by decide), ze_wi]) (by rw [ze_wj (by decide), ze_wi])
  have hb : zF_X10_begins zW_M [.ref 0] (N, J') = some (none, (K, P)) := by rw [zf_X10_begins_M, zc_X10_begins_M_0 _ _ q1, zq_X10_begins_M_19]
  refine ⟨K, P, by rw [zf_X10_bench_M, zc_X10_bench_M_0 _ _ hc, zc_X10_bench_M_9 _ _ hb], q2, ?_, fun q hq => ?_, fun a b hab => ?_⟩
  · rw [q3 6 4 (by decide), ze_wo (by decide), ze_wo (by decide), ze_wo (by decide), c3 6 4 (by omega), ze_wi]
  · rw [q3 7 _ (by decide), ze_wo (by decide), ze_wo (by decide), ze_wo (by decide), c2 q (by omega) hq]
  · rw [q3 a b (by omega), ze_wo (by omega), ze_wo (by omega), ze_wo (by omega), c3 a b (by omega)]
    unfold zm_w
    rw [if_neg (by omega), if_neg (by omega)]
/-- the whole reading, on both sides -/
theorem zp_read (h1 : I 0 1 = Int32.ofNat n) (hT : ∀ i, i < n → (I 1 i).toInt = T i) (h6 : I' 0 6 = Int32.ofNat n) (hT' : ∀ i, i < n → zp_sg (I' 5 i).toInt (T i)) (hn : n ≤ 800) : ∃ (B : zpA) (N N' : Nat → Nat → Int32) (P' : Nat → Nat → Int64), zF_X8_read zW_TB [.ref 0, .ref 2] (I, J) = some (some (.int (if B.2.2.2.1 = 0 then 1 else 0)), (N, J)) ∧ zF_X10_bench zW_M [.ref 0] (I', J') = zv_X10_bench_M_133 N' P' ∧ N 0 2 = B.2.2.2.1 ∧ N 0 3 = B.2.2.2.2 ∧ N' 0 12 = B.2.2.2.1 ∧ N' 0 13 = B.2.2.2.2 ∧ zp_fk I' N' ∧ (B.2.2.2.1 = 0 → B.2.2.2.2 = -1 ∧ ∃ S C L, zpB S C L N N') := by
  obtain ⟨K, q1, q2, q3⟩ := zp_rdX (T := T) (J := J) h1 hT hn
  obtain ⟨K', P, r1, r2, r3, r4, r5⟩ := zp_rdM (T := T) (J' := J') h6 hT' hn
  have hB : zpB 0 0 0 K K' := by
    have z : (Int32.ofNat 0 : Int32) = 0 := rfl
    exact ⟨⟨(q3 0 (by decide)).trans z.symm, r3.trans z.symm⟩, ⟨(q3 5 (by decide)).trans z.symm, (r4 4 (by decide)).trans z.symm, by decide⟩, ⟨(q3 6 (by decide)).trans z.symm, (r4 5 (by decide)).trans z.symm, by decide⟩, ⟨q3 7 (by decide), r4 6 (by decide)⟩, ⟨(q3 1 (by decide)).trans (r4 0 (by decide)).symm, (q3 2 (by decide)).trans (r4 1 (by decide)).symm, (q3 3 (by decide)).trans (r4 2 (by decide)).symm, (q3 4 (by decide)).trans (r4 3 (by decide)).symm⟩, fun s hs => absurd hs (Nat.not_lt_zero s), fun s hs => absurd hs (Nat.not_lt_zero s)⟩
  obtain ⟨B, N, N', P', l, u1, u2, u3, u4, u5, u6, u7⟩ := zp_loop hn (n + 1) (zpA0 T n) K K' J P 0 (by omega) zpW0 q2 r2 (by omega) (fun _ => ⟨Nat.zero_le _, 0, 0, 0, hB, rfl, fun _ => ⟨rfl, rfl⟩⟩)
  have k2 := u3.2.2.2.2.2.1
  refine ⟨B, N, N', P', ?_, r1.trans u2, k2, u3.2.2.2.2.2.2, u4.2.2.2.2.2.1, u4.2.2.2.2.2.2.1, zp_fkt r5 u6, fun z => ⟨u5.2.2.2 z, u7 z⟩⟩
  rw [q1, u1, zq_X8_read_TB_120, k2]
  by_cases c : B.2.2.2.1 = 0
  · rw [if_pos c, if_pos c, zq_X8_read_TB_127, zq_X8_read_TB_132, if_pos (Or.inr rfl)]
  · rw [if_neg c, if_neg c, zq_X8_read_TB_131, zq_X8_read_TB_132, if_pos (Or.inl rfl)]
end ZPL
end
section
/-! bench, on both sides: what it answers, what it leaves -/
/-- the class's bench at cells a .. and the reference's slot s say the same, but for wear and acts -/
def zqB (a s : Nat) (I I' : Nat → Nat → Int32) : Prop := I a 0 = I' 6 s ∧ I a 5 = I' 7 (7 * s + 4) ∧ I a 6 = I' 7 (7 * s + 5) ∧ (I a 1 = I' 7 (7 * s) ∧ I a 3 = I' 7 (7 * s + 2) ∧ I a 4 = I' 7 (7 * s + 3)) ∧ (∀ j : Nat, j < 6 → (j : Int) < (I a 5).toInt → I (a + 1) j = I' 8 (6 * s + j)) ∧ (∀ c : Nat, c < 5 → (c : Int) < (I a 6).toInt → I (a + 2) c = I' 9 (25 * s + 5 * c) ∧ I (a + 3) c = I' 9 (25 * s + 5 * c + 1) ∧ I (a + 4) c = I' 9 (25 * s + 5 * c + 2) ∧ I (a + 5) c = I' 9 (25 * s + 5 * c + 3) ∧ I (a + 6) c = I' 9 (25 * s + 5 * c + 4))
/-- all of it: wear, what acts stand, callers' seats too -/
def zqC (a s : Nat) (I I' : Nat → Nat → Int32) : Prop := zqB a s I I' ∧ (I a 2 = I' 7 (7 * s + 1) ∧ I a 7 = I' 7 (7 * s + 6) ∧ 0 ≤ (I a 7).toInt ∧ (I a 7).toInt ≤ 40) ∧ (∀ c : Nat, c < 5 → (c : Int) < (I a 6).toInt → 0 ≤ (I (a + 4) c).toInt ∧ (I (a + 4) c).toInt < (I a 5).toInt) ∧ (∀ k : Nat, k < 40 → (k : Int) < (I a 7).toInt → I (a + 7) k = I' 10 (120 * s + 3 * k) ∧ I (a + 8) k = I' 10 (120 * s + 3 * k + 1) ∧ I (a + 9) k = I' 10 (120 * s + 3 * k + 2))
section ZPM
variable {T : Nat → Int} {n : Nat} {I I' : Nat → Nat → Int32} {J J' : Nat → Nat → Int64}
theorem zp_ovM : zF_X10_isOver zW_M [.ref 0] (I, J) = some (none, (zm_w (zm_w (zm_w I 0 6 0) 0 14 (I 0 12)) 0 15 (if I 0 12 = 0 then -1 else I 0 13), J)) := by
  have e1 : zm_w I 0 6 0 0 12 = I 0 12 := ze_wj (by decide)
  have e2 : zm_w (zm_w I 0 6 0) 0 14 (I 0 12) 0 12 = I 0 12 := by rw [ze_wj (by decide), e1]
  have e3 : zm_w (zm_w I 0 6 0) 0 14 (I 0 12) 0 13 = I 0 13 := by rw [ze_wj (by decide), ze_wj (by decide)]
  rw [zf_X10_isOver_M, zq_X10_isOver_M_0, e1, e2]
  by_cases c : I 0 12 = 0
  · rw [if_pos c, if_pos c, zq_X10_isOver_M_21, zq_X10_isOver_M_29]
  · rw [if_neg c, if_neg c, zq_X10_isOver_M_25, zq_X10_isOver_M_29, e3]
theorem zp_benchR (hn0 : 0 ≤ (I 51 1).toInt ∧ (I 51 1).toInt ≤ 800) (hs : I 51 1 = I' 0 6) (hb : ∀ i : Nat, (i : Int) < (I 51 1).toInt → zp_sg (I' 5 i).toInt (I 52 i).toInt) {x y : Int32} {N1 N2 : zm_I} (hX : zF_X9_bench zW_X [.ref 0] (I, J) = some (some (.int x), N1)) (hM : zF_X10_bench zW_M [.ref 0] (I', J') = some (some (.int y), N2)) : x = y ∧ N1.1 51 1 = 0 ∧ N2.1 0 6 = 0 ∧ N1.1 51 2 = N2.1 0 14 ∧ N1.1 51 3 = N2.1 0 15 ∧ (zqC 1 0 N1.1 N2.1 ∨ ((∀ a, 1 ≤ a → a ≤ 10 → N1.1 a = I a) ∧ N2.1 6 0 = I' 6 0 ∧ (∀ b, b < 7 → N2.1 7 b = I' 7 b) ∧ (∀ b, b < 6 → N2.1 8 b = I' 8 b) ∧ (∀ b, b < 25 → N2.1 9 b = I' 9 b) ∧ ∀ b, b < 120 → N2.1 10 b = I' 10 b)) ∧ (∀ s, 1 ≤ s → s ≤ 3 → N2.1 6 s = I' 6 s ∧ (∀ b, b < 7 → N2.1 7 (7 * s + b) = I' 7 (7 * s + b)) ∧ (∀ b, b < 6 → N2.1 8 (6 * s + b) = I' 8 (6 * s + b)) ∧ (∀ b, b < 25 → N2.1 9 (25 * s + b) = I' 9 (25 * s + b)) ∧ ∀ b, b < 120 → N2.1 10 (120 * s + b) = I' 10 (120 * s + b)) := by
  obtain ⟨n, hn⟩ : ∃ n : Nat, (I 51 1).toInt = n := ⟨(I 51 1).toInt.toNat, by omega⟩
  have hnn : I 51 1 = Int32.ofNat n := Int32.toInt_inj.mp (by rw [hn, zp_o (by omega)])
  obtain ⟨B, N, N', P', q1, q2, k2, k3, k12, k13, kf, kB⟩ := zp_read (T := fun i => (I 52 i).toInt) (n := n) (I := (zm_sub2 [(51, 2), (11, 10)] (I, J)).1) (J := (zm_sub2 [(51, 2), (11, 10)] (I, J)).2) (I' := I') (J' := J') hnn (fun i _ => rfl) (hs ▸ hnn) (fun i hi => hb i (by omega)) (by omega)
  have hz : zF_X9_bench zW_X [.ref 0] (I, J) = _ := (zf_X9_bench_X I J).trans (zc_X9_bench_X_0 I J q1)
  rw [hX, zq_X9_bench_X_11] at hz
  have hy := q2
  rw [hM, zc_X10_bench_M_133 _ _ zp_ovM, zq_X10_bench_M_137, ze_wj (show (12 : Nat) ≠ 15 by decide), ze_wj (show (12 : Nat) ≠ 14 by decide), ze_wj (show (12 : Nat) ≠ 6 by decide), k12, k13] at hy
  have o1 : zm_w (zm_w (zm_w N' 0 6 0) 0 14 B.2.2.2.1) 0 15 (if B.2.2.2.1 = 0 then -1 else B.2.2.2.2) 0 6 = 0 := by rw [ze_wj (by decide), ze_wj (by decide), ze_wi]
  have o2 : zm_w (zm_w (zm_w N' 0 6 0) 0 14 B.2.2.2.1) 0 15 (if B.2.2.2.1 = 0 then -1 else B.2.2.2.2) 0 14 = B.2.2.2.1 := by rw [ze_wj (by decide), ze_wi]
  have o3 : zm_w (zm_w (zm_w N' 0 6 0) 0 14 B.2.2.2.1) 0 15 (if B.2.2.2.1 = 0 then -1 else B.2.2.2.2) 0 15 = (if B.2.2.2.1 = 0 then -1 else B.2.2.2.2) := ze_wi
  have oo : ∀ a b, a ≠ 0 → zm_w (zm_w (zm_w N' 0 6 0) 0 14 B.2.2.2.1) 0 15 (if B.2.2.2.1 = 0 then -1 else B.2.2.2.2) a b = N' a b := fun a b ha => by rw [ze_wo ha, ze_wo ha, ze_wo ha]
  generalize zm_w (zm_w (zm_w N' 0 6 0) 0 14 B.2.2.2.1) 0 15 (if B.2.2.2.1 = 0 then -1 else B.2.2.2.2) = W at hy o1 o2 o3 oo
  have s13 : ∀ s, s ≤ 3 → N' 6 s = I' 6 s ∧ (∀ b, b < 7 → N' 7 (7 * s + b) = I' 7 (7 * s + b)) ∧ (∀ b, b < 6 → N' 8 (6 * s + b) = I' 8 (6 * s + b)) ∧ (∀ b, b < 25 → N' 9 (25 * s + b) = I' 9 (25 * s + b)) := fun s hs => ⟨kf _ _ (by omega), fun b hb => kf _ _ (by omega), fun b hb => kf _ _ (by omega), fun b hb => kf _ _ (by omega)⟩
  have s10 : ∀ b, N' 10 b = I' 10 b := fun b => kf _ _ (by omega)
  by_cases c : B.2.2.2.1 = 0
  · obtain ⟨bp, S, C, L, zb⟩ := kB c
    obtain ⟨⟨a1, a2⟩, ⟨b1, b2, b3⟩, ⟨c1, c2, c3⟩, ⟨d1, d2⟩, ⟨e1, e2, e3, e4⟩, fS, gC⟩ := zb
    obtain ⟨D, f1, f2, f3, f4, -, -⟩ := zp_cfX (J := (zm_sub2 [(1, 10), (11, 10)] (zm_w (zm_mrg [(51, 2), (11, 10)] (I, J) (N, (zm_sub2 [(51, 2), (11, 10)] (I, J)).2)).1 51 1 0, (zm_mrg [(51, 2), (11, 10)] (I, J) (N, (zm_sub2 [(51, 2), (11, 10)] (I, J)).2)).2)).2) (zm_sub2 [(1, 10), (11, 10)] (zm_w (zm_mrg [(51, 2), (11, 10)] (I, J) (N, (zm_sub2 [(51, 2), (11, 10)] (I, J)).2)).1 51 1 0, (zm_mrg [(51, 2), (11, 10)] (I, J) (N, (zm_sub2 [(51, 2), (11, 10)] (I, J)).2)).2)).1 (k := 0) (by decide) d1
    rw [if_pos c, if_neg (by decide), zc_X9_bench_X_27 _ _ _ f1, zc_X9_bench_X_38 _ _ _ ((zf_X9_forgetAnswers_X _ _).trans (zq_X9_forgetAnswers_X_0 _ _)), zq_X9_bench_X_42] at hz
    obtain ⟨E, g1, g2, g3, g4, g5, -, g7, g8, g9, g10, g11, g12⟩ := zp_cbM (J := P') (a := 4) (b := 0) (by decide) (by decide) (by decide) W
    have hcb : zF_X10_copyBench zW_M [.ref 0, .int 4, .int 0] (W, P') = some (none, (E, P')) := g1
    rw [if_pos c, zc_X10_bench_M_147 _ _ hcb, zq_X10_bench_M_153, if_neg (by decide), show Int32.toNatClampNeg 0 = 0 by decide] at hy
    cases hz
    cases hy
    have v0 : ∀ j, j < 8 → D 0 j = N 2 j := fun j hj => f2 j hj
    have v1 : ∀ s, s < 6 → D 1 s = N 3 s := fun s hs => f3 s hs
    have v2 : ∀ c, c < 5 → D 2 c = N 4 c ∧ D 3 c = N 5 c ∧ D 4 c = N 6 c ∧ D 5 c = N 7 c ∧ D 6 c = N 8 c := fun c hc => f4 c hc
    have w6 : E 6 0 = N' 6 4 := g2.trans (oo 6 4 (by decide))
    have w7 : ∀ q, q < 7 → E 7 q = N' 7 (28 + q) := fun q hq => by have := g3 q hq; rw [show 7 * 0 + q = q by omega] at this; exact this.trans (oo 7 _ (by decide))
    have w8 : ∀ q, q < 6 → E 8 q = N' 8 (24 + q) := fun q hq => by have := g4 q hq; rw [show 6 * 0 + q = q by omega] at this; exact this.trans (oo 8 _ (by decide))
    have w9 : ∀ q, q < 25 → E 9 q = N' 9 (100 + q) := fun q hq => by have := g5 q hq; rw [show 25 * 0 + q = q by omega] at this; exact this.trans (oo 9 _ (by decide))
    refine ⟨?_, rfl, (g7 0 6 (by omega)).trans o1, ?_, ?_, Or.inl ⟨⟨?_, ?_, ?_, ⟨?_, ?_, ?_⟩, fun j hj hl => ?_, fun q hq hl => ?_⟩, ⟨?_, ?_, ?_, ?_⟩, fun q hq hl => ?_, fun q hq hl => ?_⟩, fun s hs1 hs3 => ?_⟩
    · show D 0 0 = E 6 0
      rw [v0 0 (by decide), w6, a1, a2]
    · show N 0 2 = E 0 14
      rw [g7 0 14 (by omega), o2]
      exact k2
    · show N 0 3 = E 0 15
      rw [g7 0 15 (by omega), o3, if_pos c, k3]
      exact bp
    · show D 0 0 = E 6 0
      rw [v0 0 (by decide), w6, a1, a2]
    · show D 0 5 = E 7 4
      rw [v0 5 (by decide), w7 4 (by decide), b1]
      exact b2.symm
    · show D 0 6 = E 7 5
      rw [v0 6 (by decide), w7 5 (by decide), c1]
      exact c2.symm
    · show D 0 1 = E 7 0
      rw [v0 1 (by decide), w7 0 (by decide)]
      exact e1
    · show D 0 3 = E 7 2
      rw [v0 3 (by decide), w7 2 (by decide)]
      exact e3
    · show D 0 4 = E 7 3
      rw [v0 4 (by decide), w7 3 (by decide)]
      exact e4
    · have hl : (j : Int) < (D 0 5).toInt := hl
      rw [v0 5 (by decide), b1, zp_o (by omega)] at hl
      show D 1 j = E 8 (6 * 0 + j)
      rw [show 6 * 0 + j = j by omega, v1 j hj, w8 j hj]
      exact fS j (by omega)
    · have hl : (q : Int) < (D 0 6).toInt := hl
      rw [v0 6 (by decide), c1, zp_o (by omega)] at hl
      obtain ⟨r2, r3, r4, r5, r6⟩ := v2 q hq
      show D 2 q = E 9 (25 * 0 + 5 * q) ∧ D 3 q = E 9 (25 * 0 + 5 * q + 1) ∧ D 4 q = E 9 (25 * 0 + 5 * q + 2) ∧ D 5 q = E 9 (25 * 0 + 5 * q + 3) ∧ D 6 q = E 9 (25 * 0 + 5 * q + 4)
      rw [show 25 * 0 + 5 * q = 5 * q by omega, r2, r3, r4, r5, r6, w9 (5 * q) (by omega), w9 (5 * q + 1) (by omega), w9 (5 * q + 2) (by omega), w9 (5 * q + 3) (by omega), w9 (5 * q + 4) (by omega)]
      exact (gC q (by omega)).1
    · show D 0 2 = E 7 1
      rw [v0 2 (by decide), w7 1 (by decide)]
      exact e2
    · show D 0 7 = E 7 6
      rw [v0 7 (by decide), w7 6 (by decide), d1]
      exact d2.symm
    · show 0 ≤ (D 0 7).toInt
      rw [v0 7 (by decide), d1]
      decide
    · show (D 0 7).toInt ≤ 40
      rw [v0 7 (by decide), d1]
      decide
    · have hl : (q : Int) < (D 0 6).toInt := hl
      rw [v0 6 (by decide), c1, zp_o (by omega)] at hl
      obtain ⟨-, -, r4, -, -⟩ := v2 q hq
      obtain ⟨-, h0, h1⟩ := gC q (by omega)
      show 0 ≤ (D 4 q).toInt ∧ (D 4 q).toInt < (D 0 5).toInt
      rw [r4, v0 5 (by decide), b1, zp_o (by omega)]
      exact ⟨h0, h1⟩
    · have hl : (q : Int) < (D 0 7).toInt := hl
      rw [v0 7 (by decide), d1, show (0 : Int32).toInt = 0 by decide] at hl
      omega
    · obtain ⟨t1, t2, t3, t4⟩ := s13 s hs3
      refine ⟨?_, fun b hb => ?_, fun b hb => ?_, fun b hb => ?_, fun b hb => ?_⟩
      · show E 6 s = _
        rw [g8 s (by omega), oo 6 s (by decide), t1]
      · show E 7 _ = _
        rw [g9 _ (by omega), oo 7 _ (by decide), t2 b hb]
      · show E 8 _ = _
        rw [g10 _ (by omega), oo 8 _ (by decide), t3 b hb]
      · show E 9 _ = _
        rw [g11 _ (by omega), oo 9 _ (by decide), t4 b hb]
      · show E 10 _ = _
        rw [g12 _ (by omega), oo 10 _ (by decide), s10]
  · rw [if_neg c, if_pos rfl, zq_X9_bench_X_24] at hz
    rw [if_neg c, zq_X10_bench_M_144] at hy
    cases hz
    cases hy
    refine ⟨rfl, rfl, o1, ?_, ?_, Or.inr ⟨fun a h1 h10 => ?_, ?_, fun b hb => ?_, fun b hb => ?_, fun b hb => ?_, fun b _ => ?_⟩, fun s hs1 hs3 => ?_⟩
    · show N 0 2 = W 0 14
      rw [o2, k2]
    · show N 0 3 = W 0 15
      rw [o3, if_neg c, k3]
    · show zm_w (zm_mrg [(51, 2), (11, 10)] (I, J) (N, (zm_sub2 [(51, 2), (11, 10)] (I, J)).2)).1 51 1 0 a = I a
      funext b
      rw [ze_wo (by omega)]
      match a, h1, h10 with
      | 1, _, _ => rfl
      | 2, _, _ => rfl
      | 3, _, _ => rfl
      | 4, _, _ => rfl
      | 5, _, _ => rfl
      | 6, _, _ => rfl
      | 7, _, _ => rfl
      | 8, _, _ => rfl
      | 9, _, _ => rfl
      | 10, _, _ => rfl
      | a + 11, _, h => omega
    · show W 6 0 = I' 6 0
      rw [oo 6 0 (by decide), (s13 0 (by decide)).1]
    · show W 7 b = I' 7 b
      have := (s13 0 (by decide)).2.1 b hb
      rw [show 7 * 0 + b = b by omega] at this
      rw [oo 7 b (by decide), this]
    · show W 8 b = I' 8 b
      have := (s13 0 (by decide)).2.2.1 b hb
      rw [show 6 * 0 + b = b by omega] at this
      rw [oo 8 b (by decide), this]
    · show W 9 b = I' 9 b
      have := (s13 0 (by decide)).2.2.2 b hb
      rw [show 25 * 0 + b = b by omega] at this
      rw [oo 9 b (by decide), this]
    · show W 10 b = I' 10 b
      rw [oo 10 b (by decide), s10]
    · obtain ⟨t1, t2, t3, t4⟩ := s13 s hs3
      refine ⟨?_, fun b hb => ?_, fun b hb => ?_, fun b hb => ?_, fun b _ => ?_⟩
      · show W 6 s = _
        rw [oo 6 s (by decide), t1]
      · show W 7 _ = _
        rw [oo 7 _ (by decide), t2 b hb]
      · show W 8 _ = _
        rw [oo 8 _ (by decide), t3 b hb]
      · show W 9 _ = _
        rw [oo 9 _ (by decide), t4 b hb]
      · show W 10 _ = _
        rw [oo 10 _ (by decide), s10]
end ZPM
end
section
/-! fault, seat, image and back of the reference: what they answer -/
section ZPP
variable {I I' : Nat → Nat → Int32} {J J' : Nat → Nat → Int64}
theorem zp_faultX (w : Int32) : zF_X9_fault zW_X [.ref 0, .int w] (I, J) = some (some (.int (if w = 0 then I 51 2 else if w = 1 then I 51 3 else -1)), (I, J)) := by
  rw [zf_X9_fault_X, zq_X9_fault_X_0]
  by_cases h0 : w = 0
  · rw [if_pos h0, if_pos h0, zq_X9_fault_X_4]
  · rw [if_neg h0, if_neg h0, zq_X9_fault_X_12]
    by_cases h1 : w = 1
    · rw [if_pos h1, if_pos h1, zq_X9_fault_X_17, zq_X9_fault_X_28]
    · rw [if_neg h1, if_neg h1, zq_X9_fault_X_27, zq_X9_fault_X_28]
theorem zp_faultM (w : Int32) : zF_X10_fault zW_M [.ref 0, .int w] (I, J) = some (some (.int (if w = 0 then I 0 14 else if w = 1 then I 0 15 else -1)), (zm_w I 0 0 0, J)) := by
  rw [zf_X10_fault_M, zq_X10_fault_M_0]
  by_cases h0 : w = 0
  · rw [if_pos h0, if_pos h0, zq_X10_fault_M_9, zq_X10_fault_M_29, ze_wj (by decide)]
  · rw [if_neg h0, if_neg h0, zq_X10_fault_M_16]
    by_cases h1 : w = 1
    · rw [if_pos h1, if_pos h1, zq_X10_fault_M_21, zq_X10_fault_M_29, ze_wj (by decide)]
    · rw [if_neg h1, if_neg h1, zq_X10_fault_M_28, zq_X10_fault_M_29]
theorem zp_hasSeat (M : zm_I) (l : Int32) : zF_X0_hasSeat zW_B [.ref 0, .int l] M = some (some (.int (if 0 ≤ l.toInt ∧ l.toInt < (M.1 0 5).toInt then 1 else 0)), M) := by
  have e : zF_X0_hasSeat zW_B [.ref 0, .int l] M = zv_X0_hasSeat_B_0 M.1 M.2 l := zf_X0_hasSeat_B M.1 M.2 l
  have e16 : zv_X0_hasSeat_B_16 M.1 M.2 l = some (some (.int 0), M) := by rw [zq_X0_hasSeat_B_16, zq_X0_hasSeat_B_17, if_pos (Or.inl rfl)]
  rw [e, zq_X0_hasSeat_B_0]
  by_cases h0 : l < 0
  · rw [if_pos h0, e16]
    rw [ze_lt, ze_i0] at h0
    rw [if_neg (by omega)]
  · rw [if_neg h0, zq_X0_hasSeat_B_4]
    rw [ze_lt, ze_i0] at h0
    by_cases h1 : M.1 0 5 ≤ l
    · rw [if_pos h1, e16]
      rw [ze_le] at h1
      rw [if_neg (by omega)]
    · rw [if_neg h1, zq_X0_hasSeat_B_12, zq_X0_hasSeat_B_17, if_pos (Or.inr rfl)]
      rw [ze_le] at h1
      rw [if_pos (by omega)]
theorem zp_seatX' (l : Int32) (h6 : (I 1 5).toInt ≤ 6) : zF_X9_seat zW_X [.ref 0, .int l] (I, J) = some (some (.int (if 0 ≤ l.toInt ∧ l.toInt < (I 1 5).toInt then I 2 l.toInt.toNat else -100)), (I, J)) := by
  have hq := zp_hasSeat (zm_sub2 [(1, 10)] (I, J)) l
  have u : (zm_sub2 [(1, 10)] (I, J)).1 0 5 = I 1 5 := rfl
  have id1 : zm_mrg [(1, 10)] (I, J) (zm_sub2 [(1, 10)] (I, J)) = (I, J) := zm_mrg_id _ _
  rw [u] at hq
  rw [zf_X9_seat_X, zc_X9_seat_X_0 _ _ _ hq, id1, zq_X9_seat_X_8]
  by_cases c : 0 ≤ l.toInt ∧ l.toInt < (I 1 5).toInt
  · have hc : Int32.toNatClampNeg l = l.toInt.toNat := rfl
    rw [if_pos c, if_neg (by decide), zq_X9_seat_X_11, if_neg (zh_in (n := 6) c.1 (by omega)), zq_X9_seat_X_25, if_pos c, hc]
  · rw [if_neg c, if_pos rfl, zq_X9_seat_X_23, zq_X9_seat_X_25, if_neg c]
theorem zp_isSeatM (l : Int32) (h0 : 0 ≤ (I 7 4).toInt) : zF_X10_isSeat zW_M [.ref 0, .long (Int32.toInt64 l)] (I, J) = some (some (.int (if 0 ≤ l.toInt ∧ l.toInt < (I 7 4).toInt then 1 else 0)), (I, J)) := by
  have hs : zF_X10_seats zW_M [.ref 0] (I, J) = some (some (.int (I 7 4)), (I, J)) := by rw [zf_X10_seats_M, zq_X10_seats_M_0, if_neg (by decide), show Int32.toNatClampNeg 4 = 4 by decide]
  have r := zt_rgI (I 7 4)
  have e1 : (Int32.toInt64 (I 7 4) - 1).toInt = (I 7 4).toInt - 1 := by
    rw [Int64.toInt_sub, Int32.toInt_toInt64, show (1 : Int64).toInt = 1 by decide]
    exact zt_bmL (by omega) (by omega)
  have ec : (if (0 : Int) ≤ l.toInt ∧ l.toInt ≤ (I 7 4).toInt - 1 then (1 : Int32) else 0) = if 0 ≤ l.toInt ∧ l.toInt < (I 7 4).toInt then 1 else 0 := by
    by_cases c : 0 ≤ l.toInt ∧ l.toInt < (I 7 4).toInt
    · rw [if_pos c, if_pos (by omega)]
    · rw [if_neg c, if_neg (by omega)]
  rw [zf_X10_isSeat_M, zc_X10_isSeat_M_0 _ _ _ hs, zc_X10_isSeat_M_6 _ _ _ _ _ _ (zh_inV _ _ _ _ _), zq_X10_isSeat_M_12, if_pos (zh_inr_b _ _ _), ze_inr, e1, ze_l0, Int32.toInt_toInt64, ec]
theorem zp_seatM' (l : Int32) (h0 : 0 ≤ (I 7 4).toInt) (h6 : (I 7 4).toInt ≤ 6) : zF_X10_seat zW_M [.ref 0, .int l] (I, J) = some (some (.int (if 0 ≤ l.toInt ∧ l.toInt < (I 7 4).toInt then I 8 l.toInt.toNat else -100)), (zm_w I 0 0 0, J)) := by
  have u : ∀ b, zm_w I 0 0 0 7 b = I 7 b := fun b => ze_wo (by decide)
  have u8 : ∀ b, zm_w I 0 0 0 8 b = I 8 b := fun b => ze_wo (by decide)
  have hq := zp_isSeatM (I := zm_w I 0 0 0) (J := J) l (by rw [u]; exact h0)
  rw [u] at hq
  rw [zf_X10_seat_M, zc_X10_seat_M_0 _ _ _ hq, zq_X10_seat_M_11]
  by_cases c : 0 ≤ l.toInt ∧ l.toInt < (I 7 4).toInt
  · have hc : Int32.toNatClampNeg l = l.toInt.toNat := rfl
    rw [if_pos c, if_neg (by decide), zq_X10_seat_M_14, if_neg (zh_in (n := 30) c.1 (by omega)), zq_X10_seat_M_25, if_pos c, hc, u8]
  · rw [if_neg c, if_pos rfl, zq_X10_seat_M_23, zq_X10_seat_M_25, if_neg c]
end ZPP
end
section
/-! caller, on both sides -/
section ZPV
variable {I I' : Nat → Nat → Int32} {J J' : Nat → Nat → Int64}
theorem zp_hasCaller (M : zm_I) (l : Int32) : zF_X0_hasCaller zW_B [.ref 0, .int l] M = some (some (.int (if 0 ≤ l.toInt ∧ l.toInt < (M.1 0 6).toInt then 1 else 0)), M) := by
  have e : zF_X0_hasCaller zW_B [.ref 0, .int l] M = zv_X0_hasCaller_B_0 M.1 M.2 l := zf_X0_hasCaller_B M.1 M.2 l
  have e16 : zv_X0_hasCaller_B_16 M.1 M.2 l = some (some (.int 0), M) := by rw [zq_X0_hasCaller_B_16, zq_X0_hasCaller_B_17, if_pos (Or.inl rfl)]
  rw [e, zq_X0_hasCaller_B_0]
  by_cases h0 : l < 0
  · rw [if_pos h0, e16]
    rw [ze_lt, ze_i0] at h0
    rw [if_neg (by omega)]
  · rw [if_neg h0, zq_X0_hasCaller_B_4]
    rw [ze_lt, ze_i0] at h0
    by_cases h1 : M.1 0 6 ≤ l
    · rw [if_pos h1, e16]
      rw [ze_le] at h1
      rw [if_neg (by omega)]
    · rw [if_neg h1, zq_X0_hasCaller_B_12, zq_X0_hasCaller_B_17, if_pos (Or.inr rfl)]
      rw [ze_le] at h1
      rw [if_pos (by omega)]
def zp_cv (I : Nat → Nat → Int32) (c : Nat) (w : Int) : Int32 := if w = 0 then I 3 c else if w = 1 then I 4 c else if w = 2 then I 5 c else if w = 3 then I 6 c else if w = 4 then I 7 c else -2
theorem zp_sw5 (k : zm_S → zm_R) (pc : Nat) (d : Int) (os : Array Int) (ls : List (Option Value)) (M : zm_I) (w : Int32) : zm_sw k pc d 0 4 os ls [.int w] M = if w.toInt < 0 ∨ 4 < w.toInt then k (zm_tg pc d, ls, [], M) else match os[(w.toInt - 0).toNat]? with
    | some off => k (zm_tg pc off, ls, [], M)
    | none => none := rfl
theorem zp_callerX' (l w : Int32) (h6 : (I 1 6).toInt ≤ 5) : zF_X9_caller zW_X [.ref 0, .int l, .int w] (I, J) = some (some (.int (if 0 ≤ l.toInt ∧ l.toInt < (I 1 6).toInt then zp_cv I l.toInt.toNat w.toInt else -2)), (I, J)) := by
  have hq := zp_hasCaller (zm_sub2 [(1, 10)] (I, J)) l
  have u : (zm_sub2 [(1, 10)] (I, J)).1 0 6 = I 1 6 := rfl
  have id1 : zm_mrg [(1, 10)] (I, J) (zm_sub2 [(1, 10)] (I, J)) = (I, J) := zm_mrg_id _ _
  rw [u] at hq
  rw [zf_X9_caller_X, zc_X9_caller_X_0 _ _ _ _ hq, id1, zq_X9_caller_X_8]
  by_cases c : 0 ≤ l.toInt ∧ l.toInt < (I 1 6).toInt
  · have hc : Int32.toNatClampNeg l = l.toInt.toNat := rfl
    have hin : ¬ (l < 0 ∨ 5 ≤ Int32.toNatClampNeg l) := zh_in c.1 (by omega)
    rw [if_pos c, if_neg (by decide), zq_X9_caller_X_14, if_pos c, zp_sw5]
    by_cases d : w.toInt < 0 ∨ 4 < w.toInt
    · rw [if_pos d]
      have e : zp_cv I l.toInt.toNat w.toInt = -2 := by
        unfold zp_cv
        rw [if_neg (by omega), if_neg (by omega), if_neg (by omega), if_neg (by omega), if_neg (by omega)]
      rw [e]
      show zv_X9_caller_X_98 I J l w = _
      rw [zq_X9_caller_X_98]
    · rw [if_neg d]
      have d2 : w.toInt = 0 ∨ w.toInt = 1 ∨ w.toInt = 2 ∨ w.toInt = 3 ∨ w.toInt = 4 := by omega
      unfold zp_cv
      rcases d2 with e | e | e | e | e
      · rw [e, if_pos rfl]
        show zv_X9_caller_X_48 I J l w = _
        rw [zq_X9_caller_X_48, if_neg hin, hc]
      · rw [e, if_neg (by decide), if_pos rfl]
        show zv_X9_caller_X_58 I J l w = _
        rw [zq_X9_caller_X_58, if_neg hin, hc]
      · rw [e, if_neg (by decide), if_neg (by decide), if_pos rfl]
        show zv_X9_caller_X_68 I J l w = _
        rw [zq_X9_caller_X_68, if_neg hin, hc]
      · rw [e, if_neg (by decide), if_neg (by decide), if_neg (by decide), if_pos rfl]
        show zv_X9_caller_X_78 I J l w = _
        rw [zq_X9_caller_X_78, if_neg hin, hc]
      · rw [e, if_neg (by decide), if_neg (by decide), if_neg (by decide), if_neg (by decide), if_pos rfl]
        show zv_X9_caller_X_88 I J l w = _
        rw [zq_X9_caller_X_88, if_neg hin, hc]
  · rw [if_neg c, if_pos rfl, zq_X9_caller_X_11, if_neg c]
theorem zp_isCallerM (l : Int32) : zF_X10_isCaller zW_M [.ref 0, .long (Int32.toInt64 l)] (I, J) = some (some (.int (if 0 ≤ l.toInt ∧ l.toInt < (I 7 5).toInt then 1 else 0)), (I, J)) := by
  have r := zt_rgI (I 7 5)
  have e1 : (Int32.toInt64 (I 7 5) - 1).toInt = (I 7 5).toInt - 1 := by
    rw [Int64.toInt_sub, Int32.toInt_toInt64, show (1 : Int64).toInt = 1 by decide]
    exact zt_bmL (by omega) (by omega)
  have ec : (if (0 : Int) ≤ l.toInt ∧ l.toInt ≤ (I 7 5).toInt - 1 then (1 : Int32) else 0) = if 0 ≤ l.toInt ∧ l.toInt < (I 7 5).toInt then 1 else 0 := by
    by_cases c : 0 ≤ l.toInt ∧ l.toInt < (I 7 5).toInt
    · rw [if_pos c, if_pos (by omega)]
    · rw [if_neg c, if_neg (by omega)]
  rw [zh_isCallerV, ze_inr, e1, ze_l0, Int32.toInt_toInt64, ec]
theorem zp_callerM' (l w : Int32) (h5 : (I 7 5).toInt ≤ 5) : zF_X10_caller zW_M [.ref 0, .int l, .int w] (I, J) = some (some (.int (if 0 ≤ l.toInt ∧ l.toInt < (I 7 5).toInt then (if 0 ≤ w.toInt ∧ w.toInt ≤ 4 then I 9 (5 * l.toInt.toNat + w.toInt.toNat) else -2) else -2)), (zm_w I 0 0 0, J)) := by
  have u : ∀ b, zm_w I 0 0 0 7 b = I 7 b := fun b => ze_wo (by decide)
  have u9 : ∀ b, zm_w I 0 0 0 9 b = I 9 b := fun b => ze_wo (by decide)
  have hq := zp_isCallerM (I := zm_w I 0 0 0) (J := J) l
  rw [u] at hq
  rw [zf_X10_caller_M, zc_X10_caller_M_0 _ _ _ _ hq, zq_X10_caller_M_11]
  by_cases c : 0 ≤ l.toInt ∧ l.toInt < (I 7 5).toInt
  · rw [if_pos c, if_neg (by decide), zc_X10_caller_M_14 _ _ _ _ (zh_inV _ _ _ _ _), zq_X10_caller_M_23, ze_inr, ze_l0, Int32.toInt_toInt64, show (4 : Int64).toInt = 4 by decide, if_pos c]
    by_cases d : 0 ≤ w.toInt ∧ w.toInt ≤ 4
    · have e5 : (5 : Int32).toInt = 5 := by decide
      have em : (5 * l).toInt = 5 * l.toInt := by rw [zh_mul (by rw [e5]; omega) (by rw [e5]; omega), e5]
      have ea : (5 * l + w).toInt = ((5 * l.toInt.toNat + w.toInt.toNat : Nat) : Int) := by
        rw [zh_add (by rw [em]; omega) (by rw [em]; omega), em]
        omega
      rw [if_pos d, if_neg (by decide), zq_X10_caller_M_26, if_neg (zh_in (n := 125) (by omega) (by omega)), zh_cl ea, zq_X10_caller_M_41, if_pos d, u9]
    · rw [if_neg d, if_pos rfl, zq_X10_caller_M_39, zq_X10_caller_M_41, if_neg d]
  · rw [if_neg c, if_pos rfl, zq_X10_caller_M_39, zq_X10_caller_M_41, if_neg c]
end ZPV
end
section
/-! image and back of the reference, exactly -/
/-- a slot of the reference as another -/
def zR_y (s s2 : Nat) (I I2 : Nat → Nat → Int32) : Prop := I2 6 s2 = I 6 s ∧ (∀ b, b < 7 → I2 7 (7 * s2 + b) = I 7 (7 * s + b)) ∧ (∀ b, b < 6 → I2 8 (6 * s2 + b) = I 8 (6 * s + b)) ∧ (∀ b, b < 25 → I2 9 (25 * s2 + b) = I 9 (25 * s + b)) ∧ ∀ b, b < 120 → I2 10 (120 * s2 + b) = I 10 (120 * s + b)
section ZPR
variable {I : Nat → Nat → Int32} {J : Nat → Nat → Int64}
theorem zR_cp {a b : Nat} (ha : a ≤ 4) (hb : b ≤ 4) (hab : a < b ∨ b < a) (I : Nat → Nat → Int32) : ∃ N, zF_X10_copyBench zW_M [.ref 0, .int (Int32.ofNat a), .int (Int32.ofNat b)] (I, J) = some (none, (N, J)) ∧ zR_y a b I N ∧ (∀ s, s ≤ 4 → s ≠ b → zR_y s s I N) ∧ ∀ i j, (i < 6 ∨ 10 < i) → N i j = I i j := by
  obtain ⟨N, g1, g2, g3, g4, g5, g6, g7, g8, g9, g10, g11, g12⟩ := zp_cbM (J := J) ha hb hab I
  exact ⟨N, g1, ⟨g2, g3, g4, g5, g6⟩, fun s hs hne => ⟨g8 s hne, fun q hq => g9 _ (by omega), fun q hq => g10 _ (by omega), fun q hq => g11 _ (by omega), fun q hq => g12 _ (by omega)⟩, g7⟩
theorem zR_yr {s : Nat} {I2 : Nat → Nat → Int32} (h : ∀ i j, i ≠ 0 → i ≠ 11 → I2 i j = I i j) : zR_y s s I I2 := ⟨h _ _ (by decide) (by decide), fun _ _ => h _ _ (by decide) (by decide), fun _ _ => h _ _ (by decide) (by decide), fun _ _ => h _ _ (by decide) (by decide), fun _ _ => h _ _ (by decide) (by decide)⟩
theorem zR_yt {s t u : Nat} {I2 I3 : Nat → Nat → Int32} (h : zR_y s t I I2) (h2 : zR_y t u I2 I3) : zR_y s u I I3 := ⟨h2.1.trans h.1, fun b hb => (h2.2.1 b hb).trans (h.2.1 b hb), fun b hb => (h2.2.2.1 b hb).trans (h.2.2.1 b hb), fun b hb => (h2.2.2.2.1 b hb).trans (h.2.2.2.1 b hb), fun b hb => (h2.2.2.2.2 b hb).trans (h.2.2.2.2 b hb)⟩
theorem zR_inN {x : Int32} (h : x.toInt < 0 ∨ 3 ≤ x.toInt) : zh_inr (Int32.toInt64 x) 0 2 = 0 := by
  rw [ze_inr, Int32.toInt_toInt64, ze_l0, show (2 : Int64).toInt = 2 by decide, if_neg (by omega)]
theorem zR_inY {k : Nat} (h : k < 3) : zh_inr (Int32.toInt64 (Int32.ofNat k)) 0 2 = 1 := by
  rw [ze_inr, Int32.toInt_toInt64, ze_l0, show (2 : Int64).toInt = 2 by decide, zp_o (by omega), if_pos (by omega)]
theorem zR_imN {x : Int32} (h : x.toInt < 0 ∨ 3 ≤ x.toInt) : zF_X10_image zW_M [.ref 0, .int x] (I, J) = some (some (.int (-2)), (zm_w I 0 0 0, J)) := by
  rw [zf_X10_image_M, zc_X10_image_M_0 _ _ _ (zh_inV _ _ _ _ _), zR_inN h, zq_X10_image_M_14, if_pos rfl, zq_X10_image_M_17]
theorem zR_bkN {x : Int32} (h : x.toInt < 0 ∨ 3 ≤ x.toInt) : zF_X10_back zW_M [.ref 0, .int x] (I, J) = some (some (.int (-2)), (zm_w I 0 0 0, J)) := by
  rw [zf_X10_back_M, zc_X10_back_M_0 _ _ _ (zh_inV _ _ _ _ _), zR_inN h, zq_X10_back_M_14, if_pos rfl, zq_X10_back_M_17]
theorem zR_1k {k : Nat} (h : k < 3) : (1 : Int32) + Int32.ofNat k = Int32.ofNat (k + 1) := by
  match k, h with
  | 0, _ => decide
  | 1, _ => decide
  | 2, _ => decide
  | k + 3, h => omega
theorem zR_imY {k : Nat} (hk : k < 3) : ∃ N, zF_X10_image zW_M [.ref 0, .int (Int32.ofNat k)] (I, J) = some (some (.int 0), (N, J)) ∧ zR_y 0 (k + 1) I N ∧ (∀ s, s ≤ 4 → s ≠ k + 1 → zR_y s s I N) ∧ (∀ b, b ≠ 0 → N 0 b = I 0 b) ∧ (∀ b, N 5 b = I 5 b) ∧ N 11 k = 1 ∧ ∀ b, b ≠ k → N 11 b = I 11 b := by
  obtain ⟨N, g1, g2, g3, g4⟩ := zR_cp (J := J) (a := 0) (b := k + 1) (by decide) (by omega) (by omega) (zm_w I 0 0 0)
  have w0 : ∀ i j, i ≠ 0 → zm_w I 0 0 0 i j = I i j := fun i j hi => ze_wo hi
  have i0 : ∀ s, zR_y s s I (zm_w I 0 0 0) := fun s => zR_yr (fun i j h0 _ => w0 i j h0)
  have e11 : ∀ s, zR_y s s N (zm_w N 11 k 1) := fun s => zR_yr (fun i j _ h11 => ze_wo h11)
  have hcb : zF_X10_copyBench zW_M [.ref 0, .int 0, .int (Int32.ofNat (k + 1))] (zm_w I 0 0 0, J) = some (none, (N, J)) := g1
  have v1 : vp_nar .boolean 1 = 1 := by decide
  refine ⟨zm_w N 11 k 1, ?_, zR_yt (i0 0) (zR_yt g2 (e11 (k + 1))), fun s hs hne => zR_yt (i0 s) (zR_yt (g3 s hs hne) (e11 s)), fun b hb => ?_, fun b => ?_, ze_wi, fun b hb => ?_⟩
  · rw [zf_X10_image_M, zc_X10_image_M_0 _ _ _ (zh_inV _ _ _ _ _), zR_inY hk, zq_X10_image_M_14, if_neg (by decide), zc_X10_image_M_20 _ _ _ (by rw [zR_1k hk]; exact hcb), zq_X10_image_M_28, if_neg (zp_in (by omega) (by omega)), zp_cl (by omega), v1]
  · rw [ze_wo (by decide), g4 0 b (by omega), ze_wj hb]
  · rw [ze_wo (by decide), g4 5 b (by omega), w0 5 b (by decide)]
  · rw [ze_wj hb, g4 11 b (by omega), w0 11 b (by decide)]
theorem zR_bk0 {k : Nat} (hk : k < 3) (h0 : I 11 k = 0) : zF_X10_back zW_M [.ref 0, .int (Int32.ofNat k)] (I, J) = some (some (.int (-6)), (zm_w I 0 0 0, J)) := by
  rw [zf_X10_back_M, zc_X10_back_M_0 _ _ _ (zh_inV _ _ _ _ _), zR_inY hk, zq_X10_back_M_14, if_neg (by decide), zq_X10_back_M_20, if_neg (zp_in (by omega) (by omega)), zp_cl (by omega), ze_wo (by decide), if_pos h0, zq_X10_back_M_29]
theorem zR_bkY {k : Nat} (hk : k < 3) (h1 : ¬ I 11 k = 0) : ∃ N, zF_X10_back zW_M [.ref 0, .int (Int32.ofNat k)] (I, J) = some (some (.int 0), (N, J)) ∧ zR_y (k + 1) 0 I N ∧ (∀ s, s ≤ 4 → s ≠ 0 → zR_y s s I N) ∧ (∀ b, b ≠ 0 → N 0 b = I 0 b) ∧ (∀ b, N 5 b = I 5 b) ∧ ∀ b, N 11 b = I 11 b := by
  obtain ⟨N, g1, g2, g3, g4⟩ := zR_cp (J := J) (a := k + 1) (b := 0) (by omega) (by decide) (by omega) (zm_w I 0 0 0)
  have w0 : ∀ i j, i ≠ 0 → zm_w I 0 0 0 i j = I i j := fun i j hi => ze_wo hi
  have i0 : ∀ s, zR_y s s I (zm_w I 0 0 0) := fun s => zR_yr (fun i j h0 _ => w0 i j h0)
  have hcb : zF_X10_copyBench zW_M [.ref 0, .int (Int32.ofNat (k + 1)), .int 0] (zm_w I 0 0 0, J) = some (none, (N, J)) := g1
  refine ⟨N, ?_, zR_yt (i0 (k + 1)) g2, fun s hs hne => zR_yt (i0 s) (g3 s hs hne), fun b hb => ?_, fun b => ?_, fun b => ?_⟩
  · rw [zf_X10_back_M, zc_X10_back_M_0 _ _ _ (zh_inV _ _ _ _ _), zR_inY hk, zq_X10_back_M_14, if_neg (by decide), zq_X10_back_M_20, if_neg (zp_in (by omega) (by omega)), zp_cl (by omega), ze_wo (by decide), if_neg h1, zc_X10_back_M_32 _ _ _ (by rw [zR_1k hk]; exact hcb), zq_X10_back_M_40]
  · rw [g4 0 b (by omega), ze_wj hb]
  · rw [g4 5 b (by omega), w0 5 b (by decide)]
  · rw [g4 11 b (by omega), w0 11 b (by decide)]
end ZPR
end
section
/-! bytes that are fed, on both sides -/
section ZPQ
theorem zp_bmod8 (x : Int) : x.bmod (2 ^ 8) = if x % 256 < 128 then x % 256 else x % 256 - 256 := by
  unfold Int.bmod
  rfl
theorem zp_sg8 {q x : Int} (h : x % 256 = q % 256) : zp_sg (x.bmod (2 ^ 8)) (q % 256) := by
  rw [zp_bmod8, h]
  have h1 := Int.emod_nonneg q (b := 256) (by decide)
  have h2 := Int.emod_lt_of_pos q (b := 256) (by decide)
  by_cases c : q % 256 < 128
  · rw [if_pos c]
    exact Or.inl ⟨rfl, c⟩
  · rw [if_neg c]
    exact Or.inr ⟨by omega, by omega⟩
theorem zp_u (v : Int32) : v.toInt = if v.toBitVec.toNat < 2147483648 then (v.toBitVec.toNat : Int) else (v.toBitVec.toNat : Int) - 4294967296 := by
  show v.toBitVec.toInt = _
  rw [BitVec.toInt_eq_toNat_cond]
  have := v.toBitVec.isLt
  split <;> split <;> omega
def zp_bX (l l2 : Int32) : Int32 := (((Int32.toUInt32 l >>> (Int32.toUInt32 l2 &&& Int32.toUInt32 31)).toInt32) &&& 255)
def zp_bM (l l2 : Int32) : Int32 := vp_nar .byte ((Int32.toInt8 (l >>> (l2 &&& 31))).toInt32)
theorem zp_bX_n (l l2 : Int32) (n : Nat) (h : ((Int32.toUInt32 l2 &&& Int32.toUInt32 31).toBitVec % (32 : BitVec 32)).toNat = n) : (zp_bX l l2).toBitVec.toNat = l.toBitVec.toNat / 2 ^ n % 2 ^ 8 := by
  unfold zp_bX
  rw [Int32.toBitVec_and, UInt32.toBitVec_toInt32, BitVec.toNat_and]
  have e1 : (Int32.toUInt32 l >>> (Int32.toUInt32 l2 &&& Int32.toUInt32 31)).toBitVec.toNat = l.toBitVec.toNat / 2 ^ n := by
    rw [UInt32.toBitVec_shiftRight, BitVec.ushiftRight_eq', BitVec.toNat_ushiftRight, h, Nat.shiftRight_eq_div_pow, Int32.toBitVec_toUInt32]
  rw [e1, show ((255 : Int32).toBitVec.toNat) = 2 ^ 8 - 1 by decide, Nat.and_two_pow_sub_one_eq_mod]
theorem zp_bM_n (l l2 : Int32) (n : Nat) (h : ((l2 &&& 31).toBitVec.smod (32 : BitVec 32)).toNat = n) : (zp_bM l l2).toInt = (l.toInt / ((2 ^ n : Nat) : Int)).bmod (2 ^ 8) := by
  unfold zp_bM
  rw [pk_vb, Int8.toInt_toInt32, Int32.toInt_toInt8]
  have e : (l >>> (l2 &&& 31)).toInt = l.toInt / ((2 ^ n : Nat) : Int) := by
    show (l >>> (l2 &&& 31)).toBitVec.toInt = _
    rw [Int32.toBitVec_shiftRight, BitVec.toInt_sshiftRight', h, Int.shiftRight_eq_div_pow]
    rfl
  rw [e]
theorem zp_bX_i (l l2 : Int32) (n : Nat) (h : ((Int32.toUInt32 l2 &&& Int32.toUInt32 31).toBitVec % (32 : BitVec 32)).toNat = n) : (zp_bX l l2).toInt = ((l.toBitVec.toNat / 2 ^ n : Nat) : Int) % 256 := by
  have e := zp_bX_n l l2 n h
  have e2 := zp_u (zp_bX l l2)
  rw [e] at e2
  generalize l.toBitVec.toNat / 2 ^ n = q at e2 ⊢
  rw [show (2 ^ 8 : Nat) = 256 from rfl] at e2
  rw [if_pos (by omega)] at e2
  rw [e2]
  omega
theorem zp_bts (l l2 : Int32) (n m : Nat) (hm : 2 ^ n = m) (h : ((Int32.toUInt32 l2 &&& Int32.toUInt32 31).toBitVec % (32 : BitVec 32)).toNat = n) (h2 : ((l2 &&& 31).toBitVec.smod (32 : BitVec 32)).toNat = n) (hd : m = 16777216 ∨ m = 65536 ∨ m = 256 ∨ m = 1) : (zp_bX l l2).toInt = ((l.toBitVec.toNat / m : Nat) : Int) % 256 ∧ zp_sg (zp_bM l l2).toInt (((l.toBitVec.toNat / m : Nat) : Int) % 256) := by
  rw [zp_bX_i l l2 n h, zp_bM_n l l2 n h2, hm]
  refine ⟨rfl, zp_sg8 ?_⟩
  have e := zp_u l
  have b := l.toBitVec.isLt
  generalize l.toBitVec.toNat = N at e b ⊢
  generalize l.toInt = z at e ⊢
  rcases hd with rfl | rfl | rfl | rfl
  · split at e <;> omega
  · split at e <;> omega
  · split at e <;> omega
  · split at e <;> omega
/-- byte j of a number -/
def zp_bv (l : Int32) (j : Nat) : Int := ((l.toBitVec.toNat / (if j = 0 then 16777216 else if j = 1 then 65536 else if j = 2 then 256 else 1) : Nat) : Int) % 256
def zpXt (T : Nat → Int) (n : Nat) (I : Nat → Nat → Int32) : Prop := I 0 1 = Int32.ofNat n ∧ ∀ i, i < n → (I 1 i).toInt = T i
def zpMt (T : Nat → Int) (n : Nat) (I : Nat → Nat → Int32) : Prop := I 0 6 = Int32.ofNat n ∧ ∀ i, i < n → zp_sg (I 5 i).toInt (T i)
def zp_ap (T : Nat → Int) (n : Nat) (l : Int32) : Nat → Int := fun i => if i < n then T i else zp_bv l (i - n)
section ZPQ1
variable {T : Nat → Int} {n : Nat} {I : Nat → Nat → Int32} {J : Nat → Nat → Int64} {l l2 : Int32}
theorem zp_pt1 {b : Nat} (hl : ¬ l2 < 0) (hb : n + b < 800) (h : I 0 1 = Int32.ofNat (n + b)) (hT : ∀ i, i < n + b → (I 1 i).toInt = zp_ap T n l i) (ht : (zp_bX l l2).toInt = zp_bv l b) : ∃ I', zv_X8_put_T_3 I J l l2 = zv_X8_put_T_3 I' J l (l2 + (-8)) ∧ I' 0 1 = Int32.ofNat (n + (b + 1)) ∧ ∀ i, i < n + (b + 1) → (I' 1 i).toInt = zp_ap T n l i := by
  have ei : (I 0 1).toInt = (n + b : Nat) := by rw [h, zp_o (by omega)]
  have ec : Int32.toNatClampNeg (I 0 1) = n + b := zh_cl ei
  refine ⟨_, (zq_X8_put_T_3 I J l l2).trans ((if_neg hl).trans ((zq_X8_put_T_7 I J l l2).trans ((if_neg (ze_800 (by omega))).trans ((zq_X8_put_T_17 I J l l2).trans (if_neg (ze_ix (by omega) (by omega))))))), ?_, fun i hi => ?_⟩
  · rw [ze_wi, ze_wo (by decide), h, zp_o1 (by omega)]
    rfl
  · rw [ze_wo (by decide), ec]
    by_cases c : i = n + b
    · subst c
      rw [ze_wi]
      have ea : zp_ap T n l (n + b) = zp_bv l b := by
        unfold zp_ap
        rw [if_neg (by omega), Nat.add_sub_cancel_left]
      rw [ea]
      exact ht
    · rw [ze_wj c]
      exact hT i (by omega)
theorem zp_fo1 {b : Nat} (hl : ¬ l2 < 0) (hb : n + b < 800) (h : I 0 6 = Int32.ofNat (n + b)) (hT : ∀ i, i < n + b → zp_sg (I 5 i).toInt (zp_ap T n l i)) (ht : zp_sg (zp_bM l l2).toInt (zp_bv l b)) : ∃ I', zv_X10_four_M_3 I J l l2 = zv_X10_four_M_3 I' J l (l2 + (-8)) ∧ I' 0 6 = Int32.ofNat (n + (b + 1)) ∧ (∀ i, i < n + (b + 1) → zp_sg (I' 5 i).toInt (zp_ap T n l i)) ∧ ∀ a c, ¬ (a = 0 ∧ c = 6) → a ≠ 5 → I' a c = I a c := by
  have ei : (I 0 6).toInt = (n + b : Nat) := by rw [h, zp_o (by omega)]
  have ec : Int32.toNatClampNeg (I 0 6) = n + b := zh_cl ei
  refine ⟨_, (zq_X10_four_M_3 I J l l2).trans ((if_neg hl).trans ((zq_X10_four_M_7 I J l l2).trans (if_neg (ze_ix (by omega) (by omega))))), ?_, fun i hi => ?_, fun a c h1 h2 => ?_⟩
  · rw [ze_wi, ze_wo (by decide), h, zp_o1 (by omega)]
    rfl
  · rw [ze_wo (by decide), ec]
    by_cases c : i = n + b
    · subst c
      rw [ze_wi]
      have ea : zp_ap T n l (n + b) = zp_bv l b := by
        unfold zp_ap
        rw [if_neg (by omega), Nat.add_sub_cancel_left]
      rw [ea]
      exact ht
    · rw [ze_wj c]
      exact hT i (by omega)
  · rw [zh_w2 _ _ h1, ze_wo h2]
theorem zp_s0 : (24 : Int32) + (-8) = 16 := by decide
theorem zp_s1 : (16 : Int32) + (-8) = 8 := by decide
theorem zp_s2 : (8 : Int32) + (-8) = 0 := by decide
theorem zp_s3 : (0 : Int32) + (-8) = -8 := by decide
theorem zp_b0 (l : Int32) : (zp_bX l 24).toInt = zp_bv l 0 ∧ zp_sg (zp_bM l 24).toInt (zp_bv l 0) := zp_bts l 24 24 16777216 (by decide) (by decide) (by decide) (Or.inl rfl)
theorem zp_b1 (l : Int32) : (zp_bX l 16).toInt = zp_bv l 1 ∧ zp_sg (zp_bM l 16).toInt (zp_bv l 1) := zp_bts l 16 16 65536 (by decide) (by decide) (by decide) (Or.inr (Or.inl rfl))
theorem zp_b2 (l : Int32) : (zp_bX l 8).toInt = zp_bv l 2 ∧ zp_sg (zp_bM l 8).toInt (zp_bv l 2) := zp_bts l 8 8 256 (by decide) (by decide) (by decide) (Or.inr (Or.inr (Or.inl rfl)))
theorem zp_b3 (l : Int32) : (zp_bX l 0).toInt = zp_bv l 3 ∧ zp_sg (zp_bM l 0).toInt (zp_bv l 3) := zp_bts l 0 0 1 (by decide) (by decide) (by decide) (Or.inr (Or.inr (Or.inr rfl)))
theorem zp_put (h : zpXt T n I) (hn : n ≤ 796) : ∃ I', zF_X8_put zW_T [.ref 0, .int l] (I, J) = some (none, (I', J)) ∧ zpXt (zp_ap T n l) (n + 4) I' := by
  obtain ⟨I1, a1, b1, c1⟩ := zp_pt1 (T := T) (n := n) (b := 0) (I := I) (J := J) (l := l) (l2 := 24) (by decide) (by omega) h.1 (fun i hi => by
    unfold zp_ap
    rw [if_pos (show i < n from hi)]
    exact h.2 i hi) (zp_b0 l).1
  obtain ⟨I2, a2, b2, c2⟩ := zp_pt1 (T := T) (n := n) (b := 1) (I := I1) (J := J) (l := l) (l2 := 16) (by decide) (by omega) b1 c1 (zp_b1 l).1
  obtain ⟨I3, a3, b3, c3⟩ := zp_pt1 (T := T) (n := n) (b := 2) (I := I2) (J := J) (l := l) (l2 := 8) (by decide) (by omega) b2 c2 (zp_b2 l).1
  obtain ⟨I4, a4, b4, c4⟩ := zp_pt1 (T := T) (n := n) (b := 3) (I := I3) (J := J) (l := l) (l2 := 0) (by decide) (by omega) b3 c3 (zp_b3 l).1
  rw [zp_s0] at a1
  rw [zp_s1] at a2
  rw [zp_s2] at a3
  rw [zp_s3] at a4
  refine ⟨I4, ?_, b4, c4⟩
  rw [zf_X8_put_T, zq_X8_put_T_0, a1, a2, a3, a4, zq_X8_put_T_3, if_pos (by decide), zq_X8_put_T_49]
theorem zp_four (h : zpMt T n I) (hn : n ≤ 796) : ∃ I', zF_X10_four zW_M [.ref 0, .int l] (I, J) = some (none, (I', J)) ∧ zpMt (zp_ap T n l) (n + 4) I' ∧ ∀ a c, ¬ (a = 0 ∧ c = 6) → a ≠ 5 → I' a c = I a c := by
  obtain ⟨I1, a1, b1, c1, d1⟩ := zp_fo1 (T := T) (n := n) (b := 0) (I := I) (J := J) (l := l) (l2 := 24) (by decide) (by omega) h.1 (fun i hi => by
    unfold zp_ap
    rw [if_pos (show i < n from hi)]
    exact h.2 i hi) (zp_b0 l).2
  obtain ⟨I2, a2, b2, c2, d2⟩ := zp_fo1 (T := T) (n := n) (b := 1) (I := I1) (J := J) (l := l) (l2 := 16) (by decide) (by omega) b1 c1 (zp_b1 l).2
  obtain ⟨I3, a3, b3, c3, d3⟩ := zp_fo1 (T := T) (n := n) (b := 2) (I := I2) (J := J) (l := l) (l2 := 8) (by decide) (by omega) b2 c2 (zp_b2 l).2
  obtain ⟨I4, a4, b4, c4, d4⟩ := zp_fo1 (T := T) (n := n) (b := 3) (I := I3) (J := J) (l := l) (l2 := 0) (by decide) (by omega) b3 c3 (zp_b3 l).2
  rw [zp_s0] at a1
  rw [zp_s1] at a2
  rw [zp_s2] at a3
  rw [zp_s3] at a4
  refine ⟨I4, ?_, ⟨b4, c4⟩, fun a c h1 h2 => (d4 a c h1 h2).trans ((d3 a c h1 h2).trans ((d2 a c h1 h2).trans (d1 a c h1 h2)))⟩
  rw [zf_X10_four_M, zq_X10_four_M_0, a1, a2, a3, a4, zq_X10_four_M_3, if_pos (by decide), zq_X10_four_M_36]
/-- what the tape holds behind a feed -/
def zp_ap5 (T : Nat → Int) (n : Nat) (a b c d e : Int32) : Nat → Int := zp_ap (zp_ap (zp_ap (zp_ap (zp_ap T n a) (n + 4) b) (n + 8) c) (n + 12) d) (n + 16) e
end ZPQ1
section ZPQ2
variable {T : Nat → Int} {n : Nat} {M : zm_I}
theorem zp_putX (l : Int32) (h : zpXt T n (fun k => M.1 (51 + k))) (hn : n ≤ 796) : ∃ N, zF_X8_put zW_T [.ref 0, .int l] (zm_sub2 [(51, 2)] M) = some (none, N) ∧ zpXt (zp_ap T n l) (n + 4) (fun k => (zm_mrg [(51, 2)] M N).1 (51 + k)) := by
  obtain ⟨I', e1, e2⟩ := zp_put (T := T) (n := n) (I := (zm_sub2 [(51, 2)] M).1) (J := (zm_sub2 [(51, 2)] M).2) (l := l) h hn
  exact ⟨_, e1, e2⟩
theorem zp_20 (h : n ≤ 800) {x : Int32} (hx : x = Int32.ofNat n) : (x + 20).toInt = (n + 20 : Nat) := by
  rw [ze_20 (by rw [hx, zp_o (by omega)]; omega) (by rw [hx, zp_o (by omega)]; omega), hx, zp_o (by omega)]
  omega
theorem zp_feedX (a b c d e : Int32) (h0 : zpXt T n (fun k => M.1 (51 + k))) (hn : n ≤ 800) {x : Int32} {N : zm_I} (h : zF_X9_feed zW_X [.ref 0, .int a, .int b, .int c, .int d, .int e] M = some (some (.int x), N)) : (n ≤ 780 ∧ x = Int32.ofNat (n + 20) ∧ zpXt (zp_ap5 T n a b c d e) (n + 20) (fun k => N.1 (51 + k))) ∨ (780 < n ∧ x = -1 ∧ N = M) := by
  have hz := (zf_X9_feed_X M.1 M.2 a b c d e).trans (zc_X9_feed_X_0 M.1 M.2 a b c d e (ze_roomX (M := M)))
  have hz : zF_X9_feed zW_X [.ref 0, .int a, .int b, .int c, .int d, .int e] M = _ := hz
  rw [h] at hz
  have hid : zm_mrg [(51, 2)] (M.1, M.2) (zm_sub2 [(51, 2)] M) = M := zm_mrg_id _ _
  rw [hid, zq_X9_feed_X_9] at hz
  have e20 : (M.1 51 1 + 20).toInt = (n + 20 : Nat) := zp_20 hn h0.1
  by_cases hr : n ≤ 780
  · have hr1 : ¬ (800 : Int32) < M.1 51 1 + 20 := by
      rw [Int32.lt_iff_toInt_lt, e20, show (800 : Int32).toInt = 800 by decide]
      omega
    rw [if_neg hr1, if_neg (by decide)] at hz
    obtain ⟨N1, p1, q1⟩ := zp_putX (M := M) a h0 (by omega)
    rw [zc_X9_feed_X_14 _ _ _ _ _ _ _ p1] at hz
    generalize zm_mrg [(51, 2)] (M.1, M.2) N1 = M1 at hz q1
    have q1 : zpXt (zp_ap T n a) (n + 4) (fun k => M1.1 (51 + k)) := q1
    obtain ⟨N2, p2, q2⟩ := zp_putX (M := M1) b q1 (by omega)
    rw [zc_X9_feed_X_22 _ _ _ _ _ _ _ p2] at hz
    generalize zm_mrg [(51, 2)] (M1.1, M1.2) N2 = M2 at hz q2
    obtain ⟨N3, p3, q3⟩ := zp_putX (M := M2) c q2 (by omega)
    rw [zc_X9_feed_X_30 _ _ _ _ _ _ _ p3] at hz
    generalize zm_mrg [(51, 2)] (M2.1, M2.2) N3 = M3 at hz q3
    obtain ⟨N4, p4, q4⟩ := zp_putX (M := M3) d q3 (by omega)
    rw [zc_X9_feed_X_38 _ _ _ _ _ _ _ p4] at hz
    generalize zm_mrg [(51, 2)] (M3.1, M3.2) N4 = M4 at hz q4
    obtain ⟨N5, p5, q5⟩ := zp_putX (M := M4) e q4 (by omega)
    rw [zc_X9_feed_X_47 _ _ _ _ _ _ _ p5] at hz
    generalize zm_mrg [(51, 2)] (M4.1, M4.2) N5 = M5 at hz q5
    rw [zq_X9_feed_X_56] at hz
    cases hz
    exact Or.inl ⟨hr, q5.1, q5⟩
  · have hr1 : (800 : Int32) < M.1 51 1 + 20 := by
      rw [Int32.lt_iff_toInt_lt, e20, show (800 : Int32).toInt = 800 by decide]
      omega
    rw [if_pos hr1, if_pos rfl, zq_X9_feed_X_12] at hz
    cases hz
    exact Or.inr ⟨by omega, rfl, rfl⟩
theorem zp_feedM (a b c d e : Int32) (h0 : zpMt T n M.1) (hn : n ≤ 800) {x : Int32} {N : zm_I} (h : zF_X10_feed zW_M [.ref 0, .int a, .int b, .int c, .int d, .int e] M = some (some (.int x), N)) : (n ≤ 780 ∧ x = Int32.ofNat (n + 20) ∧ zpMt (zp_ap5 T n a b c d e) (n + 20) N.1) ∨ (780 < n ∧ x = -1 ∧ N = (zm_w M.1 0 0 0, M.2)) := by
  have hz : zF_X10_feed zW_M [.ref 0, .int a, .int b, .int c, .int d, .int e] M = _ := zf_X10_feed_M M.1 M.2 a b c d e
  have e6 : zm_w M.1 0 0 0 0 6 = M.1 0 6 := ze_wj (by decide)
  rw [h, zq_X10_feed_M_0, e6] at hz
  have e20 : (M.1 0 6 + 20).toInt = (n + 20 : Nat) := zp_20 hn h0.1
  by_cases hr : n ≤ 780
  · have hr1 : M.1 0 6 + 20 ≤ (800 : Int32) := by
      rw [Int32.le_iff_toInt_le, e20, show (800 : Int32).toInt = 800 by decide]
      omega
    rw [if_pos hr1] at hz
    have q0 : zpMt T n (zm_w M.1 0 0 0) := ⟨e6.trans h0.1, fun i hi => by rw [ze_wo (by decide)]; exact h0.2 i hi⟩
    generalize zm_w M.1 0 0 0 = I0 at hz q0
    obtain ⟨I1, p1, q1, -⟩ := zp_four (I := I0) (J := M.2) (l := a) q0 (by omega)
    rw [zc_X10_feed_M_20 _ _ _ _ _ _ _ p1] at hz
    obtain ⟨I2, p2, q2, -⟩ := zp_four (I := I1) (J := M.2) (l := b) q1 (by omega)
    rw [zc_X10_feed_M_25 _ _ _ _ _ _ _ p2] at hz
    obtain ⟨I3, p3, q3, -⟩ := zp_four (I := I2) (J := M.2) (l := c) q2 (by omega)
    rw [zc_X10_feed_M_30 _ _ _ _ _ _ _ p3] at hz
    obtain ⟨I4, p4, q4, -⟩ := zp_four (I := I3) (J := M.2) (l := d) q3 (by omega)
    rw [zc_X10_feed_M_35 _ _ _ _ _ _ _ p4] at hz
    obtain ⟨I5, p5, q5, -⟩ := zp_four (I := I4) (J := M.2) (l := e) q4 (by omega)
    rw [zc_X10_feed_M_41 _ _ _ _ _ _ _ p5, zq_X10_feed_M_47] at hz
    cases hz
    exact Or.inl ⟨hr, q5.1, q5⟩
  · have hr1 : ¬ M.1 0 6 + 20 ≤ (800 : Int32) := by
      rw [Int32.le_iff_toInt_le, e20, show (800 : Int32).toInt = 800 by decide]
      omega
    rw [if_neg hr1, zq_X10_feed_M_18] at hz
    cases hz
    exact Or.inr ⟨by omega, rfl, rfl⟩
end ZPQ2
end ZPQ
end
