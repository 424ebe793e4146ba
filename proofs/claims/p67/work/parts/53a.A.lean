/-! THE TAPE, WITHOUT MACHINES: kinds of bytes, tokens, words, numbers -/
def zp_kd (b : Int) : Nat := if 97 ≤ b ∧ b ≤ 122 then 1 else if 48 ≤ b ∧ b ≤ 57 then 2 else if b = 59 then 3 else 4
def zp_sk (T : Nat → Int) (n : Nat) : Nat → Nat → Nat
  | 0, i => i
  | f + 1, i => if i < n ∧ (T i = 32 ∨ T i = 10) then zp_sk T n f (i + 1) else i
def zp_gr (T : Nat → Int) (n k : Nat) : Nat → Nat → Nat
  | 0, i => i
  | f + 1, i => if i < n ∧ zp_kd (T i) = k then zp_gr T n k f (i + 1) else i
def zp_en (T : Nat → Int) (n s : Nat) : Nat := if s < n then (if zp_kd (T s) ≤ 2 then zp_gr T n (zp_kd (T s)) (n - (s + 1)) (s + 1) else s + 1) else s
def zp_st (T : Nat → Int) (n e : Nat) : Nat := zp_sk T n (n - e) e
def zp_ki (T : Nat → Int) (n s : Nat) : Nat := if s < n then zp_kd (T s) else 0
section ZPA
variable {T : Nat → Int} {n : Nat}
theorem zp_sk_0 (i : Nat) : zp_sk T n 0 i = i := rfl
theorem zp_sk_s (f i : Nat) : zp_sk T n (f + 1) i = if i < n ∧ (T i = 32 ∨ T i = 10) then zp_sk T n f (i + 1) else i := rfl
theorem zp_gr_0 (k i : Nat) : zp_gr T n k 0 i = i := rfl
theorem zp_gr_s (k f i : Nat) : zp_gr T n k (f + 1) i = if i < n ∧ zp_kd (T i) = k then zp_gr T n k f (i + 1) else i := rfl
theorem zp_kd_b (b : Int) : 1 ≤ zp_kd b ∧ zp_kd b ≤ 4 := by
  unfold zp_kd
  repeat' split
  all_goals omega
theorem zp_sk_b : ∀ (f i : Nat), i ≤ zp_sk T n f i ∧ (i ≤ n → zp_sk T n f i ≤ n) := by
  intro f
  induction f with
  | zero => exact fun i => ⟨Nat.le_refl _, fun h => h⟩
  | succ f ih =>
    intro i
    rw [zp_sk_s]
    split
    · next h => exact ⟨by have := (ih (i + 1)).1; omega, fun _ => (ih (i + 1)).2 (by omega)⟩
    · exact ⟨Nat.le_refl _, fun h => h⟩
theorem zp_gr_b {k : Nat} : ∀ (f i : Nat), i ≤ zp_gr T n k f i ∧ (i ≤ n → zp_gr T n k f i ≤ n) ∧ ∀ j, i ≤ j → j < zp_gr T n k f i → zp_kd (T j) = k := by
  intro f
  induction f with
  | zero => exact fun i => ⟨Nat.le_refl _, fun h => h, fun j h1 h2 => by rw [zp_gr_0] at h2; omega⟩
  | succ f ih =>
    intro i
    rw [zp_gr_s]
    split
    · next h =>
      have hi := ih (i + 1)
      refine ⟨by omega, fun _ => hi.2.1 (by omega), fun j h1 h2 => ?_⟩
      by_cases e : j = i
      · rw [e]; exact h.2
      · exact hi.2.2 j (by omega) h2
    · exact ⟨Nat.le_refl _, fun h => h, fun j h1 h2 => by omega⟩
theorem zp_st_b {e : Nat} (h : e ≤ n) : e ≤ zp_st T n e ∧ zp_st T n e ≤ n := ⟨(zp_sk_b _ _).1, (zp_sk_b _ _).2 h⟩
theorem zp_en_b {s : Nat} (h : s ≤ n) : s ≤ zp_en T n s ∧ zp_en T n s ≤ n ∧ (s < n → s < zp_en T n s) := by
  unfold zp_en
  split
  · split
    · have := zp_gr_b (T := T) (n := n) (k := zp_kd (T s)) (n - (s + 1)) (s + 1)
      exact ⟨by omega, this.2.1 (by omega), fun _ => by omega⟩
    · exact ⟨by omega, by omega, fun _ => by omega⟩
  · exact ⟨by omega, by omega, fun h => by omega⟩
/-- the bytes of a word or a number are all of its kind -/
theorem zp_en_k {s k : Nat} (hk : zp_ki T n s = k) (h2 : k = 1 ∨ k = 2) : ∀ j, s ≤ j → j < zp_en T n s → zp_kd (T j) = k := by
  intro j h1 h3
  unfold zp_ki at hk
  unfold zp_en at h3
  by_cases hs : s < n
  · rw [if_pos hs] at hk h3
    rw [hk, if_pos (by omega)] at h3
    by_cases e : j = s
    · rw [e]; exact hk
    · exact (zp_gr_b _ _).2.2 j (by omega) h3
  · rw [if_neg hs] at hk
    omega
end ZPA
/-- two tapes that say the same: bytes below 128 the same, others above on both -/
def zp_sg (b t : Int) : Prop := (b = t ∧ t < 128) ∨ (128 ≤ t ∧ b < 0)
theorem zp_sg_kd {b t : Int} (h : zp_sg b t) : zp_kd b = zp_kd t := by
  unfold zp_kd
  rcases h with ⟨rfl, -⟩ | ⟨h1, h2⟩
  · rfl
  · rw [if_neg (by omega), if_neg (by omega), if_neg (by omega), if_neg (by omega), if_neg (by omega), if_neg (by omega)]
/-- the worth of a word, k letters from s on -/
def zp_wv (T : Nat → Int) (s : Nat) : Nat → Int
  | 0 => 0
  | k + 1 => 27 * zp_wv T s k + (T (s + k) - 96)
theorem zp_wv_0 (T : Nat → Int) (s : Nat) : zp_wv T s 0 = 0 := rfl
theorem zp_wv_s (T : Nat → Int) (s k : Nat) : zp_wv T s (k + 1) = 27 * zp_wv T s k + (T (s + k) - 96) := rfl
theorem zp_wv_b {T : Nat → Int} {s : Nat} : ∀ (k : Nat), (∀ j, j < k → 97 ≤ T (s + j) ∧ T (s + j) ≤ 122) → 0 ≤ zp_wv T s k ∧ zp_wv T s k < 27 ^ k := by
  intro k
  induction k with
  | zero => exact fun _ => by rw [zp_wv_0]; decide
  | succ k ih =>
    intro h
    have h1 := ih (fun j hj => h j (by omega))
    have h2 := h k (by omega)
    rw [zp_wv_s]
    have e : (27 : Int) ^ (k + 1) = 27 * 27 ^ k := by rw [Int.pow_succ]; omega
    rw [e]
    omega
theorem zp_wv_u {T U : Nat → Int} {s t : Nat} : ∀ (k l : Nat), (∀ j, j < k → 97 ≤ T (s + j) ∧ T (s + j) ≤ 122) → (∀ j, j < l → 97 ≤ U (t + j) ∧ U (t + j) ≤ 122) → zp_wv T s k = zp_wv U t l → k = l ∧ ∀ j, j < k → T (s + j) = U (t + j) := by
  intro k
  induction k with
  | zero =>
    intro l h1 h2 e
    match l with
    | 0 => exact ⟨rfl, fun j hj => by omega⟩
    | l + 1 =>
      have b := (zp_wv_b l (fun j hj => h2 j (by omega))).1
      have c := h2 l (by omega)
      rw [zp_wv_0, zp_wv_s] at e
      omega
  | succ k ih =>
    intro l h1 h2 e
    have b := (zp_wv_b k (fun j hj => h1 j (by omega))).1
    have c := h1 k (by omega)
    match l with
    | 0 =>
      rw [zp_wv_0, zp_wv_s] at e
      omega
    | l + 1 =>
      have c2 := h2 l (by omega)
      rw [zp_wv_s, zp_wv_s] at e
      obtain ⟨e1, e2⟩ := ih l (fun j hj => h1 j (by omega)) (fun j hj => h2 j (by omega)) (by omega)
      subst e1
      refine ⟨rfl, fun j hj => ?_⟩
      by_cases q : j = k
      · subst q
        omega
      · exact e2 j (by omega)
theorem zp_wv_c {T U : Nat → Int} {s t : Nat} : ∀ (k : Nat), (∀ j, j < k → T (s + j) = U (t + j)) → zp_wv T s k = zp_wv U t k := by
  intro k
  induction k with
  | zero => exact fun _ => rfl
  | succ k ih =>
    intro h
    rw [zp_wv_s, zp_wv_s, ih (fun j hj => h j (by omega)), h k (by omega)]
/-- a number's worth, k digits from s on: as the class counts it, and as the reference does -/
def zp_nx (T : Nat → Int) (s : Nat) : Nat → Int
  | 0 => 0
  | k + 1 => if zp_nx T s k * 10 + T (s + k) - 48 < 1000 then zp_nx T s k * 10 + T (s + k) - 48 else 1000
def zp_nm (T : Nat → Int) (s : Nat) : Nat → Int
  | 0 => 0
  | k + 1 => if zp_nm T s k ≤ 100000 then 10 * zp_nm T s k + T (s + k) - 48 else 1000000
theorem zp_nx_0 (T : Nat → Int) (s : Nat) : zp_nx T s 0 = 0 := rfl
theorem zp_nx_s (T : Nat → Int) (s k : Nat) : zp_nx T s (k + 1) = if zp_nx T s k * 10 + T (s + k) - 48 < 1000 then zp_nx T s k * 10 + T (s + k) - 48 else 1000 := rfl
theorem zp_nm_0 (T : Nat → Int) (s : Nat) : zp_nm T s 0 = 0 := rfl
theorem zp_nm_s (T : Nat → Int) (s k : Nat) : zp_nm T s (k + 1) = if zp_nm T s k ≤ 100000 then 10 * zp_nm T s k + T (s + k) - 48 else 1000000 := rfl
theorem zp_nx_m {T : Nat → Int} {s : Nat} : ∀ (k : Nat), (∀ j, j < k → 48 ≤ T (s + j) ∧ T (s + j) ≤ 57) → 0 ≤ zp_nx T s k ∧ zp_nx T s k ≤ 1000 ∧ 0 ≤ zp_nm T s k ∧ zp_nm T s k ≤ 1000009 ∧ ((zp_nx T s k = zp_nm T s k) ∨ (zp_nx T s k = 1000 ∧ 1000 ≤ zp_nm T s k)) := by
  intro k
  induction k with
  | zero =>
    intro _
    rw [zp_nx_0, zp_nm_0]
    omega
  | succ k ih =>
    intro h
    have h1 := ih (fun j hj => h j (by omega))
    have h2 := h k (by omega)
    rw [zp_nx_s, zp_nm_s]
    split <;> split <;> omega
