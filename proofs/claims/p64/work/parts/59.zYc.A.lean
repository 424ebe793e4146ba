/-! A DAY, WITHOUT MACHINES: who sits where, who went in when, which moves were done -/
/-- (callers, seats, moves), when each comes, his seat, a move's caller, its seat, its minute, the minutes from call to call -/
abbrev zdB : Type := (Nat × Nat × Nat) × (Nat → Nat) × (Nat → Nat) × (Nat → Nat) × (Nat → Nat) × (Nat → Nat) × Nat
def zd_up (p : Nat → Int) (c : Nat) (v : Int) : Nat → Int := fun q => if q = c then v else p q
def zd_free (C : Nat) (p : Nat → Int) (s : Nat) : Bool := (List.range C).all (fun c => decide (p c ≠ (s : Int)))
def zd_sit (C S : Nat) (p : Nat → Int) (c : Nat) : Nat → Nat → (Nat → Int)
  | 0, _ => p
  | k + 1, s => if zd_free C p s = true then zd_up p c s else zd_sit C S p c k (if s + 1 < S then s + 1 else 0)
/-- f at c, c + 1 .., so many times -/
def zd_for {α : Type} (f : Nat → α → α) : Nat → Nat → α → α
  | 0, _, x => x
  | d + 1, c, x => zd_for f d (c + 1) (f c x)
abbrev zdP : Type := (Nat → Int) × (Nat → Bool)
def zd_mv (B : zdB) (n k : Nat) (x : zdP) : zdP := if B.2.2.2.2.2.1 k = n ∧ -1 ≤ x.1 (B.2.2.2.1 k) ∧ zd_free B.1.1 x.1 (B.2.2.2.2.1 k) = true then (zd_up x.1 (B.2.2.2.1 k) (B.2.2.2.2.1 k), fun q => if q = k then true else x.2 q) else x
def zd_sd (B : zdB) (c : Nat) (p : Nat → Int) : Nat → Int := if p c = -1 then zd_sit B.1.1 B.1.2.1 p c B.1.2.1 (B.2.2.1 c) else p
def zd_cm (B : zdB) (n c : Nat) (p : Nat → Int) : Nat → Int := if B.2.1 c = n then zd_sit B.1.1 B.1.2.1 (zd_up p c (-1)) c B.1.2.1 (B.2.2.1 c) else p
def zd_set (B : zdB) (n : Nat) (x : zdP) : zdP := (zd_for (zd_cm B n) B.1.1 0 (zd_for (zd_sd B) B.1.1 0 (zd_for (zd_mv B n) B.1.2.2 0 x).1), (zd_for (zd_mv B n) B.1.2.2 0 x).2)
def zd_ff (B : zdB) (p : Nat → Int) (c : Nat) (x : Int) : Int := if -1 ≤ p c ∧ (x = -1 ∨ B.2.1 c < B.2.1 x.toNat) then (c : Int) else x
def zd_ft (B : zdB) (p : Nat → Int) : Int := zd_for (zd_ff B p) B.1.1 0 (-1)
abbrev zdW : Type := (Nat → Int) × (Nat → Int)
def zd_fin (B : zdB) (ms : Nat → Bool) (n : Nat) (x : zdW) : zdW := if 0 < n ∧ n % B.2.2.2.2.2.2 = 0 ∧ ms (n / B.2.2.2.2.2.2 - 1) = false then (if zd_ft B x.1 = -1 then x else (zd_up x.1 (zd_ft B x.1).toNat (-3), zd_up x.2 (zd_ft B x.1).toNat n)) else x
abbrev zdZ : Type := (Nat → Int) × (Nat → Int) × (Nat → Bool)
def zd_at (B : zdB) (n : Nat) (z : zdZ) : zdP := zd_set B n (z.1, z.2.2)
def zd_nx (B : zdB) (ms : Nat → Bool) (n : Nat) (z : zdZ) : zdZ := ((zd_fin B ms n ((zd_at B n z).1, z.2.1)).1, (zd_fin B ms n ((zd_at B n z).1, z.2.1)).2, (zd_at B n z).2)
/-- before minute n -/
def zd_st (B : zdB) (ms : Nat → Bool) : Nat → zdZ
  | 0 => (fun _ => -2, fun _ => -1, fun _ => false)
  | n + 1 => zd_nx B ms n (zd_st B ms n)
/-- where each is when minute m's call comes -/
def zd_pl (B : zdB) (ms : Nat → Bool) (m : Nat) : Nat → Int := (zd_at B m (zd_st B ms m)).1
theorem zd_free_i {C : Nat} {p : Nat → Int} {s : Nat} : zd_free C p s = true ↔ ∀ c, c < C → p c ≠ (s : Int) := by
  unfold zd_free
  rw [List.all_eq_true]
  constructor
  · intro h c hc
    exact of_decide_eq_true (h c (List.mem_range.mpr hc))
  · intro h c hc
    exact decide_eq_true (h c (List.mem_range.mp hc))
theorem zd_up_i {p : Nat → Int} {c : Nat} {v : Int} : zd_up p c v c = v := if_pos rfl
theorem zd_up_o {p : Nat → Int} {c q : Nat} {v : Int} (h : q ≠ c) : zd_up p c v q = p q := if_neg h
theorem zd_up_id {p : Nat → Int} {c : Nat} {v : Int} (h : p c = v) : zd_up p c v = p := by
  funext q
  unfold zd_up
  split
  · next e => rw [e, h]
  · rfl
theorem zd_for_id {α : Type} {f : Nat → α → α} : ∀ (d c : Nat) (x : α), (∀ q, c ≤ q → q < c + d → f q x = x) → zd_for f d c x = x
  | 0, _, _, _ => rfl
  | d + 1, c, x, h => by
    unfold zd_for
    rw [h c (Nat.le_refl c) (by omega)]
    exact zd_for_id d (c + 1) x (fun q h1 h2 => h q (by omega) (by omega))
theorem zd_for_ind {α : Type} {f : Nat → α → α} {P : Nat → α → Prop} : ∀ (d c : Nat) (x : α), P c x → (∀ q y, c ≤ q → q < c + d → P q y → P (q + 1) (f q y)) → P (c + d) (zd_for f d c x)
  | 0, _, _, h, _ => h
  | d + 1, c, x, h, hs => by
    unfold zd_for
    have e : c + (d + 1) = c + 1 + d := by omega
    rw [e]
    exact zd_for_ind d (c + 1) (f c x) (hs c x (Nat.le_refl c) (by omega) h) (fun q y h1 h2 h3 => hs q y (by omega) (by omega) h3)
/-- bounds of where one is; whoever is not one of the callers stays away -/
def zdI (B : zdB) (n : Nat) (z : zdZ) : Prop := (∀ c, B.1.1 ≤ c → z.1 c = -2) ∧ (∀ c, z.1 c ≠ -2 → B.2.1 c < n) ∧ (∀ c, -3 ≤ z.1 c ∧ z.1 c ≤ 5) ∧ ∀ k, z.2.2 k = true → B.2.2.2.2.2.1 k < n
/-- what the bench's numbers keep to -/
def zdV (B : zdB) : Prop := B.1.1 ≤ 5 ∧ B.1.2.1 ≤ 6 ∧ (∀ c, B.2.2.1 c ≤ 5) ∧ (∀ k, B.2.2.2.1 k ≤ 4) ∧ (∀ k, B.2.2.2.2.1 k ≤ 5)
section ZDA
variable {B : zdB} {ms : Nat → Bool}
/-- a change of one's place, within the bounds -/
def zdQ (B : zdB) (n : Nat) (p : Nat → Int) : Prop := (∀ c, B.1.1 ≤ c → p c = -2) ∧ (∀ c, p c ≠ -2 → B.2.1 c < n) ∧ ∀ c, -3 ≤ p c ∧ p c ≤ 5
theorem zdQ_up {n c : Nat} {p : Nat → Int} {v : Int} (h : zdQ B n p) (hc : c < B.1.1) (hn : B.2.1 c < n) (hv : -3 ≤ v ∧ v ≤ 5) : zdQ B n (zd_up p c v) := by
  refine ⟨fun q hq => ?_, fun q hq => ?_, fun q => ?_⟩
  · rw [zd_up_o (by omega)]
    exact h.1 q hq
  · by_cases e : q = c
    · rw [e]
      exact hn
    · rw [zd_up_o e] at hq
      exact h.2.1 q hq
  · by_cases e : q = c
    · rw [e, zd_up_i]
      exact hv
    · rw [zd_up_o e]
      exact h.2.2 q
theorem zdQ_sit (hB : zdV B) {n c : Nat} (hc : c < B.1.1) (hn : B.2.1 c < n) : ∀ (k s : Nat) (p : Nat → Int), s ≤ 5 → zdQ B n p → zdQ B n (zd_sit B.1.1 B.1.2.1 p c k s)
  | 0, _, _, _, h => h
  | k + 1, s, p, hs, h => by
    unfold zd_sit
    split
    · exact zdQ_up h hc hn (by omega)
    · refine zdQ_sit hB hc hn k _ p ?_ h
      have := hB.2.1
      split <;> omega
theorem zdQ_mv (hB : zdV B) {n k : Nat} {x : zdP} (h : zdQ B n x.1) : zdQ B n (zd_mv B n k x).1 := by
  unfold zd_mv
  split
  · next e =>
    have h1 : x.1 (B.2.2.2.1 k) ≠ -2 := by omega
    have h5 := hB.2.2.2.2 k
    refine zdQ_up h ?_ (h.2.1 _ h1) (by omega)
    by_cases q : B.1.1 ≤ B.2.2.2.1 k
    · exact absurd (h.1 _ q) h1
    · omega
  · exact h
theorem zdQ_le {n m : Nat} {p : Nat → Int} (h : zdQ B n p) (hm : n ≤ m) : zdQ B m p := ⟨h.1, fun c hc => Nat.lt_of_lt_of_le (h.2.1 c hc) hm, h.2.2⟩
theorem zdQ_sd (hB : zdV B) {n c : Nat} {p : Nat → Int} (hc : c < B.1.1) (h : zdQ B n p) : zdQ B n (zd_sd B c p) := by
  unfold zd_sd
  split
  · next e => exact zdQ_sit hB hc (h.2.1 c (by omega)) _ _ p (hB.2.2.1 c) h
  · exact h
theorem zdQ_cm (hB : zdV B) {n c : Nat} {p : Nat → Int} (hc : c < B.1.1) (h : zdQ B (n + 1) p) : zdQ B (n + 1) (zd_cm B n c p) := by
  unfold zd_cm
  split
  · next e => exact zdQ_sit hB hc (by omega) _ _ _ (hB.2.2.1 c) (zdQ_up h hc (by omega) (by omega))
  · exact h
theorem zdQ_set (hB : zdV B) {n : Nat} {x : zdP} (h : zdQ B n x.1) : zdQ B (n + 1) (zd_set B n x).1 := by
  have h1 : zdQ B n (zd_for (zd_mv B n) B.1.2.2 0 x).1 := zd_for_ind (P := fun _ y => zdQ B n y.1) B.1.2.2 0 x h (fun q y _ _ hy => zdQ_mv hB hy)
  have h2 : zdQ B n (zd_for (zd_sd B) B.1.1 0 (zd_for (zd_mv B n) B.1.2.2 0 x).1) := zd_for_ind (P := fun _ y => zdQ B n y) B.1.1 0 _ h1 (fun q y _ hq hy => zdQ_sd hB (by omega) hy)
  exact zd_for_ind (P := fun _ y => zdQ B (n + 1) y) B.1.1 0 _ (zdQ_le h2 (by omega)) (fun q y _ hq hy => zdQ_cm hB (by omega) hy)
theorem zd_ft_b (B : zdB) (p : Nat → Int) : zd_ft B p = -1 ∨ (0 ≤ zd_ft B p ∧ zd_ft B p < B.1.1 ∧ -1 ≤ p (zd_ft B p).toNat) := by
  have h := zd_for_ind (f := zd_ff B p) (P := fun c x => x = -1 ∨ (0 ≤ x ∧ x < (c : Int) ∧ -1 ≤ p x.toNat)) B.1.1 0 (-1) (Or.inl rfl) (fun q y _ _ hy => by
    unfold zd_ff
    split
    · next e => exact Or.inr ⟨by omega, by omega, by rw [Int.toNat_natCast]; exact e.1⟩
    · rcases hy with hy | hy
      · exact Or.inl hy
      · exact Or.inr ⟨hy.1, by omega, hy.2.2⟩)
  rw [Nat.zero_add] at h
  exact h
theorem zdQ_fin {n m : Nat} {x : zdW} (h : zdQ B m x.1) : zdQ B m (zd_fin B ms n x).1 := by
  unfold zd_fin
  split
  · split
    · exact h
    · next e =>
      rcases zd_ft_b B x.1 with q | q
      · exact absurd q e
      · exact zdQ_up h (by omega) (h.2.1 _ (by omega)) (by omega)
  · exact h
theorem zd_mvs_d {n : Nat} {x : zdP} (h : ∀ k, x.2 k = true → B.2.2.2.2.2.1 k < n) : ∀ k, (zd_for (zd_mv B n) B.1.2.2 0 x).2 k = true → B.2.2.2.2.2.1 k < n + 1 := by
  refine zd_for_ind (P := fun _ (y : zdP) => ∀ k, y.2 k = true → B.2.2.2.2.2.1 k < n + 1) B.1.2.2 0 x (fun k hk => Nat.lt_succ_of_lt (h k hk)) (fun q y _ _ hy k hk => ?_)
  unfold zd_mv at hk
  split at hk
  · next e =>
    by_cases c : k = q
    · rw [c]
      omega
    · have hk : (if k = q then true else y.2 k) = true := hk
      rw [if_neg c] at hk
      exact hy k hk
  · exact hy k hk
theorem zdI_st (hB : zdV B) : ∀ n, zdI B n (zd_st B ms n)
  | 0 => ⟨fun _ _ => rfl, fun c h => absurd rfl h, fun _ => ⟨by show (-3 : Int) ≤ -2; decide, by show (-2 : Int) ≤ 5; decide⟩, fun k h => by cases h⟩
  | n + 1 => by
    obtain ⟨h1, h2, h3, h4⟩ := zdI_st hB n
    have q := zdQ_fin (ms := ms) (n := n) (m := n + 1) (x := ((zd_at B n (zd_st B ms n)).1, (zd_st B ms n).2.1)) (zdQ_set hB (n := n) (x := ((zd_st B ms n).1, (zd_st B ms n).2.2)) ⟨h1, h2, h3⟩)
    exact ⟨q.1, q.2.1, q.2.2, zd_mvs_d (x := ((zd_st B ms n).1, (zd_st B ms n).2.2)) h4⟩
theorem zdQ_pl (hB : zdV B) (m : Nat) : zdQ B (m + 1) (zd_pl B ms m) := by
  obtain ⟨h1, h2, h3, -⟩ := zdI_st (ms := ms) hB m
  exact zdQ_set hB (n := m) (x := ((zd_st B ms m).1, (zd_st B ms m).2.2)) ⟨h1, h2, h3⟩
/-- where all have gone, nothing more happens -/
theorem zd_mv_dead {n k : Nat} {x : zdP} (h : ∀ c, x.1 c < -1) : zd_mv B n k x = x := by
  unfold zd_mv
  have := h (B.2.2.2.1 k)
  rw [if_neg (by omega)]
theorem zd_set_dead {n : Nat} {x : zdP} (h : ∀ c, x.1 c < -1) (hn : ∀ c, c < B.1.1 → B.2.1 c ≠ n) : zd_set B n x = x := by
  have e1 : zd_for (zd_mv B n) B.1.2.2 0 x = x := zd_for_id _ _ _ (fun q _ _ => zd_mv_dead h)
  have e2 : zd_for (zd_sd B) B.1.1 0 x.1 = x.1 := zd_for_id _ _ _ (fun q _ _ => by
    have := h q
    unfold zd_sd
    rw [if_neg (by omega)])
  have e3 : zd_for (zd_cm B n) B.1.1 0 x.1 = x.1 := zd_for_id _ _ _ (fun q _ hq => by
    unfold zd_cm
    rw [if_neg (hn q (by omega))])
  unfold zd_set
  rw [e1, e2, e3]
theorem zd_ft_dead {p : Nat → Int} (h : ∀ c, p c < -1) : zd_ft B p = -1 := by
  unfold zd_ft
  refine zd_for_id _ _ _ (fun q _ _ => ?_)
  have := h q
  unfold zd_ff
  rw [if_neg (by omega)]
theorem zd_nx_dead {n : Nat} {z : zdZ} (h : ∀ c, z.1 c < -1) (hn : ∀ c, c < B.1.1 → B.2.1 c ≠ n) : zd_nx B ms n z = z := by
  have e : zd_at B n z = (z.1, z.2.2) := zd_set_dead (x := (z.1, z.2.2)) h hn
  have e2 : zd_fin B ms n (z.1, z.2.1) = (z.1, z.2.1) := by
    unfold zd_fin
    rw [zd_ft_dead h, if_pos rfl]
    split <;> rfl
  unfold zd_nx
  rw [e]
  show ((zd_fin B ms n (z.1, z.2.1)).1, (zd_fin B ms n (z.1, z.2.1)).2, z.2.2) = z
  rw [e2]
theorem zd_st_dead (hB : zdV B) {n : Nat} (h : ∀ c, c < B.1.1 → (zd_st B ms n).1 c = -3) : ∀ m, zd_st B ms (n + m) = zd_st B ms n ∧ zd_pl B ms (n + m) = (zd_st B ms n).1 := by
  have hI := zdI_st (ms := ms) hB n
  have hd : ∀ c, (zd_st B ms n).1 c < -1 := fun c => by
    by_cases q : c < B.1.1
    · rw [h c q]
      decide
    · rw [hI.1 c (by omega)]
      decide
  have hn : ∀ m, ∀ c, c < B.1.1 → B.2.1 c ≠ n + m := fun m c hc => by
    have := hI.2.1 c (by rw [h c hc]; decide)
    omega
  have st : ∀ m, zd_st B ms (n + m) = zd_st B ms n := by
    intro m
    induction m with
    | zero => rfl
    | succ m ih =>
      show zd_nx B ms (n + m) (zd_st B ms (n + m)) = _
      rw [ih]
      exact zd_nx_dead hd (hn m)
  intro m
  refine ⟨st m, ?_⟩
  unfold zd_pl
  rw [st m]
  show (zd_set B (n + m) ((zd_st B ms n).1, (zd_st B ms n).2.2)).1 = _
  rw [zd_set_dead (x := ((zd_st B ms n).1, (zd_st B ms n).2.2)) hd (hn m)]
/-- how many of the first so many have gone -/
def zd_ct (p : Nat → Int) : Nat → Nat
  | 0 => 0
  | C + 1 => zd_ct p C + (if p C = -3 then 1 else 0)
theorem zd_ct_le (p : Nat → Int) : ∀ C, zd_ct p C ≤ C
  | 0 => Nat.le_refl 0
  | C + 1 => by
    have := zd_ct_le p C
    unfold zd_ct
    split <;> omega
theorem zd_ct_all {p : Nat → Int} : ∀ {C : Nat}, zd_ct p C = C → ∀ c, c < C → p c = -3
  | 0, _, c, h => absurd h (Nat.not_lt_zero c)
  | C + 1, e, c, h => by
    have l := zd_ct_le p C
    unfold zd_ct at e
    split at e
    · next q =>
      by_cases k : c = C
      · rw [k]
        exact q
      · exact zd_ct_all (C := C) (by omega) c (by omega)
    · omega
theorem zd_ct_eq {p q : Nat → Int} : ∀ {C : Nat}, (∀ c, c < C → (p c = -3 ↔ q c = -3)) → zd_ct p C = zd_ct q C
  | 0, _ => rfl
  | C + 1, h => by
    unfold zd_ct
    rw [zd_ct_eq (C := C) (fun c hc => h c (by omega))]
    by_cases e : p C = -3
    · rw [if_pos e, if_pos ((h C (by omega)).mp e)]
    · rw [if_neg e, if_neg (fun z => e ((h C (by omega)).mpr z))]
theorem zd_ct_up {p : Nat → Int} {k : Nat} (hk : p k ≠ -3) : ∀ {C : Nat}, k < C → zd_ct (zd_up p k (-3)) C = zd_ct p C + 1
  | 0, h => absurd h (Nat.not_lt_zero k)
  | C + 1, h => by
    unfold zd_ct
    by_cases e : k = C
    · subst e
      rw [zd_up_i, if_pos rfl, if_neg hk, zd_ct_eq (p := zd_up p k (-3)) (q := p) (fun c hc => by rw [zd_up_o (by omega)])]
    · rw [zd_ct_up hk (C := C) (by omega), zd_up_o (fun z => e z.symm)]
      omega
end ZDA
