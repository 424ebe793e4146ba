/-! AN ABSTRACT RUN: what is kept where locals or cells change -/
def zt_kN (ks : List Nat) (w : zt_W) (nm : zt_N) : Bool := match nm.1 with
  | 0 => !ks.any (Nat.beq nm.2.1)
  | 1 => !zt_hit w nm.2.1 nm.2.2.1
  | 2 => !ks.any (Nat.beq nm.2.2.1) && !w.any (fun q => Nat.beq q.1 nm.2.1)
  | _ => true
def zt_kC (ks : List Nat) (w : zt_W) (c : zt_C) : Bool := match c.1.1 with
  | 1 => !zt_hit w c.1.2.1 c.1.2.2
  | _ => !ks.any (Nat.beq c.1.2.2) && !w.any (fun q => Nat.beq q.1 c.1.2.1)
def zt_fA (ks : List Nat) (w : zt_W) (a : zt_A) : zt_A := zt_nn a (a.2.2.2.2.filter (zt_kN ks w))
/-- the cells of which a further knowledge speaks -/
abbrev zt_U : Type := Nat → zt_W
def zt_kF (U : zt_U) (w : zt_W) (f : Nat) : Bool := !w.any (fun q => (U f).any (fun u => Nat.beq q.1 u.1 && Nat.ble q.2.1 u.2.2 && Nat.ble u.2.1 q.2.2))
def zt_keep (U : zt_U) (ks : List Nat) (w : zt_W) (σ : zt_St) : zt_St := (σ.1.map (Option.map (zt_fA ks w)), σ.2.1.map (zt_fA ks w), σ.2.2.1.filter (zt_kC ks w), σ.2.2.2.filter (zt_kF U w))
def zt_inW (W : zt_W) (n lo hi : Nat) : Bool := W.any (fun w => Nat.beq w.1 n && Nat.ble w.2.1 lo && Nat.ble hi w.2.2)
def zt_UR (U : zt_U) (Rel : Nat → zm_I → Prop) : Prop := ∀ f (M M' : zm_I), Rel f M → (∀ n i, zt_hit (U f) n i = true → M'.1 n i = M.1 n i ∧ M'.2 n i = M.2 n i) → Rel f M'
theorem zt_beq_ne {a b : Nat} : Nat.beq a b = false ↔ a ≠ b := by
  constructor
  · exact Nat.ne_of_beq_eq_false
  · intro h
    cases hq : Nat.beq a b with
    | false => rfl
    | true => exact absurd (Nat.eq_of_beq_eq_true hq) h
section ZTK
variable {s : Nat → Int} {ls ls' : List (Option Value)} {M M' : zm_I} {ks : List Nat} {w : zt_W}
theorem zt_hit_no {n : Nat} (h : w.any (fun q => Nat.beq q.1 n) = false) (i : Nat) : zt_hit w n i = false := by
  unfold zt_hit
  rw [List.any_eq_false] at h ⊢
  intro q hq
  have := h q hq
  simp only [Bool.not_eq_true] at this
  simp [this]
theorem zt_is_keep {nm : zt_N} {z : Int} (hk : zt_kN ks w nm = true) (hl : ∀ k, ks.any (Nat.beq k) = false → ls'[k]? = ls[k]?) (hm : ∀ n i, zt_hit w n i = false → M'.1 n i = M.1 n i) (h : zt_is ls M s nm z) : zt_is ls' M' s nm z := by
  obtain ⟨t, a, b, d⟩ := nm
  match t, hk, h with
  | 0, hk, h =>
    have hk : (!ks.any (Nat.beq a)) = true := hk
    simp only [Bool.not_eq_true'] at hk
    obtain ⟨v, y, h1, h2, h3⟩ := h
    exact ⟨v, y, by rw [hl a hk]; exact h1, h2, h3⟩
  | 1, hk, h =>
    have hk : (!zt_hit w a b) = true := hk
    simp only [Bool.not_eq_true'] at hk
    have h : z = (M.1 a b).toInt + d := h
    show z = (M'.1 a b).toInt + d
    rw [hm a b hk]
    exact h
  | 2, hk, h =>
    have hk : (!ks.any (Nat.beq b) && !w.any (fun q => Nat.beq q.1 a)) = true := hk
    simp only [Bool.and_eq_true, Bool.not_eq_true'] at hk
    obtain ⟨y, h1, h2⟩ := h
    refine ⟨y, by rw [hl b hk.1]; exact h1, ?_⟩
    rw [hm a _ (zt_hit_no hk.2 _)]
    exact h2
  | t + 3, _, h =>
    have h : z = s a + d := h
    show z = s a + d
    exact h
theorem zt_fA_ok {a : zt_A} {v : Value} (hl : ∀ k, ks.any (Nat.beq k) = false → ls'[k]? = ls[k]?) (hm : ∀ n i, zt_hit w n i = false → M'.1 n i = M.1 n i) (h : zt_v ls M s a v) : zt_v ls' M' s (zt_fA ks w a) v :=
  zt_v_nn h (fun z hz nm hnm => zt_is_keep (List.mem_filter.mp hnm).2 hl hm (hz nm (List.mem_filter.mp hnm).1))
theorem zt_sts_keep (hl : ∀ k, ks.any (Nat.beq k) = false → ls'[k]? = ls[k]?) (hm : ∀ n i, zt_hit w n i = false → M'.1 n i = M.1 n i) : ∀ (as : List zt_A) (vs : List Value), zt_sts ls M s as vs → zt_sts ls' M' s (as.map (zt_fA ks w)) vs
  | [], [], _ => trivial
  | a :: as, v :: vs, h => ⟨zt_fA_ok hl hm h.1, zt_sts_keep hl hm as vs h.2⟩
  | [], _ :: _, h => h.elim
  | _ :: _, [], h => h.elim
theorem zt_cs_ne {ls : List (Option Value)} {M : zm_I} {c : zt_C} (h : c.1.1 ≠ 1) : zt_cs ls M c = ∃ y : Int32, ls[c.1.2.2]? = some (some (.int y)) ∧ c.2.1 ≤ (M.1 c.1.2.1 y.toNatClampNeg).toInt ∧ (M.1 c.1.2.1 y.toNatClampNeg).toInt ≤ c.2.2 := by
  unfold zt_cs
  split
  · next h9 => exact absurd h9 h
  · rfl
theorem zt_cs_keep {c : zt_C} (hk : zt_kC ks w c = true) (hl : ∀ k, ks.any (Nat.beq k) = false → ls'[k]? = ls[k]?) (hm : ∀ n i, zt_hit w n i = false → M'.1 n i = M.1 n i) (h : zt_cs ls M c) : zt_cs ls' M' c := by
  obtain ⟨⟨t, a, b⟩, lo, hi⟩ := c
  by_cases ht : t = 1
  · subst ht
    have hk : (!zt_hit w a b) = true := hk
    have h : lo ≤ (M.1 a b).toInt ∧ (M.1 a b).toInt ≤ hi := h
    show lo ≤ (M'.1 a b).toInt ∧ (M'.1 a b).toInt ≤ hi
    rw [hm a b (by simpa using hk)]
    exact h
  · have hk : (!ks.any (Nat.beq b) && !w.any (fun q => Nat.beq q.1 a)) = true := by
      unfold zt_kC at hk
      split at hk
      · next h9 => exact absurd h9 ht
      · exact hk
    simp only [Bool.and_eq_true, Bool.not_eq_true'] at hk
    rw [zt_cs_ne (c := ((t, a, b), lo, hi)) ht] at h ⊢
    obtain ⟨y, h1, h2⟩ := h
    refine ⟨y, by dsimp only at h1 ⊢; rw [hl b hk.1]; exact h1, ?_⟩
    dsimp only at h2 ⊢
    rw [hm a _ (zt_hit_no hk.2 _)]
    exact h2
theorem zt_kF_ok {U : zt_U} {Rel : Nat → zm_I → Prop} (hU : zt_UR U Rel) {f : Nat} (hk : zt_kF U w f = true) (hm : ∀ n i, zt_hit w n i = false → M'.1 n i = M.1 n i ∧ M'.2 n i = M.2 n i) (h : Rel f M) : Rel f M' := by
  refine hU f M M' h (fun n i hi => hm n i ?_)
  simp only [zt_kF, Bool.not_eq_true'] at hk
  unfold zt_hit
  rw [List.any_eq_false] at hk ⊢
  intro q hq hc
  have := hk q hq
  apply this
  unfold zt_hit at hi
  obtain ⟨u, hu, hui⟩ := List.any_eq_true.mp hi
  refine List.any_eq_true.mpr ⟨u, hu, ?_⟩
  simp only [Bool.and_eq_true, Nat.ble_eq] at hc hui ⊢
  have e1 := Nat.eq_of_beq_eq_true hc.1.1
  have e2 := Nat.eq_of_beq_eq_true hui.1.1
  refine ⟨⟨?_, by omega⟩, by omega⟩
  rw [e1, e2]
  exact Nat.beq_refl n
/-- cells changed -/
theorem zt_keepM {E : zt_E} {σ : zt_St} {st : List Value} {U : zt_U} (hU : zt_UR U E.2.2.2.1) (hS : zt_S E s σ ls st M) (hm : ∀ n i, zt_hit w n i = false → M'.1 n i = M.1 n i ∧ M'.2 n i = M.2 n i) (hG : zt_Gs E.1 M') (hF : zt_fr E.2.1 E.2.2.2.2.1 M') : zt_S E s (zt_keep U [] w σ) ls st M' := by
  obtain ⟨⟨g0, g1⟩, g2, g3, g4, g5, g6, g7⟩ := hS
  have hm1 : ∀ n i, zt_hit w n i = false → M'.1 n i = M.1 n i := fun n i h => (hm n i h).1
  refine ⟨⟨by simp only [zt_keep, List.length_map]; exact g0, fun k a hk => ?_⟩, zt_sts_keep (fun _ _ => rfl) hm1 _ _ g2, fun c hc => zt_cs_keep (List.mem_filter.mp hc).2 (fun _ _ => rfl) hm1 (g3 c (List.mem_filter.mp hc).1), fun f hf => zt_kF_ok hU (List.mem_filter.mp hf).2 hm (g4 f (List.mem_filter.mp hf).1), hG, hF, g7⟩
  simp only [zt_keep, List.getElem?_map, Option.map_eq_some_iff] at hk
  obtain ⟨o, h1, b, rfl, rfl⟩ := hk
  obtain ⟨v, h3, h4⟩ := g1 k b h1
  exact ⟨v, h3, zt_fA_ok (fun _ _ => rfl) hm1 h4⟩
-- a local is written
def zt_isN (a : Option (Option zt_A)) : Bool := match a with
  | some (some a) => Nat.beq a.1 0 || Nat.beq a.1 2 || Nat.beq a.1 3 || Nat.beq a.1 4
  | _ => false
def zt_ch (L : List (Option zt_A)) (i : Nat) (two : Bool) : List Nat := match i with
  | 0 => match two with
    | true => [0, 1]
    | false => [0]
  | j + 1 => match zt_isN L[j]? with
    | true => match two with
      | true => [j + 1, j + 2]
      | false => [j + 1]
    | false => match two with
      | true => [j, j + 1, j + 2]
      | false => [j, j + 1]
def zt_clr (L : List (Option zt_A)) : List Nat → List (Option zt_A)
  | [] => L
  | k :: ks => (zt_clr L ks).set k none
def zt_setl (U : zt_U) (K : List Nat) (σ : zt_St) (i : Nat) (a : zt_A) (two : Bool) : Option zt_St := match zt_ch σ.1 i two with
  | ks => match ks.any (fun k => K.any (Nat.beq k)) with
    | true => none
    | false => match zt_keep U ks [] σ with
      | τ => some ((zt_clr τ.1 ks).set i (some (zt_fA ks [] a)), τ.2)
theorem zt_clr_len : ∀ (ks : List Nat) (L : List (Option zt_A)), (zt_clr L ks).length = L.length
  | [], _ => rfl
  | k :: ks, L => by simp [zt_clr, zt_clr_len ks L]
theorem zt_clr_get : ∀ (ks : List Nat) (L : List (Option zt_A)) (k : Nat) (a : zt_A), (zt_clr L ks)[k]? = some (some a) → L[k]? = some (some a) ∧ ks.any (Nat.beq k) = false
  | [], L, k, a, h => ⟨h, rfl⟩
  | j :: ks, L, k, a, h => by
    unfold zt_clr at h
    rw [List.getElem?_set] at h
    split at h
    · split at h <;> cases h
    · next hjk =>
      obtain ⟨h1, h2⟩ := zt_clr_get ks L k a h
      refine ⟨h1, ?_⟩
      simp only [List.any_cons, h2, Bool.or_false]
      exact zt_beq_ne.mpr (fun e => hjk e.symm)
theorem zt_clr1 {ls : List (Option Value)} {i k : Nat} (h : k + 1 ≠ i) : (zm_clr ls i)[k]? = ls[k]? := by
  cases i with
  | zero => rfl
  | succ j =>
    simp only [zm_clr]
    split <;> first | rfl | (rw [List.getElem?_set_ne (by omega)])
theorem zt_clr_len' (ls : List (Option Value)) (i : Nat) : (zm_clr ls i).length = ls.length := by
  cases i with
  | zero => rfl
  | succ j =>
    simp only [zm_clr]
    split <;> simp
theorem zt_clr2 {ls : List (Option Value)} {M : zm_I} {j : Nat} {L : List (Option zt_A)} (hl : zt_lo ls M s L) (h : zt_isN L[j]? = true) : zm_clr ls (j + 1) = ls := by
  unfold zt_isN at h
  split at h
  · next a ha =>
    obtain ⟨v, h1, h2⟩ := hl.2 j a ha
    simp only [zm_clr]
    rw [h1]
    obtain ⟨k, lo, hi, sd, ms⟩ := a
    match k, h, h2 with
    | 0, _, h2 => obtain ⟨x, rfl, -⟩ := h2; rfl
    | 1, h, _ => cases h
    | 2, _, h2 => have h2 : v = .ref lo.toNat := h2; rw [h2]
    | 3, _, h2 => have h2 : v = .null := h2; rw [h2]
    | 4, _, h2 => have h2 : v = .retAddr lo.toNat := h2; rw [h2]
    | k + 5, h, _ => cases h
  · cases h
/-- what is written into a local: v, and where two is true nothing behind it -/
def zt_set (ls : List (Option Value)) (i : Nat) (v : Value) (two : Bool) : List (Option Value) := match two with
  | true => ((zm_clr ls i).set i (some v)).set (i + 1) none
  | false => (zm_clr ls i).set i (some v)
theorem zt_set_get {L : List (Option zt_A)} (hl : zt_lo ls M s L) {i : Nat} {v : Value} {two : Bool} {k : Nat} (hk : (zt_ch L i two).any (Nat.beq k) = false) : (zt_set ls i v two)[k]? = ls[k]? := by
  have hne : k ≠ i ∧ (two = true → k ≠ i + 1) ∧ (zm_clr ls i)[k]? = ls[k]? := by
    unfold zt_ch at hk
    cases i with
    | zero =>
      cases two <;> simp only [List.any_cons, List.any_nil, Bool.or_false, Bool.or_eq_false_iff, zt_beq_ne] at hk
      · exact ⟨hk, fun h => (by cases h), rfl⟩
      · exact ⟨hk.1, fun _ => hk.2, rfl⟩
    | succ j =>
      dsimp only at hk
      split at hk
      · next hN =>
        cases two <;> simp only [List.any_cons, List.any_nil, Bool.or_false, Bool.or_eq_false_iff, zt_beq_ne] at hk
        · exact ⟨hk, fun h => (by cases h), by rw [zt_clr2 hl hN]⟩
        · exact ⟨hk.1, fun _ => hk.2, by rw [zt_clr2 hl hN]⟩
      · cases two <;> simp only [List.any_cons, List.any_nil, Bool.or_false, Bool.or_eq_false_iff, zt_beq_ne] at hk
        · exact ⟨hk.2, fun h => (by cases h), zt_clr1 (by omega)⟩
        · exact ⟨hk.2.1, fun _ => hk.2.2, zt_clr1 (by omega)⟩
  unfold zt_set
  cases two
  · simp only [List.getElem?_set_ne (Ne.symm hne.1), hne.2.2]
  · simp only [List.getElem?_set_ne (Ne.symm hne.1), List.getElem?_set_ne (Ne.symm (hne.2.1 rfl)), hne.2.2]
theorem zt_ch_i (L : List (Option zt_A)) (i : Nat) (two : Bool) : (zt_ch L i two).any (Nat.beq i) = true := by
  unfold zt_ch
  cases i with
  | zero => cases two <;> rfl
  | succ j =>
    dsimp only
    split <;> cases two <;> simp
theorem zt_set_len (ls : List (Option Value)) (i : Nat) (v : Value) (two : Bool) : (zt_set ls i v two).length = ls.length := by
  unfold zt_set
  cases two <;> simp [zt_clr_len']
theorem zt_set_i {ls : List (Option Value)} {i : Nat} {v : Value} {two : Bool} (h : i < ls.length) : (zt_set ls i v two)[i]? = some (some v) := by
  unfold zt_set
  cases two
  · rw [List.getElem?_set_self (by rw [zt_clr_len']; exact h)]
  · rw [List.getElem?_set_ne (by omega), List.getElem?_set_self (by rw [zt_clr_len']; exact h)]
theorem zt_setl_ok {E : zt_E} {σ : zt_St} {st : List Value} {U : zt_U} (hU : zt_UR U E.2.2.2.1) (hS : zt_S E s σ ls st M) {i : Nat} {a : zt_A} {v : Value} {two : Bool} {τ : zt_St} (hv : zt_v ls M s a v) (hi : i < ls.length) (h : zt_setl U E.2.2.1 σ i a two = some τ) : zt_S E s τ (zt_set ls i v two) st M := by
  obtain ⟨⟨g0, g1⟩, g2, g3, g4, g5, g6, g7⟩ := hS
  unfold zt_setl at h
  have hl : ∀ k, (zt_ch σ.1 i two).any (Nat.beq k) = false → (zt_set ls i v two)[k]? = ls[k]? := fun k hk => zt_set_get ⟨g0, g1⟩ hk
  have hci := zt_ch_i σ.1 i two
  generalize zt_ch σ.1 i two = ks at h hl hci
  dsimp only at h
  split at h
  · cases h
  · next hK =>
    cases h
    have hm1 : ∀ n i, zt_hit [] n i = false → M.1 n i = M.1 n i := fun _ _ _ => rfl
    refine ⟨⟨?_, fun k b hk => ?_⟩, zt_sts_keep hl hm1 _ _ g2, fun c hc => zt_cs_keep (List.mem_filter.mp hc).2 hl hm1 (g3 c (List.mem_filter.mp hc).1), fun f hf => g4 f (List.mem_filter.mp hf).1, g5, g6, fun k hk => ?_⟩
    · rw [zt_set_len, List.length_set, zt_clr_len]
      simp only [zt_keep, List.length_map]
      exact g0
    · rw [List.getElem?_set] at hk
      split at hk
      · next hki =>
        subst hki
        split at hk
        · cases hk
          exact ⟨v, zt_set_i hi, zt_fA_ok hl hm1 hv⟩
        · cases hk
      · obtain ⟨h1, h2⟩ := zt_clr_get _ _ _ _ hk
        simp only [zt_keep, List.getElem?_map, Option.map_eq_some_iff] at h1
        obtain ⟨o, h3, b', rfl, rfl⟩ := h1
        obtain ⟨u, h5, h6⟩ := g1 k b' h3
        exact ⟨u, by rw [hl k h2]; exact h5, zt_fA_ok hl hm1 h6⟩
    · rw [← g7 k hk]
      refine hl k ?_
      rw [List.any_eq_false] at hK ⊢
      intro q hq hc
      have := Nat.eq_of_beq_eq_true hc
      subst this
      exact hK k hq (List.any_eq_true.mpr ⟨k, hk, Nat.beq_refl k⟩)
end ZTK
