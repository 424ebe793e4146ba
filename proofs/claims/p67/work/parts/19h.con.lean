/-! AN ABSTRACT RUN: it comes to an end; a contract out of it -/
/-- a rank: a number, and so many times a local each -/
abbrev zt_Q : Type := Int × List (Int × Nat)
def zt_ln (ls : List (Option Value)) (k : Nat) : Int := match ls[k]? with
  | some (some v) => (zt_num v).getD 0
  | _ => 0
def zt_sum (f : Nat → Int) : List (Int × Nat) → Int
  | [] => 0
  | (a, k) :: r => a * f k + zt_sum f r
/-- greatest, least of so many times a local -/
def zt_ub (L : List (Option zt_A)) (a : Int) (k : Nat) : Option Int := match L[k]? with
  | some (some x) => match Nat.ble x.1 1 with
    | true => match zt_le (.ofNat 0) a with
      | true => some (a * x.2.2.1)
      | false => some (a * x.2.1)
    | false => none
  | _ => none
def zt_lb (L : List (Option zt_A)) (a : Int) (k : Nat) : Option Int := match L[k]? with
  | some (some x) => match Nat.ble x.1 1 with
    | true => match zt_le (.ofNat 0) a with
      | true => some (a * x.2.1)
      | false => some (a * x.2.2.1)
    | false => none
  | _ => none
def zt_lbs (L : List (Option zt_A)) : List (Int × Nat) → Option Int
  | [] => some 0
  | (a, k) :: r => match zt_lb L a k with
    | none => none
    | some x => match zt_lbs L r with
      | none => none
      | some y => some (x + y)
/-- by how much local l is more than local k was at the start -/
def zt_dif (L : List (Option zt_A)) (l k : Nat) : Option Int := match L[l]? with
  | some (some x) => match Nat.ble x.1 1 with
    | true => match x.2.2.2.2.find? (fun nm => Nat.beq nm.1 3 && Nat.beq nm.2.1 k) with
      | some nm => some nm.2.2.2
      | none => none
    | false => none
  | _ => none
/-- an upper bound of one rank behind less one ahead -/
def zt_rkd (L L0 : List (Option zt_A)) : List (Int × Nat) → List (Int × Nat) → Option Int
  | [], r0 => match zt_lbs L0 r0 with
    | some y => some (-y)
    | none => none
  | (a, l) :: r, [] => match zt_ub L a l with
    | none => none
    | some x => match zt_rkd L L0 r [] with
      | none => none
      | some y => some (x + y)
  | (a, l) :: r, (b, k) :: r0 => match (match zt_eq a b with
      | true => zt_dif L l k
      | false => none) with
    | some d => match zt_rkd L L0 r r0 with
      | none => none
      | some y => some (a * d + y)
    | none => match zt_ub L a l with
      | none => none
      | some x => match zt_lb L0 b k with
        | none => none
        | some x0 => match zt_rkd L L0 r r0 with
          | none => none
          | some y => some (x - x0 + y)
section ZTQ
variable {ls : List (Option Value)} {M : zm_I} {s : Nat → Int}
theorem zt_ln_ok {L : List (Option zt_A)} (hl : zt_lo ls M s L) {k : Nat} {x : zt_A} (hx : L[k]? = some (some x)) (hk : Nat.ble x.1 1 = true) : zt_rg x (zt_ln ls k) ∧ zt_nms ls M s x.2.2.2.2 (zt_ln ls k) := by
  obtain ⟨v, h1, h2⟩ := hl.2 k x hx
  obtain ⟨z, h3, h4, h5⟩ := zt_v_num h2 hk
  have e : zt_ln ls k = z := by
    unfold zt_ln
    rw [h1]
    dsimp only
    rw [h3]
    rfl
  rw [e]
  exact ⟨h4, h5⟩
theorem zt_ub_ok {L : List (Option zt_A)} (hl : zt_lo ls M s L) {a x : Int} {k : Nat} (h : zt_ub L a k = some x) : a * zt_ln ls k ≤ x := by
  unfold zt_ub at h
  split at h
  · next y hy =>
    split at h
    · next hk =>
      obtain ⟨⟨h1, h2, -⟩, -⟩ := zt_ln_ok hl hy hk
      split at h
      · next ha => cases h; exact Int.mul_le_mul_of_nonneg_left h2 (zt_le_ok.mp ha)
      · next ha =>
        cases h
        have ha := zt_le_no ha
        have ha : a < 0 := ha
        exact Int.mul_le_mul_of_nonpos_left (by omega) h1
    · cases h
  · cases h
theorem zt_lb_ok {L : List (Option zt_A)} (hl : zt_lo ls M s L) {a x : Int} {k : Nat} (h : zt_lb L a k = some x) : x ≤ a * zt_ln ls k := by
  unfold zt_lb at h
  split at h
  · next y hy =>
    split at h
    · next hk =>
      obtain ⟨⟨h1, h2, -⟩, -⟩ := zt_ln_ok hl hy hk
      split at h
      · next ha => cases h; exact Int.mul_le_mul_of_nonneg_left h1 (zt_le_ok.mp ha)
      · next ha =>
        cases h
        have ha := zt_le_no ha
        have ha : a < 0 := ha
        exact Int.mul_le_mul_of_nonpos_left (by omega) h2
    · cases h
  · cases h
theorem zt_lbs_ok {L : List (Option zt_A)} (hl : zt_lo ls M s L) : ∀ (r : List (Int × Nat)) (x : Int), zt_lbs L r = some x → x ≤ zt_sum (zt_ln ls) r
  | [], x, h => by cases h; exact Int.le_refl _
  | (a, k) :: r, x, h => by
    unfold zt_lbs at h
    split at h
    · cases h
    · next y hy =>
      split at h
      · cases h
      · next z hz =>
        cases h
        have h1 := zt_lb_ok hl hy
        have h2 := zt_lbs_ok hl r z hz
        show y + z ≤ a * zt_ln ls k + zt_sum (zt_ln ls) r
        omega
theorem zt_rkd_ok {ls0 : List (Option Value)} {M0 : zm_I} {s0 : Nat → Int} {L L0 : List (Option zt_A)} (hl : zt_lo ls M s L) (hl0 : zt_lo ls0 M0 s0 L0) (hs : s = zt_ln ls0) : ∀ (r r0 : List (Int × Nat)) (x : Int), zt_rkd L L0 r r0 = some x → zt_sum (zt_ln ls) r - zt_sum (zt_ln ls0) r0 ≤ x
  | [], r0, x, h => by
    unfold zt_rkd at h
    split at h
    · next y hy =>
      cases h
      have := zt_lbs_ok hl0 r0 y hy
      show 0 - zt_sum (zt_ln ls0) r0 ≤ -y
      omega
    · cases h
  | (a, l) :: r, [], x, h => by
    unfold zt_rkd at h
    split at h
    · cases h
    · next y hy =>
      split at h
      · cases h
      · next z hz =>
        cases h
        have h1 := zt_ub_ok hl hy
        have h2 := zt_rkd_ok hl hl0 hs r [] z hz
        have e : zt_sum (zt_ln ls0) [] = 0 := rfl
        rw [e] at h2 ⊢
        show a * zt_ln ls l + zt_sum (zt_ln ls) r - 0 ≤ y + z
        omega
  | (a, l) :: r, (b, k) :: r0, x, h => by
    have e1 : zt_sum (zt_ln ls) ((a, l) :: r) = a * zt_ln ls l + zt_sum (zt_ln ls) r := rfl
    have e2 : zt_sum (zt_ln ls0) ((b, k) :: r0) = b * zt_ln ls0 k + zt_sum (zt_ln ls0) r0 := rfl
    rw [e1, e2]
    unfold zt_rkd at h
    split at h
    · next d hd =>
      split at h
      · cases h
      · next z hz =>
        cases h
        have h2 := zt_rkd_ok hl hl0 hs r r0 z hz
        split at hd
        · next hab =>
          have hab := zt_eq_ok.mp hab
          subst hab
          unfold zt_dif at hd
          split at hd
          · next y hy =>
            split at hd
            · next hk =>
              split at hd
              · next nm hnm =>
                cases hd
                obtain ⟨-, h3⟩ := zt_ln_ok hl hy hk
                have h4 := h3 nm (List.mem_of_find?_eq_some hnm)
                have h5 := List.find?_some hnm
                simp only [Bool.and_eq_true] at h5
                obtain ⟨t, p, q, d⟩ := nm
                have ht : t = 3 := Nat.eq_of_beq_eq_true h5.1
                subst ht
                have hp : p = k := Nat.eq_of_beq_eq_true h5.2
                subst hp
                have h4 : zt_ln ls l = s p + d := h4
                rw [hs] at h4
                dsimp only
                rw [h4, Int.mul_add]
                omega
              · cases hd
            · cases hd
          · cases hd
        · cases hd
    · split at h
      · cases h
      · next y hy =>
        split at h
        · cases h
        · next y0 hy0 =>
          split at h
          · cases h
          · next z hz =>
            cases h
            have h1 := zt_ub_ok hl hy
            have h0 := zt_lb_ok hl0 hy0
            have h2 := zt_rkd_ok hl hl0 hs r r0 z hz
            omega
end ZTQ
/-- at a start every local bears its own name -/
def zt_sta : Nat → List (Option zt_A) → List (Option zt_A)
  | _, [] => []
  | k, none :: r => none :: zt_sta (k + 1) r
  | k, some a :: r => match Nat.ble a.1 1 with
    | true => some (zt_nn a ((3, k, 0, .ofNat 0) :: a.2.2.2.2)) :: zt_sta (k + 1) r
    | false => some a :: zt_sta (k + 1) r
/-- no names of starts -/
def zt_no3 (a : zt_A) : Bool := a.2.2.2.2.all (fun nm => Nat.ble nm.1 2)
def zt_no3s (σ : zt_St) : Bool := σ.1.all (fun o => match o with
  | some a => zt_no3 a
  | none => true) && σ.2.1.all zt_no3
abbrev zt_An : Type := List (Nat × List (zt_St × zt_Q))
def zt_pad : Nat → List (Option zt_A) → List (Option zt_A)
  | 0, _ => []
  | n + 1, [] => none :: zt_pad n []
  | n + 1, v :: r => v :: zt_pad n r
def zt_edge (A : zt_An) (σ0 : zt_St) (q0 : zt_Q) (q : Nat × zt_St) : Bool := match zm_look A q.1 with
  | none => false
  | some zs => zs.any (fun z => zt_wi q.2 z.1 && (match zt_rkd q.2.1 σ0.1 z.2.2 q0.2 with
    | some d => zt_le (z.2.1 - q0.1 + d + 1) (.ofNat 0)
    | none => false))
def zt_head (H : zt_H) (P : zt_P) (fuel : Nat) (A : zt_An) (pc : Nat) (z : zt_St × zt_Q) : Bool := zt_no3s z.1 && (match zt_lbs z.1.1 z.2.2 with
  | some x => zt_le (.ofNat 0) (z.2.1 + x)
  | none => false) && (match zt_exp H P fuel pc (zt_sta 0 z.1.1, z.1.2) with
  | some J => J.all (zt_edge A z.1 z.2)
  | none => false)
def zt_chk (H : zt_H) (P : zt_P) (fuel : Nat) (A : zt_An) (nL : Nat) (K : zt_K) : Bool := Nat.ble (zt_sl K.2.2.1.1).length nL && K.2.2.1.1.all (fun a => a.2.2.2.2.isEmpty) && (match zm_look A 0 with
  | some zs => zs.any (fun z => zt_wi (zt_pad nL (zt_sl K.2.2.1.1), [], K.2.2.1.2.1, K.2.2.1.2.2) z.1)
  | none => false) && A.all (fun h => h.2.all (zt_head H P fuel A h.1))
section ZTW
variable {E : zt_E} {s s' : Nat → Int} {ls : List (Option Value)} {st : List Value} {M : zm_I} {σ : zt_St} {Om : zt_Om} {H : zt_H} {T : zm_T} {wl : zm_L} {as : List Value}
theorem zt_is_s {nm : zt_N} {z : Int} (h : Nat.ble nm.1 2 = true) (hi : zt_is ls M s nm z) : zt_is ls M s' nm z := by
  obtain ⟨t, a, b, d⟩ := nm
  match t, h, hi with
  | 0, _, hi => exact hi
  | 1, _, hi => exact hi
  | 2, _, hi => exact hi
  | t + 3, h, _ => cases h
theorem zt_no3_ok {a : zt_A} {v : Value} (h : zt_no3 a = true) (hv : zt_v ls M s a v) : zt_v ls M s' a v :=
  zt_v_nn (ns := a.2.2.2.2) hv (fun z hz nm hnm => zt_is_s (List.all_eq_true.mp h nm hnm) (hz nm hnm))
theorem zt_no3_st : ∀ (xs : List zt_A) (vs : List Value), xs.all zt_no3 = true → zt_sts ls M s xs vs → zt_sts ls M s' xs vs
  | [], [], _, _ => trivial
  | x :: xs, v :: vs, h, hv => by
    simp only [List.all_cons, Bool.and_eq_true] at h
    exact ⟨zt_no3_ok h.1 hv.1, zt_no3_st xs vs h.2 hv.2⟩
  | [], _ :: _, _, h => h.elim
  | _ :: _, [], _, h => h.elim
theorem zt_sta_len : ∀ (L : List (Option zt_A)) (k : Nat), (zt_sta k L).length = L.length
  | [], _ => rfl
  | none :: r, k => by simp [zt_sta, zt_sta_len r (k + 1)]
  | some a :: r, k => by
    unfold zt_sta
    split <;> simp [zt_sta_len r (k + 1)]
theorem zt_sta_get : ∀ (L : List (Option zt_A)) (k j : Nat) (b : zt_A), (zt_sta k L)[j]? = some (some b) → ∃ a, L[j]? = some (some a) ∧ (b = a ∨ (Nat.ble a.1 1 = true ∧ b = zt_nn a ((3, k + j, 0, .ofNat 0) :: a.2.2.2.2)))
  | [], k, j, b, h => by simp [zt_sta] at h
  | none :: r, k, 0, b, h => by simp [zt_sta] at h
  | none :: r, k, j + 1, b, h => by
    obtain ⟨a, h1, h2⟩ := zt_sta_get r (k + 1) j b (by simpa [zt_sta] using h)
    refine ⟨a, by simpa using h1, ?_⟩
    rw [show k + 1 + j = k + (j + 1) by omega] at h2
    exact h2
  | some c :: r, k, 0, b, h => by
    unfold zt_sta at h
    split at h
    · next hk => cases h; exact ⟨c, rfl, Or.inr ⟨hk, rfl⟩⟩
    · cases h; exact ⟨c, rfl, Or.inl rfl⟩
  | some c :: r, k, j + 1, b, h => by
    have h' : (zt_sta (k + 1) r)[j]? = some (some b) := by
      unfold zt_sta at h
      split at h <;> simpa using h
    obtain ⟨a, h1, h2⟩ := zt_sta_get r (k + 1) j b h'
    refine ⟨a, by simpa using h1, ?_⟩
    rw [show k + 1 + j = k + (j + 1) by omega] at h2
    exact h2
theorem zt_start (h3 : zt_no3s σ = true) (hS : zt_S E s σ ls st M) : zt_S E (zt_ln ls) (zt_sta 0 σ.1, σ.2) ls st M := by
  simp only [zt_no3s, Bool.and_eq_true] at h3
  obtain ⟨⟨g0, g1⟩, g2, g3⟩ := hS
  refine ⟨⟨by rw [zt_sta_len]; exact g0, fun j b hj => ?_⟩, zt_no3_st _ _ h3.2 g2, g3⟩
  obtain ⟨a, h1, h2⟩ := zt_sta_get _ _ _ _ hj
  obtain ⟨v, h4, h5⟩ := g1 j a h1
  have h6 : zt_no3 a = true := List.all_eq_true.mp h3.1 (some a) (List.mem_of_getElem? h1)
  have h7 : zt_v ls M (zt_ln ls) a v := zt_no3_ok h6 h5
  refine ⟨v, h4, ?_⟩
  rcases h2 with rfl | ⟨hk, rfl⟩
  · exact h7
  · obtain ⟨z, e1, e2, e3⟩ := zt_v_num h7 hk
    have ez : zt_ln ls j = z := by
      unfold zt_ln
      rw [h4]
      dsimp only
      rw [e1]
      rfl
    have key : zt_nms ls M (zt_ln ls) ((3, 0 + j, 0, Int.ofNat 0) :: a.2.2.2.2) z := by
      intro nm hnm
      rcases List.mem_cons.mp hnm with rfl | hnm
      · show z = zt_ln ls (0 + j) + 0
        rw [Nat.zero_add, ez]
        omega
      · exact e3 nm hnm
    obtain ⟨kd, lo, hi, sd, ms⟩ := a
    match kd, h7, hk with
    | 0, h7, _ => obtain ⟨x, rfl, q1, q2⟩ := h7; cases e1; exact ⟨x, rfl, q1, key⟩
    | 1, h7, _ => obtain ⟨x, rfl, q1, q2⟩ := h7; cases e1; exact ⟨x, rfl, q1, key⟩
    | kd + 2, _, hk => cases hk
theorem zt_heads (hH : zt_fits Om H E T wl as) {P : zt_P} (hP : P.1 = T.1) {fuel : Nat} {A : zt_An} (hA : A.all (fun h => h.2.all (zt_head H P fuel A h.1)) = true) : ∀ (n pc : Nat) (zs : List (zt_St × zt_Q)) (z : zt_St × zt_Q), zm_look A pc = some zs → z ∈ zs → ∀ (s : Nat → Int) (ls : List (Option Value)) (st : List Value) (M : zm_I), zt_S E s z.1 ls st M → (z.2.1 + zt_sum (zt_ln ls) z.2.2).toNat < n → ∃ v N, zm_V T wl (pc, ls, st, M) = some (v, N) ∧ zt_post E as H.2.2.2.1.2.1 v N
  | 0, _, _, _, _, _, _, _, _, _, _, h => by omega
  | n + 1, pc, zs, z, hzs, hz, s, ls, st, M, hS, hn => by
    have h1 := List.all_eq_true.mp (List.all_eq_true.mp hA _ (zm_look_mem hzs)) z hz
    simp only [zt_head, Bool.and_eq_true] at h1
    obtain ⟨⟨h2, h3⟩, h4⟩ := h1
    have hS0 := zt_start h2 hS
    split at h4
    · next J hJ =>
      rcases zt_exp_ok hH hP fuel pc _ J hJ ls st M hS0 with ⟨q, g1, ls', st', M', g2, g3⟩ | ⟨v, N, g1, g2⟩
      · have h5 := List.all_eq_true.mp h4 q g1
        unfold zt_edge at h5
        split at h5
        · cases h5
        · next zs' hzs' =>
          obtain ⟨z', h6, h7⟩ := List.any_eq_true.mp h5
          simp only [Bool.and_eq_true] at h7
          have h8 := h7.2
          split at h8
          · next d hd =>
            have h8 := zt_le_ok.mp h8
            have h8 : z'.2.1 - z.2.1 + d + 1 ≤ 0 := h8
            have h9 := zt_rkd_ok g3.1 hS.1 rfl _ _ d hd
            have hS' := zt_wi_ok h7.1 g3
            have hz' := List.all_eq_true.mp (List.all_eq_true.mp hA _ (zm_look_mem hzs')) z' h6
            simp only [zt_head, Bool.and_eq_true] at hz'
            have h10 := hz'.1.2
            split at h10
            · next x hx =>
              have h10 : 0 ≤ z'.2.1 + x := zt_le_ok.mp h10
              have h11 := zt_lbs_ok hS'.1 _ x hx
              rw [g2]
              exact zt_heads hH hP hA n q.1 zs' z' hzs' h6 _ ls' st' M' hS' (by omega)
            · cases h10
          · cases h8
      · exact ⟨v, N, g1, g2⟩
    · cases h4
end ZTW
theorem zt_pad_len : ∀ (n : Nat) (L : List (Option zt_A)), (zt_pad n L).length = n
  | 0, _ => rfl
  | n + 1, [] => by simp [zt_pad, zt_pad_len n]
  | n + 1, _ :: _ => by simp [zt_pad, zt_pad_len n]
theorem zt_pad_get : ∀ (n : Nat) (L : List (Option zt_A)) (k : Nat) (a : zt_A), (zt_pad n L)[k]? = some (some a) → L[k]? = some (some a)
  | 0, _, k, v, h => by simp [zt_pad] at h
  | n + 1, [], 0, v, h => by simp [zt_pad] at h
  | n + 1, [], k + 1, v, h => by
    have := zt_pad_get n [] k v (by simpa [zt_pad] using h)
    simp at this
  | n + 1, o :: ls, 0, v, h => by simpa [zt_pad] using h
  | n + 1, o :: ls, k + 1, v, h => by
    have := zt_pad_get n ls k v (by simpa [zt_pad] using h)
    simpa using this
theorem zt_pad_to : ∀ (n : Nat) (ls : List (Option Value)) (k : Nat) (v : Value), ls.length ≤ n → ls[k]? = some (some v) → (zm_pad n ls)[k]? = some (some v)
  | 0, [], k, v, _, h => by simp at h
  | 0, _ :: _, _, _, h, _ => by simp at h
  | n + 1, [], k, v, _, h => by simp at h
  | n + 1, o :: ls, 0, v, _, h => by simpa [zm_pad] using h
  | n + 1, o :: ls, k + 1, v, hl, h => by
    have := zt_pad_to n ls k v (by simpa using hl) (by simpa using h)
    simpa [zm_pad] using this
theorem zt_sl_len {ls : List (Option Value)} {M : zm_I} {s : Nat → Int} : ∀ (xs : List zt_A) (vs : List Value), zt_sts ls M s xs vs → (zm_sl vs).length = (zt_sl xs).length
  | [], [], _ => rfl
  | a :: xs, v :: vs, h => by
    have ih := zt_sl_len xs vs h.2
    have hb := h.1
    unfold zt_sl
    split
    · next hl =>
      obtain ⟨x, rfl, -⟩ := zt_isL_ok hb hl
      simp [zm_sl, ih]
    · next hl =>
      have hs : zm_sl (v :: vs) = some v :: zm_sl vs := by
        obtain ⟨kb, lo, hi, sd, ms⟩ := a
        match kb, hl, hb with
        | 0, _, hb => obtain ⟨x, rfl, -⟩ := hb; rfl
        | 1, hl, _ => cases hl
        | 2, _, hb => have hb : v = .ref lo.toNat := hb; subst hb; rfl
        | 3, _, hb => have hb : v = .null := hb; subst hb; rfl
        | 4, _, hb => have hb : v = .retAddr lo.toNat := hb; subst hb; rfl
        | 5, hl, _ => cases hl
        | kb + 6, _, hb => exact hb.elim
      rw [hs]
      simp [ih]
  | [], _ :: _, h => h.elim
  | _ :: _, [], h => h.elim
theorem zt_v_no {ls ls' : List (Option Value)} {M M' : zm_I} {s s' : Nat → Int} {a : zt_A} {v : Value} (h : a.2.2.2.2.isEmpty = true) (hv : zt_v ls M s a v) : zt_v ls' M' s' a v := by
  have e : a.2.2.2.2 = [] := List.isEmpty_iff.mp h
  exact zt_v_nn (ns := a.2.2.2.2) hv (fun z _ => by rw [e]; exact zt_nms_nil z)
/-- A METHOD: where its abstract run is right, it keeps its contract -/
theorem zt_con {Om : zt_Om} {Rel : Nat → zm_I → Prop} {U : zt_U} {T : zm_T} {nL : Nat} {K : zt_K} {w0 : zm_L} {Sg : zt_Sg} {G : zt_G} {Kl : List Nat} {Ks : List (Nat × List zt_K)} {sp : List (Nat × List (Nat × Nat × Nat))} {hd : List Nat} {fuel : Nat} {A : zt_An} {B : List (Nat × List (Instr × Nat × Nat))} {cs : List (Nat × Value)} {ret : Option FieldType}
    (hU : zt_UR U Rel) (hOm : Om[K.2.1]? = some (w0, G)) (hSg : Sg.all (zt_sbB Om) = true) (hB : B = T.1) (hcs : cs = T.2.1) (hret : ret = T.2.2.2.1) (hKs : ∀ (idx : Nat) (ks : List zt_K), zm_look Ks idx = some ks → ∃ C, zm_look T.2.2.1 idx = some C ∧ ∀ K ∈ ks, K.1 = (C.1, C.2.1, C.2.2.1, C.2.2.2.1) ∧ zt_Con Om Rel K C.2.2.2.2)
    (h : zt_chk ((w0, K.2.1, Sg), (G, K.2.2.2.1, Kl, U), cs, (ret, K.2.2.2.2, K.2.2.1.1), Ks) (B, sp, hd) fuel A nL K = true) : zt_Con Om Rel K (zm_F zm_V T nL) := by
  intro w0' G' hOm' wl as M hw hA hC hF hG
  rw [hOm] at hOm'
  cases hOm'
  simp only [zt_chk, Bool.and_eq_true, Nat.ble_eq] at h
  obtain ⟨⟨⟨h1, h0⟩, h2⟩, h3⟩ := h
  have hlen := zt_sl_len _ _ hA
  have hle : (zm_sl as).length ≤ nL := by rw [hlen]; exact h1
  have hfit : zt_fits Om ((w0, K.2.1, Sg), (G, K.2.2.2.1, Kl, U), cs, (ret, K.2.2.2.2, K.2.2.1.1), Ks) (G, K.2.2.2.1, Kl, Rel, M, zm_pad nL (zm_sl as)) T wl as := ⟨⟨hw, hOm, hSg⟩, ⟨rfl, rfl, rfl, hU⟩, hcs, ⟨hret, hA, fun k v hk => zt_pad_to nL _ k v hle hk⟩, hKs⟩
  split at h2
  · next zs hzs =>
    obtain ⟨z, h4, h5⟩ := List.any_eq_true.mp h2
    have hS : zt_S (G, K.2.2.2.1, Kl, Rel, M, zm_pad nL (zm_sl as)) (fun _ => 0) (zt_pad nL (zt_sl K.2.2.1.1), [], K.2.2.1.2.1, K.2.2.1.2.2) (zm_pad nL (zm_sl as)) [] M := by
      refine ⟨⟨by rw [zm_pad_len, zt_pad_len], fun k a hk => ?_⟩, trivial, fun c hc => ?_, hF, hG, fun _ _ _ => ⟨rfl, rfl⟩, fun _ _ => rfl⟩
      · have hk := zt_pad_get _ _ _ _ hk
        obtain ⟨v, g1, g2⟩ := zt_sl_ok _ _ k a hA hk
        refine ⟨v, zt_pad_to nL _ k v hle g1, zt_v_no ?_ g2⟩
        have : ∀ (xs : List zt_A) (j : Nat), xs.all (fun a => a.2.2.2.2.isEmpty) = true → (zt_sl xs)[j]? = some (some a) → a.2.2.2.2.isEmpty = true := by
          intro xs
          induction xs with
          | nil => intro j _ h; simp [zt_sl] at h
          | cons b xs ih =>
            intro j hall h
            simp only [List.all_cons, Bool.and_eq_true] at hall
            unfold zt_sl at h
            split at h
            · match j, h with
              | 0, h => cases h; exact hall.1
              | 1, h => cases h
              | j + 2, h => exact ih j hall.2 h
            · match j, h with
              | 0, h => cases h; exact hall.1
              | j + 1, h => exact ih j hall.2 h
        exact this _ k h0 hk
      · have h6 := hC c hc
        obtain ⟨⟨t, a, b⟩, lo, hi⟩ := c
        by_cases ht : t = 1
        · subst ht
          exact h6
        · rw [zt_cs_ne (c := ((t, a, b), lo, hi)) ht] at h6 ⊢
          obtain ⟨y, g1, g2⟩ := h6
          exact ⟨y, zt_pad_to nL _ _ _ hle g1, g2⟩
    have hS1 := zt_wi_ok h5 hS
    obtain ⟨v, N, g1, g2, g3, g4⟩ := zt_heads hfit hB h3 _ 0 zs z hzs h4 _ _ _ _ hS1 (Nat.lt_succ_self _)
    refine ⟨v, N, ?_, g2, g3, g4⟩
    unfold zm_F
    rw [Nat.ble_eq.mpr hle]
    exact g1
  · cases h2
