/-! AN ABSTRACT RUN: the instructions -/
abbrev zt_R : Type := Option (List zt_St × List (Nat × zt_St))
def zt_dn (E : zt_E) (s : Nat → Int) (Post : Option Value → zm_I → Prop) (k : zm_S → zm_R) (kn : zm_N) (R : List zt_St × List (Nat × zt_St)) (x : zm_R) : Prop :=
  (∃ τ ∈ R.1, ∃ ls st M, x = kn ls st M ∧ zt_S E s τ ls st M) ∨ (∃ q ∈ R.2, ∃ ls st M, x = k (q.1, ls, st, M) ∧ zt_S E s q.2 ls st M) ∨ (∃ v N, x = some (v, N) ∧ Post v N)
def zt_r1 (o : Option zt_St) : zt_R := match o with
  | some τ => some ([τ], [])
  | none => none
def zt_pu (a : zt_A) (σ : zt_St) : zt_R := some ([(σ.1, a :: σ.2.1, σ.2.2)], [])
def zt_pop (σ : zt_St) : zt_St := (σ.1, σ.2.1.tail, σ.2.2)
def zt_sh (d : Int) (ns : List zt_N) : List zt_N := ns.map (fun nm => (nm.1, nm.2.1, nm.2.2.1, nm.2.2.2 + d))
def zt_cst (a : zt_A) : Bool := zt_eq a.2.1 a.2.2.1
section ZTI
variable {E : zt_E} {s : Nat → Int} {ls : List (Option Value)} {st : List Value} {M : zm_I} {Post : Option Value → zm_I → Prop} {k : zm_S → zm_R} {kn : zm_N} {σ : zt_St} {R : List zt_St × List (Nat × zt_St)}
theorem zt_dn1 {x : zm_R} {τ : zt_St} {ls' : List (Option Value)} {st' : List Value} {M' : zm_I} (h : x = kn ls' st' M') (hS : zt_S E s τ ls' st' M') : zt_dn E s Post k kn ([τ], []) x := Or.inl ⟨τ, List.mem_cons_self, ls', st', M', h, hS⟩
theorem zt_push (hS : zt_S E s σ ls st M) {a : zt_A} {v : Value} (hv : zt_v ls M s a v) : zt_S E s (σ.1, a :: σ.2.1, σ.2.2) ls (v :: st) M := ⟨hS.1, ⟨hv, hS.2.1⟩, hS.2.2⟩
theorem zt_top1 {a : zt_A} {r : List zt_A} (hS : zt_S E s σ ls st M) (h : σ.2.1 = a :: r) : ∃ v t, st = v :: t ∧ zt_v ls M s a v ∧ zt_S E s (σ.1, r, σ.2.2) ls t M := by
  obtain ⟨g1, g2, g3⟩ := hS
  rw [h] at g2
  cases st with
  | nil => exact g2.elim
  | cons v t => exact ⟨v, t, rfl, g2.1, g1, g2.2, g3⟩
theorem zt_pu_ok {a : zt_A} {v : Value} {x : zm_R} (hS : zt_S E s σ ls st M) (hv : zt_v ls M s a v) (hx : x = kn ls (v :: st) M) (h : zt_pu a σ = some R) : zt_dn E s Post k kn R x := by
  cases h
  exact zt_dn1 hx (zt_push hS hv)
theorem zt_sh_ok {ns : List zt_N} {z d : Int} (h : zt_nms ls M s ns z) : zt_nms ls M s (zt_sh d ns) (z + d) := by
  intro nm hnm
  obtain ⟨⟨t, a, b, e⟩, h1, rfl⟩ := List.mem_map.mp hnm
  have := h _ h1
  match t, this with
  | 0, this => obtain ⟨w, y, h1, h2, h3⟩ := this; exact ⟨w, y, h1, h2, by dsimp only at h3 ⊢; omega⟩
  | 1, this => have this : z = (M.1 a b).toInt + e := this; show z + d = (M.1 a b).toInt + (e + d); omega
  | 2, this => obtain ⟨y, h1, h2⟩ := this; exact ⟨y, h1, by dsimp only at h2 ⊢; omega⟩
  | t + 3, this => have this : z = s a + e := this; show z + d = s a + (e + d); omega
-- loads
def zt_ld (ct i : Nat) (σ : zt_St) : zt_R := match σ.1[i]? with
  | some (some a) => match a.1 with
    | 0 => match Nat.beq ct 0 with
      | true => zt_pu (zt_nn a ((0, i, 0, .ofNat 0) :: a.2.2.2.2)) σ
      | false => none
    | 1 => match Nat.beq ct 1 with
      | true => zt_pu (zt_nn a ((0, i, 0, .ofNat 0) :: a.2.2.2.2)) σ
      | false => none
    | 5 => match Nat.beq ct 1 with
      | true => zt_pu (zt_nn a ((0, i, 0, .ofNat 0) :: a.2.2.2.2)) σ
      | false => none
    | 2 => match Nat.beq ct 2 with
      | true => zt_pu a σ
      | false => none
    | 3 => match Nat.beq ct 2 with
      | true => zt_pu a σ
      | false => none
    | 4 => match Nat.beq ct 2 with
      | true => zt_pu a σ
      | false => none
    | _ => none
  | _ => none
theorem zt_ld_nm {a : zt_A} {v : Value} {i : Nat} (h1 : ls[i]? = some (some v)) (h2 : zt_v ls M s a v) : zt_v ls M s (zt_nn a ((0, i, 0, .ofNat 0) :: a.2.2.2.2)) v := by
  obtain ⟨kd, lo, hi, sd, ms⟩ := a
  have key : ∀ z, zt_num v = some z → zt_nms ls M s ms z → zt_nms ls M s ((0, i, 0, .ofNat 0) :: ms) z := by
    intro z hz hms nm hnm
    rcases List.mem_cons.mp hnm with rfl | hnm
    · exact ⟨v, z, h1, hz, (Int.add_zero z).symm⟩
    · exact hms nm hnm
  match kd, h2 with
  | 0, h2 => obtain ⟨x, rfl, g1, g2⟩ := h2; exact ⟨x, rfl, g1, key _ rfl g2⟩
  | 1, h2 => obtain ⟨x, rfl, g1, g2⟩ := h2; exact ⟨x, rfl, g1, key _ rfl g2⟩
  | 2, h2 => exact h2
  | 3, h2 => exact h2
  | 4, h2 => exact h2
  | 5, h2 => obtain ⟨x, rfl, g1, g2⟩ := h2; exact ⟨x, rfl, g1, key _ rfl g2⟩
  | kd + 6, h2 => exact h2.elim
theorem zt_ld_ok {ct i : Nat} (hS : zt_S E s σ ls st M) (h : zt_ld ct i σ = some R) : zt_dn E s Post k kn R (zm_ld kn ct i ls st M) := by
  unfold zt_ld at h
  split at h
  · next a ha =>
    obtain ⟨v, h1, h2⟩ := hS.1.2 i a ha
    have h3 := zt_ld_nm h1 h2
    unfold zm_ld
    rw [h1]
    split at h
    · next hk =>
      split at h
      · next hc =>
        obtain ⟨x, rfl, -⟩ := zt_v_int h2 hk
        exact zt_pu_ok hS h3 (by simp only [hc]) h
      · cases h
    · next hk =>
      split at h
      · next hc =>
        obtain ⟨x, rfl, -⟩ := zt_v_long h2 hk
        exact zt_pu_ok hS h3 (by simp only [hc]) h
      · cases h
    · next hk =>
      split at h
      · next hc =>
        obtain ⟨x, rfl, -⟩ := zt_v_nz h2 hk
        exact zt_pu_ok hS h3 (by simp only [hc]) h
      · cases h
    · next hk =>
      split at h
      · next hc =>
        have e := zt_v_ref h2 hk
        subst e
        exact zt_pu_ok hS h2 (by simp only [hc]) h
      · cases h
    · next hk =>
      split at h
      · next hc =>
        have e := zt_v_nul h2 hk
        subst e
        exact zt_pu_ok hS h2 (by simp only [hc]) h
      · cases h
    · next hk =>
      split at h
      · next hc =>
        have e := zt_v_txt h2 hk
        subst e
        exact zt_pu_ok hS h2 (by simp only [hc]) h
      · cases h
    · cases h
  · cases h
-- stores
def zt_st (U : zt_U) (K : List Nat) (ct i : Nat) (σ : zt_St) : zt_R := match σ.2.1 with
  | a :: r => match a.1 with
    | 0 => match Nat.beq ct 0 && Nat.ble (i + 1) σ.1.length with
      | true => zt_r1 (zt_setl U K (σ.1, r, σ.2.2) i a false)
      | false => none
    | 1 => match Nat.beq ct 1 && Nat.ble (i + 2) σ.1.length with
      | true => zt_r1 (zt_setl U K (σ.1, r, σ.2.2) i a true)
      | false => none
    | 5 => match Nat.beq ct 1 && Nat.ble (i + 2) σ.1.length with
      | true => zt_r1 (zt_setl U K (σ.1, r, σ.2.2) i a true)
      | false => none
    | 2 => match Nat.beq ct 2 && Nat.ble (i + 1) σ.1.length with
      | true => zt_r1 (zt_setl U K (σ.1, r, σ.2.2) i a false)
      | false => none
    | 3 => match Nat.beq ct 2 && Nat.ble (i + 1) σ.1.length with
      | true => zt_r1 (zt_setl U K (σ.1, r, σ.2.2) i a false)
      | false => none
    | _ => none
  | [] => none
theorem zt_r1_ok {o : Option zt_St} {x : zm_R} {ls' : List (Option Value)} {st' : List Value} {M' : zm_I} (h : zt_r1 o = some R) (hx : x = kn ls' st' M') (hS : ∀ τ, o = some τ → zt_S E s τ ls' st' M') : zt_dn E s Post k kn R x := by
  cases o with
  | some τ =>
    cases h
    exact zt_dn1 hx (hS τ rfl)
  | none => cases h
theorem zt_st_ok {U : zt_U} (hU : zt_UR U E.2.2.2.1) {ct i : Nat} (hS : zt_S E s σ ls st M) (h : zt_st U E.2.2.1 ct i σ = some R) : zt_dn E s Post k kn R (zm_st kn ct i ls st M) := by
  unfold zt_st at h
  split at h
  · next a r hr =>
    obtain ⟨v, t, rfl, hv, hS'⟩ := zt_top1 hS hr
    have hlen : ls.length = σ.1.length := hS.1.1
    unfold zm_st
    split at h
    · next hk =>
      split at h
      · next hc =>
        obtain ⟨x, rfl, -⟩ := zt_v_int hv hk
        have hc' := hc
        rw [← hlen] at hc
        simp only [Bool.and_eq_true, Nat.ble_eq] at hc'
        refine zt_r1_ok h (ls' := zt_set ls i (.int x) false) (st' := t) (M' := M) (by simp only [hc]; rfl) (fun τ hτ => zt_setl_ok hU hS' hv (by omega) hτ)
      · cases h
    · next hk =>
      split at h
      · next hc =>
        obtain ⟨x, rfl, -⟩ := zt_v_long hv hk
        have hc' := hc
        rw [← hlen] at hc
        simp only [Bool.and_eq_true, Nat.ble_eq] at hc'
        refine zt_r1_ok h (ls' := zt_set ls i (.long x) true) (st' := t) (M' := M) (by simp only [hc]; rfl) (fun τ hτ => zt_setl_ok hU hS' hv (by omega) hτ)
      · cases h
    · next hk =>
      split at h
      · next hc =>
        obtain ⟨x, rfl, -⟩ := zt_v_nz hv hk
        have hc' := hc
        rw [← hlen] at hc
        simp only [Bool.and_eq_true, Nat.ble_eq] at hc'
        refine zt_r1_ok h (ls' := zt_set ls i (.long x) true) (st' := t) (M' := M) (by simp only [hc]; rfl) (fun τ hτ => zt_setl_ok hU hS' hv (by omega) hτ)
      · cases h
    · next hk =>
      split at h
      · next hc =>
        have e := zt_v_ref hv hk
        subst e
        have hc' := hc
        rw [← hlen] at hc
        simp only [Bool.and_eq_true, Nat.ble_eq] at hc'
        refine zt_r1_ok h (ls' := zt_set ls i (.ref a.2.1.toNat) false) (st' := t) (M' := M) (by simp only [hc]; rfl) (fun τ hτ => zt_setl_ok hU hS' hv (by omega) hτ)
      · cases h
    · next hk =>
      split at h
      · next hc =>
        have e := zt_v_nul hv hk
        subst e
        have hc' := hc
        rw [← hlen] at hc
        simp only [Bool.and_eq_true, Nat.ble_eq] at hc'
        refine zt_r1_ok h (ls' := zt_set ls i .null false) (st' := t) (M' := M) (by simp only [hc]; rfl) (fun τ hτ => zt_setl_ok hU hS' hv (by omega) hτ)
      · cases h
    · cases h
  · cases h
-- two ints, two longs
def zt_b2 (f : zt_A → zt_A → Option zt_A) (σ : zt_St) : zt_R := match σ.2.1 with
  | y :: x :: r => match Nat.beq x.1 0 && Nat.beq y.1 0 with
    | true => match f x y with
      | some a => some ([(σ.1, a :: r, σ.2.2)], [])
      | none => none
    | false => none
  | _ => none
theorem zt_two (hS : zt_S E s σ ls st M) {x y : zt_A} {r : List zt_A} (hr : σ.2.1 = y :: x :: r) : ∃ w v t, st = w :: v :: t ∧ zt_v ls M s y w ∧ zt_v ls M s x v ∧ zt_S E s (σ.1, r, σ.2.2) ls t M := by
  obtain ⟨w, t, rfl, hw, hS1⟩ := zt_top1 hS hr
  obtain ⟨v, t, rfl, hv, hS2⟩ := zt_top1 hS1 rfl
  exact ⟨w, v, t, rfl, hw, hv, hS2⟩
/-- what an operation on ints owes -/
def zt_ok2 (f : zt_A → zt_A → Option zt_A) (g : Int32 → Int32 → Int32) : Prop := ∀ (ls : List (Option Value)) (M : zm_I) (s : Nat → Int) (x y a : zt_A) (X Y : Int32), f x y = some a → zt_rg x X.toInt → zt_nms ls M s x.2.2.2.2 X.toInt → zt_rg y Y.toInt → zt_nms ls M s y.2.2.2.2 Y.toInt → zt_v ls M s a (.int (g X Y))
theorem zt_b2_ok {f : zt_A → zt_A → Option zt_A} {g : Int32 → Int32 → Int32} (hf : zt_ok2 f g) (hS : zt_S E s σ ls st M) (h : zt_b2 f σ = some R) : zt_dn E s Post k kn R (zm_b2 kn g ls st M) := by
  unfold zt_b2 at h
  split at h
  · next y x r hr =>
    split at h
    · next hk =>
      simp only [Bool.and_eq_true] at hk
      split at h
      · next a ha =>
        cases h
        obtain ⟨w, v, t, rfl, hw, hv, hS2⟩ := zt_two hS hr
        obtain ⟨X, rfl, hx1, hx2⟩ := zt_v_int hv (Nat.eq_of_beq_eq_true hk.1)
        obtain ⟨Y, rfl, hy1, hy2⟩ := zt_v_int hw (Nat.eq_of_beq_eq_true hk.2)
        exact zt_dn1 rfl (zt_push hS2 (hf ls M s x y a X Y ha hx1 hx2 hy1 hy2))
      · cases h
    · cases h
  · cases h
/-- with a divisor -/
def zt_ok2z (f : zt_A → zt_A → Option zt_A) (g : Int32 → Int32 → Int32) : Prop := ∀ (ls : List (Option Value)) (M : zm_I) (s : Nat → Int) (x y a : zt_A) (X Y : Int32), f x y = some a → zt_rg x X.toInt → zt_rg y Y.toInt → Y.toInt ≠ 0 ∧ zt_v ls M s a (.int (g X Y))
theorem zt_b2z_ok {f : zt_A → zt_A → Option zt_A} {g : Int32 → Int32 → Int32} (hf : zt_ok2z f g) (hS : zt_S E s σ ls st M) (h : zt_b2 f σ = some R) : zt_dn E s Post k kn R (zm_b2z kn g ls st M) := by
  unfold zt_b2 at h
  split at h
  · next y x r hr =>
    split at h
    · next hk =>
      simp only [Bool.and_eq_true] at hk
      split at h
      · next a ha =>
        cases h
        obtain ⟨w, v, t, rfl, hw, hv, hS2⟩ := zt_two hS hr
        obtain ⟨X, rfl, hx1, hx2⟩ := zt_v_int hv (Nat.eq_of_beq_eq_true hk.1)
        obtain ⟨Y, rfl, hy1, hy2⟩ := zt_v_int hw (Nat.eq_of_beq_eq_true hk.2)
        have := hf ls M s x y a X Y ha hx1 hy1
        exact zt_dn1 (if_neg (fun e => this.1 (by rw [e]; rfl))) (zt_push hS2 this.2)
      · cases h
    · cases h
  · cases h
def zt_isL (a : zt_A) : Bool := Nat.beq a.1 1 || Nat.beq a.1 5
theorem zt_isL_ok {a : zt_A} {v : Value} (h : zt_v ls M s a v) (hk : zt_isL a = true) : ∃ x : Int64, v = .long x ∧ zt_nms ls M s a.2.2.2.2 x.toInt ∧ (a.1 = 1 → zt_rg a x.toInt) ∧ (a.1 = 5 → x.toInt ≠ 0) := by
  simp only [zt_isL, Bool.or_eq_true] at hk
  rcases hk with hk | hk
  · have hk := Nat.eq_of_beq_eq_true hk
    obtain ⟨x, h1, h2, h3⟩ := zt_v_long h hk
    exact ⟨x, h1, h3, fun _ => h2, (fun h5 => by rw [hk] at h5; cases h5)⟩
  · have hk := Nat.eq_of_beq_eq_true hk
    obtain ⟨x, h1, h2, h3⟩ := zt_v_nz h hk
    exact ⟨x, h1, h3, (fun h5 => by rw [hk] at h5; cases h5), fun _ => h2⟩
def zt_l2 (f : zt_A → zt_A → zt_A) (σ : zt_St) : zt_R := match σ.2.1 with
  | y :: x :: r => match zt_isL x && zt_isL y with
    | true => some ([(σ.1, f x y :: r, σ.2.2)], [])
    | false => none
  | _ => none
def zt_okl (f : zt_A → zt_A → zt_A) (g : Int64 → Int64 → Int64) : Prop := ∀ (ls : List (Option Value)) (M : zm_I) (s : Nat → Int) (x y : zt_A) (X Y : Int64), zt_isL x = true → zt_isL y = true → zt_v ls M s x (.long X) → zt_v ls M s y (.long Y) → zt_v ls M s (f x y) (.long (g X Y))
theorem zt_l2_ok {f : zt_A → zt_A → zt_A} {g : Int64 → Int64 → Int64} (hf : zt_okl f g) (hS : zt_S E s σ ls st M) (h : zt_l2 f σ = some R) : zt_dn E s Post k kn R (zm_l2 kn g ls st M) := by
  unfold zt_l2 at h
  split at h
  · next y x r hr =>
    split at h
    · next hk =>
      simp only [Bool.and_eq_true] at hk
      cases h
      obtain ⟨w, v, t, rfl, hw, hv, hS2⟩ := zt_two hS hr
      obtain ⟨X, rfl, hx⟩ := zt_isL_ok hv hk.1
      obtain ⟨Y, rfl, hy⟩ := zt_isL_ok hw hk.2
      exact zt_dn1 rfl (zt_push hS2 (hf ls M s x y X Y hk.1 hk.2 hv hw))
    · cases h
  · cases h
def zt_nz (y : zt_A) : Bool := zt_le (.ofNat 1) y.2.1 || zt_le y.2.2.1 (.negSucc 0)
theorem zt_nz_ok {y : zt_A} {z : Int} (h : zt_nz y = true) (hr : zt_rg y z) : z ≠ 0 := by
  simp only [zt_nz, Bool.or_eq_true, zt_le_ok] at h
  have := hr.1
  have := hr.2.1
  have e1 : (Int.ofNat 1) = 1 := rfl
  have e2 : (Int.negSucc 0) = -1 := rfl
  omega
def zt_l2z (σ : zt_St) : zt_R := match σ.2.1 with
  | y :: x :: r => match zt_isL x && (Nat.beq y.1 5 || (Nat.beq y.1 1 && zt_nz y)) with
    | true => some ([(σ.1, zt_ltop :: r, σ.2.2)], [])
    | false => none
  | _ => none
theorem zt_l2z_ok {g : Int64 → Int64 → Int64} (hS : zt_S E s σ ls st M) (h : zt_l2z σ = some R) : zt_dn E s Post k kn R (zm_l2z kn g ls st M) := by
  unfold zt_l2z at h
  split at h
  · next y x r hr =>
    split at h
    · next hk =>
      simp only [Bool.and_eq_true, Bool.or_eq_true] at hk
      cases h
      obtain ⟨w, v, t, rfl, hw, hv, hS2⟩ := zt_two hS hr
      obtain ⟨X, rfl, hx⟩ := zt_isL_ok hv hk.1
      have : ∃ Y : Int64, w = .long Y ∧ Y.toInt ≠ 0 := by
        rcases hk.2 with h5 | ⟨h5, h6⟩
        · obtain ⟨Y, e1, e2, -⟩ := zt_v_nz hw (Nat.eq_of_beq_eq_true h5)
          exact ⟨Y, e1, e2⟩
        · obtain ⟨Y, e1, e2, -⟩ := zt_v_long hw (Nat.eq_of_beq_eq_true h5)
          exact ⟨Y, e1, zt_nz_ok h6 e2⟩
      obtain ⟨Y, rfl, hY⟩ := this
      exact zt_dn1 (if_neg (fun e => hY (by rw [e]; rfl))) (zt_push hS2 (zt_v_ltop _))
    · cases h
  · cases h
def zt_ls2 (σ : zt_St) : zt_R := match σ.2.1 with
  | y :: x :: r => match zt_isL x && Nat.beq y.1 0 with
    | true => some ([(σ.1, zt_ltop :: r, σ.2.2)], [])
    | false => none
  | _ => none
theorem zt_ls2_ok {g : Int64 → Int32 → Int64} (hS : zt_S E s σ ls st M) (h : zt_ls2 σ = some R) : zt_dn E s Post k kn R (zm_ls kn g ls st M) := by
  unfold zt_ls2 at h
  split at h
  · next y x r hr =>
    split at h
    · next hk =>
      simp only [Bool.and_eq_true] at hk
      cases h
      obtain ⟨w, v, t, rfl, hw, hv, hS2⟩ := zt_two hS hr
      obtain ⟨X, rfl, hx⟩ := zt_isL_ok hv hk.1
      obtain ⟨Y, rfl, -⟩ := zt_v_int hw (Nat.eq_of_beq_eq_true hk.2)
      exact zt_dn1 rfl (zt_push hS2 (zt_v_ltop _))
    · cases h
  · cases h
def zt_u (f : zt_A → zt_A) (σ : zt_St) : zt_R := match σ.2.1 with
  | x :: r => match Nat.beq x.1 0 with
    | true => some ([(σ.1, f x :: r, σ.2.2)], [])
    | false => none
  | _ => none
def zt_ok1 (f : zt_A → zt_A) (g : Int32 → Int32) : Prop := ∀ (ls : List (Option Value)) (M : zm_I) (s : Nat → Int) (x : zt_A) (X : Int32), x.1 = 0 → zt_rg x X.toInt → zt_nms ls M s x.2.2.2.2 X.toInt → zt_v ls M s (f x) (.int (g X))
theorem zt_u_ok {f : zt_A → zt_A} {g : Int32 → Int32} (hf : zt_ok1 f g) (hS : zt_S E s σ ls st M) (h : zt_u f σ = some R) : zt_dn E s Post k kn R (zm_u kn g ls st M) := by
  unfold zt_u at h
  split at h
  · next x r hr =>
    split at h
    · next hk =>
      cases h
      obtain ⟨v, t, rfl, hv, hS2⟩ := zt_top1 hS hr
      have hk := Nat.eq_of_beq_eq_true hk
      obtain ⟨X, rfl, hx1, hx2⟩ := zt_v_int hv hk
      exact zt_dn1 rfl (zt_push hS2 (hf ls M s x X hk hx1 hx2))
    · cases h
  · cases h
end ZTI
