/-! CONTRACTS BY HAND: copyRow -/
noncomputable def zh_crV (n m pc : Nat) (a b k : Int32) (I : Nat → Nat → Int32) (J : Nat → Nat → Int64) : zm_R := zm_V zT_X10_copyRow zW_M (pc, [some (.ref n), some (.int (Int32.ofNat m)), some (.int a), some (.int b), some (.int k)], [], (I, J))
def zh_crEq (n m len : Nat) : Prop := ∀ (I : Nat → Nat → Int32) (J : Nat → Nat → Int64) (a b : Int32), zF_X10_copyRow zW_M [.ref n, .int (Int32.ofNat m), .int a, .int b] (I, J) = zh_crV n m 3 a b 0 I J ∧ ∀ k : Int32, (zh_crV n m 3 a b k I J = if Int32.ofNat m ≤ k then zh_crV n m 31 a b k I J else zh_crV n m 9 a b k I J) ∧ (zh_crV n m 9 a b k I J = if (Int32.ofNat m * a + k : Int32) < 0 ∨ len ≤ Int32.toNatClampNeg (Int32.ofNat m * a + k) then none else if (Int32.ofNat m * b + k : Int32) < 0 ∨ len ≤ Int32.toNatClampNeg (Int32.ofNat m * b + k) then none else zh_crV n m 3 a b (k + 1) (zm_w I n (Int32.toNatClampNeg (Int32.ofNat m * b + k)) (I n (Int32.toNatClampNeg (Int32.ofNat m * a + k)))) J) ∧ zh_crV n m 31 a b k I J = some (none, (I, J))
set_option maxRecDepth 20000 in
theorem zh_cr6 : zh_crEq 6 1 5 := fun _ _ _ _ => ⟨(zm_V_eq _ _ _).trans rfl, fun _ => ⟨(zm_V_eq _ _ _).trans rfl, (zm_V_eq _ _ _).trans rfl, (zm_V_eq _ _ _).trans rfl⟩⟩
set_option maxRecDepth 20000 in
theorem zh_cr7 : zh_crEq 7 7 35 := fun _ _ _ _ => ⟨(zm_V_eq _ _ _).trans rfl, fun _ => ⟨(zm_V_eq _ _ _).trans rfl, (zm_V_eq _ _ _).trans rfl, (zm_V_eq _ _ _).trans rfl⟩⟩
set_option maxRecDepth 20000 in
theorem zh_cr8 : zh_crEq 8 6 30 := fun _ _ _ _ => ⟨(zm_V_eq _ _ _).trans rfl, fun _ => ⟨(zm_V_eq _ _ _).trans rfl, (zm_V_eq _ _ _).trans rfl, (zm_V_eq _ _ _).trans rfl⟩⟩
set_option maxRecDepth 20000 in
theorem zh_cr9 : zh_crEq 9 25 125 := fun _ _ _ _ => ⟨(zm_V_eq _ _ _).trans rfl, fun _ => ⟨(zm_V_eq _ _ _).trans rfl, (zm_V_eq _ _ _).trans rfl, (zm_V_eq _ _ _).trans rfl⟩⟩
set_option maxRecDepth 20000 in
theorem zh_cr10 : zh_crEq 10 120 600 := fun _ _ _ _ => ⟨(zm_V_eq _ _ _).trans rfl, fun _ => ⟨(zm_V_eq _ _ _).trans rfl, (zm_V_eq _ _ _).trans rfl, (zm_V_eq _ _ _).trans rfl⟩⟩
theorem zh_crix {m a k len : Nat} {A : Int32} (hA : A.toInt = a) (h : m * a + k < len) (hl : len ≤ 1000) (hm : m < 1000) : ¬ ((Int32.ofNat m * A + Int32.ofNat k : Int32) < 0 ∨ len ≤ Int32.toNatClampNeg (Int32.ofNat m * A + Int32.ofNat k)) ∧ Int32.toNatClampNeg (Int32.ofNat m * A + Int32.ofNat k) = m * a + k := by
  have em : (Int32.ofNat m).toInt = m := zh_of (by omega)
  have ek : (Int32.ofNat k).toInt = k := zh_of (by omega)
  have e0 : (m : Int) * (a : Int) = ((m * a : Nat) : Int) := by rw [Int.natCast_mul]
  have e1 : (Int32.ofNat m * A).toInt = ((m * a : Nat) : Int) := by
    rw [zh_mul (by rw [em, hA, e0]; omega) (by rw [em, hA, e0]; omega), em, hA, e0]
  have e2 : (Int32.ofNat m * A + Int32.ofNat k).toInt = ((m * a + k : Nat) : Int) := by
    rw [zh_add (by rw [e1, ek]; omega) (by rw [e1, ek]; omega), e1, ek]
    omega
  refine ⟨zh_in (by rw [e2]; omega) (by rw [e2]; omega), zh_cl e2⟩
theorem zh_crL {n m len a b : Nat} (hE : zh_crEq n m len) (hab : a ≠ b) (ha : m * a + m ≤ len) (hb : m * b + m ≤ len) (hl : len ≤ 1000) (hm : 0 < m) {A B : Int32} (hA : A.toInt = a) (hB : B.toInt = b) (I : Nat → Nat → Int32) (J : Nat → Nat → Int64) : ∀ (d k : Nat) (I' : Nat → Nat → Int32), k + d = m → (∀ p q, ¬ (p = n ∧ m * b ≤ q ∧ q < m * b + m) → I' p q = I p q) → (∀ q, q < k → I' n (m * b + q) = I n (m * a + q)) → ∃ N, zh_crV n m 3 A B (Int32.ofNat k) I' J = some (none, (N, J)) ∧ (∀ p q, ¬ (p = n ∧ m * b ≤ q ∧ q < m * b + m) → N p q = I p q) ∧ ∀ q, q < m → N n (m * b + q) = I n (m * a + q) := by
  have hdis : m * a + m ≤ m * b ∨ m * b + m ≤ m * a := by
    rcases Nat.lt_or_gt_of_ne hab with h | h
    · have := Nat.mul_le_mul_left m (show a + 1 ≤ b from h)
      rw [Nat.mul_add, Nat.mul_one] at this
      exact Or.inl this
    · have := Nat.mul_le_mul_left m (show b + 1 ≤ a from h)
      rw [Nat.mul_add, Nat.mul_one] at this
      exact Or.inr this
  intro d
  induction d with
  | zero =>
    intro k I' hk h1 h2
    have e := (hE I' J A B).2 (Int32.ofNat k)
    rw [e.1, if_pos (by rw [zh_le, zh_of (by omega), zh_of (by omega)]; omega), e.2.2]
    exact ⟨I', rfl, h1, fun q hq => h2 q (by omega)⟩
  | succ d ih =>
    intro k I' hk h1 h2
    have e := (hE I' J A B).2 (Int32.ofNat k)
    have xa := zh_crix (k := k) hA (show m * a + k < len by omega) hl (by omega)
    have xb := zh_crix (k := k) hB (show m * b + k < len by omega) hl (by omega)
    rw [e.1, if_neg (by rw [zh_le, zh_of (by omega), zh_of (by omega)]; omega), e.2.1, if_neg xa.1, if_neg xb.1, xa.2, xb.2, zh_ofadd (k := 1) zh_p1 (by omega)]
    clear xa xb e
    refine ih (k + 1) _ (by omega) (fun p q hpq => ?_) (fun q hq => ?_)
    · rw [zh_w2 _ _ (fun c => hpq ⟨c.1, by omega, by omega⟩)]
      exact h1 p q hpq
    · by_cases c : q = k
      · subst c
        rw [zh_w1]
        exact h1 n _ (by omega)
      · rw [zh_w2 _ _ (by omega)]
        exact h2 q (by omega)
theorem zh_cst {ls : List (Option Value)} {M : zm_I} {s : Nat → Int} {k : Nat} {r : List zt_A} {as : List Value} (h : zt_sts ls M s (zj (.ofNat k) (.ofNat k) :: r) as) : ∃ (x : Int32) (vs : List Value), as = .int x :: vs ∧ x.toInt = k ∧ zt_sts ls M s r vs := by
  obtain ⟨x, vs, h1, h2, h3, h4⟩ := zh_int h
  have h2 : (k : Int) ≤ x.toInt := h2
  have h3 : x.toInt ≤ (k : Int) := h3
  exact ⟨x, vs, h1, by omega, h4⟩
theorem zh_cst0 {ls : List (Option Value)} {M : zm_I} {s : Nat → Int} {k : Nat} {r : List zt_A} {as : List Value} (h : zt_sts ls M s ((0, .ofNat k, .ofNat k, 0, []) :: r) as) : ∃ (x : Int32) (vs : List Value), as = .int x :: vs ∧ x.toInt = k ∧ zt_sts ls M s r vs := by
  obtain ⟨v, vs, rfl, h1, h2⟩ := zh_cons h
  obtain ⟨x, rfl, h3, -⟩ := zt_v_int h1 rfl
  have h4 : (k : Int) ≤ x.toInt := h3.1
  have h5 : x.toInt ≤ (k : Int) := h3.2.1
  exact ⟨x, vs, rfl, by omega, h2⟩
theorem zh_copyRow (n m a b len : Nat) (hE : zh_crEq n m len) (hab : a ≠ b) (ha : m * a + m ≤ len) (hb : m * b + m ≤ len) (hl : len ≤ 1000) (hm : 0 < m) {g : List (Int × Int)} (hg : zo_g22[n]? = some g) (hgl : m % g.length = 0) {pre oc : List zt_C} (hoc : oc.all (fun c => Nat.beq c.1.1 1 && Nat.beq c.1.2.1 n && Nat.ble (m * b) c.1.2.2 && Nat.ble (c.1.2.2 + 1) (m * b + m) && zt_subC pre ((1, n, c.1.2.2 - m * b + m * a), c.2)) = true) (v : Nat) (hd : Nat × Option Nat × Bool × List (Nat × Nat)) : zt_Con zo_Om (zo_Rel v) (hd, (22, ([zjr n, (0, .ofNat m, .ofNat m, 0, []), zj (.ofNat a) (.ofNat a), zj (.ofNat b) (.ofNat b)], pre, []), [(n, m * b, m * b + m - 1)], [(none, [], oc, [])])) zF_X10_copyRow :=
  zh_con (w0 := zW_M) (G := zo_g22) rfl (by decide +kernel) (fun as M hs hc _ hG => by
    obtain ⟨vs, rfl, h1⟩ := zh_ref hs
    obtain ⟨x, vs, rfl, hx, h2⟩ := zh_cst0 h1
    obtain ⟨A, vs, rfl, hA, h3⟩ := zh_cst h2
    obtain ⟨B, vs, rfl, hB, h4⟩ := zh_cst h3
    obtain rfl := zh_nil h4
    have hx' : x = Int32.ofNat m := Int32.toInt_inj.mp (by rw [hx, zh_of (by omega)])
    subst hx'
    obtain ⟨N, q1, q2, q3⟩ := zh_crL hE hab ha hb hl hm hA hB M.1 M.2 m 0 M.1 (by omega) (fun _ _ _ => rfl) (fun q hq => by omega)
    refine ⟨none, (N, M.2), ((hE M.1 M.2 A B).1).trans q1, zh_gsx hG (fun p q => ?_), fun p q hh => ⟨q2 p q (fun c => ?_), rfl⟩, _, List.mem_cons_self, ⟨rfl, zh_no, fun c hm9 => ?_, zh_no⟩⟩
    · by_cases c : p = n ∧ m * b ≤ q ∧ q < m * b + m
      · right
        intro g' b' hg' hb'
        obtain ⟨rfl, c1, c2⟩ := c
        rw [hg] at hg'
        cases hg'
        have eq : N p q = M.1 p (m * a + (q - m * b)) := by
          have := q3 (q - m * b) (by omega)
          rw [show m * b + (q - m * b) = q by omega] at this
          exact this
        rw [eq]
        refine hG p g hg _ b' ?_
        obtain ⟨t, ht⟩ := Nat.dvd_of_mod_eq_zero hgl
        have e1 : (m * a + (q - m * b)) % g.length = (q - m * b) % g.length := by rw [ht, Nat.mul_assoc, Nat.add_comm, Nat.add_mul_mod_self_left]
        have e2 : q % g.length = (q - m * b) % g.length := by
          have e3 : q = (q - m * b) + g.length * (t * b) := by rw [← Nat.mul_assoc, ← ht]; omega
          rw [e3, Nat.add_mul_mod_self_left, ← e3]
        rw [e1, ← e2]
        exact hb'
      · exact Or.inl (q2 p q c)
    · have : zt_hit [(n, m * b, m * b + m - 1)] p q = true := by
        rw [c.1]
        simp [zt_hit]
        omega
      rw [this] at hh
      cases hh
    · have h9 := List.all_eq_true.mp hoc c hm9
      simp only [Bool.and_eq_true, Nat.ble_eq] at h9
      obtain ⟨⟨⟨⟨d1, d2⟩, d3⟩, d4⟩, d5⟩ := h9
      have f1 := Nat.eq_of_beq_eq_true d1
      have f2 := Nat.eq_of_beq_eq_true d2
      clear d1 d2
      obtain ⟨⟨t, p, q⟩, lo, hi⟩ := c
      dsimp only at f1 f2 d3 d4 d5
      subst f1
      subst f2
      have h10 : lo ≤ (M.1 p (q - m * b + m * a)).toInt ∧ (M.1 p (q - m * b + m * a)).toInt ≤ hi := zt_subC_ok d5 hc
      have eq : N p q = M.1 p (m * a + (q - m * b)) := by
        have := q3 (q - m * b) (by omega)
        rw [show m * b + (q - m * b) = q by omega] at this
        exact this
      show lo ≤ (N p q).toInt ∧ (N p q).toInt ≤ hi
      rw [eq, Nat.add_comm]
      exact h10)
