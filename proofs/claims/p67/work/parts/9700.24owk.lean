/-! A CONTRACT OUT OF AN EARLIER ONE of the same method: more known before, what isn't written known behind -/
def zt_wkR : Option zt_A → Option zt_A → Bool
  | none, none => true
  | some a, some b => zt_sub1 a b
  | _, _ => false
def zt_wkC (cs2 : List zt_C) (W : zt_W) (os : List zt_C) (c : zt_C) : Bool := zt_subC os c || (Nat.beq c.1.1 1 && zt_subC cs2 c && !zt_hit W c.1.2.1 c.1.2.2)
def zt_wkO (cs2 : List zt_C) (W : zt_W) (o q : zt_O) : Bool := zt_wkR o.1 q.1 && decide (o.2.1 = q.2.1) && decide (o.2.2.2 = q.2.2.2) && q.2.2.1.all (zt_wkC cs2 W o.2.2.1)
def zt_wkB (K1 K2 : Nat × (List zt_A × List zt_C × List Nat) × zt_W × List zt_O) : Bool :=
  Nat.beq K1.1 K2.1 && zt_subL zt_sub1 K2.2.1.1 K1.2.1.1 && K1.2.1.2.1.all (zt_subC K2.2.1.2.1) && decide (K1.2.1.2.2 = K2.2.1.2.2) && decide (K1.2.2.1 = K2.2.2.1) && K1.2.2.2.all (fun o => K2.2.2.2.any (zt_wkO K2.2.1.2.1 K1.2.2.1 o))
theorem zt_wk {Om : zt_Om} {Rel : Nat → zm_I → Prop} {hd : Nat × Option Nat × Bool × List (Nat × Nat)} {F : zm_L → List Value → zm_I → zm_R} {K1 K2 : Nat × (List zt_A × List zt_C × List Nat) × zt_W × List zt_O} (hc : zt_Con Om Rel (hd, K1) F) (h : zt_wkB K1 K2 = true) : zt_Con Om Rel (hd, K2) F := by
  obtain ⟨w1, ⟨as1, cs1, fl1⟩, W1, os1⟩ := K1
  obtain ⟨w2, ⟨as2, cs2, fl2⟩, W2, os2⟩ := K2
  unfold zt_wkB at h
  rw [Bool.and_eq_true, Bool.and_eq_true, Bool.and_eq_true, Bool.and_eq_true, Bool.and_eq_true] at h
  obtain ⟨⟨⟨⟨⟨e1, e2⟩, e3⟩, e4⟩, e5⟩, e6⟩ := h
  have f1 : w1 = w2 := Nat.eq_of_beq_eq_true e1
  have f4 : fl1 = fl2 := of_decide_eq_true e4
  have f5 : W1 = W2 := of_decide_eq_true e5
  subst f1
  subst f4
  subst f5
  intro w0 G hOm wl as M hwd hs hcs hf hG
  have hcs : ∀ c ∈ cs2, zt_cs (zm_sl as) M c := hcs
  obtain ⟨v, N, h1, h2, h3, o, ho, hr⟩ := hc w0 G hOm wl as M hwd (zt_subS_ok _ _ _ e2 hs) (fun c hm => zt_subC_ok (List.all_eq_true.mp e3 c hm) hcs) hf hG
  have h3 : zt_fr W1 M N := h3
  obtain ⟨q, hq, e⟩ := List.any_eq_true.mp (List.all_eq_true.mp e6 o ho)
  unfold zt_wkO at e
  rw [Bool.and_eq_true, Bool.and_eq_true, Bool.and_eq_true] at e
  obtain ⟨⟨⟨g1, g2⟩, g3⟩, g4⟩ := e
  have g2 : o.2.1 = q.2.1 := of_decide_eq_true g2
  have g3 : o.2.2.2 = q.2.2.2 := of_decide_eq_true g3
  obtain ⟨r1, r2, r3, r4⟩ := hr
  refine ⟨v, N, h1, h2, h3, q, hq, ?_, ?_, ?_, ?_⟩
  · obtain ⟨o1, o2⟩ := o
    obtain ⟨q1, q2⟩ := q
    have g1 : zt_wkR o1 q1 = true := g1
    have r1 : zt_resv N o1 v := r1
    show zt_resv N q1 v
    match o1, q1, g1, r1 with
    | none, none, _, r1 => exact r1
    | some a, some b, g1, r1 =>
      obtain ⟨w, e, k⟩ := r1
      exact ⟨w, e, zt_sub1_ok g1 k⟩
  · rw [← g2]; exact r2
  · intro c hm
    have g := List.all_eq_true.mp g4 c hm
    unfold zt_wkC at g
    rw [Bool.or_eq_true] at g
    rcases g with g | g
    · exact zt_subC_ok g r3
    · rw [Bool.and_eq_true, Bool.and_eq_true, Bool.not_eq_true'] at g
      obtain ⟨⟨k1, k2⟩, k3⟩ := g
      obtain ⟨⟨t, n, i⟩, lo, hi⟩ := c
      have k1 : t = 1 := Nat.eq_of_beq_eq_true k1
      subst k1
      have m : zt_cs (zm_sl as) M ((1, n, i), lo, hi) := zt_subC_ok k2 hcs
      have m : lo ≤ (M.1 n i).toInt ∧ (M.1 n i).toInt ≤ hi := m
      have e : N.1 n i = M.1 n i := (h3 n i k3).1
      show lo ≤ (N.1 n i).toInt ∧ (N.1 n i).toInt ≤ hi
      rw [e]
      exact m
  · rw [← g3]; exact r4
