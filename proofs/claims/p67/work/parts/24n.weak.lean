/-! A CONTRACT OUT OF A WEAKER ONE: the same method, nothing written, one cell known closer (model 7 5: how many callers) -/
theorem zt_wk75 {Om : zt_Om} {Rel : Nat → zm_I → Prop} {hd : Nat × Option Nat × Bool × List (Nat × Nat)} {F : zm_L → List Value → zm_I → zm_R} {w : Nat} {a0 : List zt_A} {c2 : zt_C} {o1 o2 : Option zt_A} {l1 l2 h : Int} (hl : l1 ≤ l2) (hc : zt_Con Om Rel (hd, (w, (a0, [((1, 7, 5), l1, h), c2], []), [], [(o1, [], [((1, 7, 5), l1, h)], []), (o2, [], [((1, 7, 5), l1, h)], [])])) F) : zt_Con Om Rel (hd, (w, (a0, [((1, 7, 5), l2, h), c2], []), [], [(o1, [], [((1, 7, 5), l2, h)], []), (o2, [], [((1, 7, 5), l2, h)], [])])) F := by
  intro w0 G hOm wl as M hwd hs hcs hf hG
  have k1 : l2 ≤ (M.1 7 5).toInt ∧ (M.1 7 5).toInt ≤ h := hcs ((1, 7, 5), l2, h) List.mem_cons_self
  have k2 : zt_cs (zm_sl as) M c2 := hcs c2 (List.mem_cons_of_mem _ List.mem_cons_self)
  have kM : zt_cs (zm_sl as) M ((1, 7, 5), l1, h) := ⟨Int.le_trans hl k1.1, k1.2⟩
  obtain ⟨v, N, h1, h2, h3, o, ho, hr⟩ := hc w0 G hOm wl as M hwd hs (fun c hm => by
    rcases List.mem_cons.mp hm with e | hm
    · rw [e]; exact kM
    · rcases List.mem_cons.mp hm with e | hm
      · rw [e]; exact k2
      · cases hm) hf hG
  have e : N.1 7 5 = M.1 7 5 := (h3 7 5 rfl).1
  have kN : zt_cs [] N ((1, 7, 5), l2, h) := by
    show l2 ≤ (N.1 7 5).toInt ∧ (N.1 7 5).toInt ≤ h
    rw [e]
    exact k1
  have fin : ∀ {q : Option zt_A}, zt_res1 Rel as v N (q, [], [((1, 7, 5), l1, h)], []) → zt_res1 Rel as v N (q, [], [((1, 7, 5), l2, h)], []) := by
    intro q hq
    refine ⟨hq.1, hq.2.1, fun c hm => ?_, hq.2.2.2⟩
    rcases List.mem_cons.mp hm with e | hm
    · rw [e]; exact kN
    · cases hm
  refine ⟨v, N, h1, h2, h3, ?_⟩
  rcases List.mem_cons.mp ho with e1 | ho
  · rw [e1] at hr
    exact ⟨_, List.mem_cons_self, fin hr⟩
  rcases List.mem_cons.mp ho with e1 | ho
  · rw [e1] at hr
    exact ⟨_, List.mem_cons_of_mem _ List.mem_cons_self, fin hr⟩
  · cases ho
