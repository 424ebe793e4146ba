/-! WHAT IS KEPT BESIDE: and today's day, right or not known -/
def zX (ks : List Nat) (M : zm_I) : Prop := zR ks M ∧ zdF (zm_sub2 [(0, 164)] M)
section ZXX
variable {ks ks2 : List Nat} {M N1 N2 M1 : zm_I}
theorem zX_s {n : Nat} (h : n < 164) : (zm_sub2 [(0, 164)] M).1 n = M.1 n ∧ (zm_sub2 [(0, 164)] M).2 n = M.2 n := by
  have e := zy_s1 (a := 0) h M
  rw [Nat.zero_add] at e
  exact e
theorem zX_U {n i : Nat} (h : zt_hit zd_U n i = true) : n < 164 := by
  have t : zd_U.all (fun w => Nat.blt w.1 164) = true := by decide
  unfold zt_hit at h
  obtain ⟨w, hw, e⟩ := List.any_eq_true.mp h
  simp only [Bool.and_eq_true] at e
  have e1 := Nat.eq_of_beq_eq_true e.1.1
  have := Nat.blt_eq.mp (List.all_eq_true.mp t w hw)
  omega
theorem zX_2 (h : zdF N1) : zdF (zm_sub2 [(0, 164)] (zy_2 M N1 N2)) := zdF_c h (fun n i hn => by
  have h164 := zX_U hn
  have a := zX_s (M := zy_2 M N1 N2) h164
  have b := zy_2X (n := n) h164 M N1 N2
  exact ⟨congrFun (a.1.trans b.1) i, congrFun (a.2.trans b.2) i⟩)
def zX_h (W : zt_W) : Bool := zd_U.all (fun u => (List.range (u.2.2 + 1)).all (fun i => Nat.blt i u.2.1 || !zt_hit W u.1 i))
theorem zX_fr (hF : zdF (zm_sub2 [(0, 164)] M)) {W : zt_W} (hw : zX_h W = true) (f : zt_fr W (zm_sub2 [(0, 164)] M) N1) : zdF N1 := zdF_c hF (fun n i hn => by
  have hh := hn
  unfold zt_hit at hh
  obtain ⟨u, hu, e⟩ := List.any_eq_true.mp hh
  simp only [Bool.and_eq_true] at e
  have e1 := Nat.eq_of_beq_eq_true e.1.1
  have e2 := Nat.le_of_ble_eq_true e.1.2
  have e3 := Nat.le_of_ble_eq_true e.2
  have t := List.all_eq_true.mp (List.all_eq_true.mp hw u hu) i (List.mem_range.mpr (by omega))
  have nb : Nat.blt i u.2.1 = false := by
    cases hb : Nat.blt i u.2.1
    · rfl
    · have := Nat.blt_eq.mp hb
      omega
  rw [nb, Bool.false_or, Bool.not_eq_true', e1] at t
  exact f n i t)
theorem zX_con {K : zq_K} {F : zm_L → List Value → zm_I → zm_R} (hcon : zt_Con zo_Om (zo_Rel2 0) (zo_hd, K) F) (hOm : zo_Om[K.1]? = some (zW_X, zo_g1)) (hf : K.2.1.2.2 = [11]) (ho : K.2.2.2.all (fun o => o.2.2.2.any (Nat.beq 11)) = true) {as : List Value} {M : zm_I} (hs : zt_sts [] M (fun _ => 0) K.2.1.1 as) (hp : ∀ c ∈ K.2.1.2.1, zt_cs (zm_sl as) M c) (hG : zt_Gs zo_g1 M) (hF : zdF M) {v : Option Value} {N : zm_I} (h : F zW_X as M = some (v, N)) : zdF N := by
  have hfl : ∀ f ∈ (zo_hd, K).2.2.1.2.2, zo_Rel2 0 f M := fun f z => by
    rw [show (zo_hd, K).2.2.1.2.2 = [11] from hf] at z
    have z := List.mem_singleton.mp z
    subst z
    exact hF
  obtain ⟨v2, N2, h1, -, -, o, hoo, hr⟩ := hcon zW_X zo_g1 hOm zW_X as M ⟨rfl, fun _ _ h _ => h⟩ hs hp hfl hG
  rw [h] at h1
  cases h1
  obtain ⟨q, hq, e⟩ := List.any_eq_true.mp (List.all_eq_true.mp ho o hoo)
  have e := Nat.eq_of_beq_eq_true e
  subst e
  exact hr.2.2.2 11 hq
theorem zX_m (h : zdF (zm_sub2 [(0, 164)] M1)) : zdF (zm_sub2 [(0, 164)] (zm_mrg [(165, 31)] M1 N2)) := zdF_c h (fun n i hn => by
  have h164 := zX_U hn
  have a := zX_s (M := zm_mrg [(165, 31)] M1 N2) h164
  have b := zy_m0 (a := 165) (z := 31) (n := n) (by omega) M1 N2
  have c := zX_s (M := M1) h164
  exact ⟨congrFun (a.1.trans (b.1.trans c.1.symm)) i, congrFun (a.2.trans (b.2.trans c.2.symm)) i⟩)
theorem zX_im (hF : zdF (zm_sub2 [(0, 164)] M)) {a0 x : Int32} (ho : zy_img ks M a0 x ks2 M1) : zdF (zm_sub2 [(0, 164)] M1) := by
  rcases ho with ⟨hr, rfl, e1, e2⟩ | ⟨k, i, N, hk, rfl, rfl, hk2, hix, hor, rfl, hcp⟩
  · rw [e2]
    exact hF
  · have hcpy := fun n => zy_cp (a := 196 + 10 * i) (b := 1) (M := M) (N := N) (by omega) hcp.2.2 n
    exact zdF_c hF (fun n j hn => by
      have h164 := zX_U hn
      have a := zX_s (M := zm_mrg [(196 + 10 * i, 10), (1, 10)] M N) h164
      have b := (hcpy n).2 (by omega)
      have c := zX_s (M := M) h164
      exact ⟨congrFun (a.1.trans (b.1.trans c.1.symm)) j, congrFun (a.2.trans (b.2.trans c.2.symm)) j⟩)
theorem zX_bk (hF : zdF (zm_sub2 [(0, 164)] M)) {a0 x : Int32} (ho : zy_bck ks M a0 x M1) : zdF (zm_sub2 [(0, 164)] M1) := by
  rcases ho with ⟨hr, rfl, e2⟩ | ⟨k, hk, rfl, hix, rfl, e2⟩ | ⟨k, i, N, hk, rfl, hix, rfl, rfl, hcp⟩
  · rw [e2]
    exact hF
  · rw [e2]
    exact hF
  · refine Or.inl ?_
    rw [(zX_s (M := zi_fg (zm_mrg [(1, 10), (196 + 10 * i, 10)] M N)) (by decide)).1]
    show zm_w (zm_w (zm_w (zm_mrg [(1, 10), (196 + 10 * i, 10)] M N).1 21 1 (Int32.ofInt 0)) 68 0 (Int32.ofInt 0)) 72 0 (Int32.ofInt 0) 21 1 = 0
    rw [ze_wo (by decide), ze_wo (by decide), ze_wi]
    rfl
end ZXX
