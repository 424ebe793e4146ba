/-! WHAT A CALL ANSWERS, by the box in which its arguments lie -/
theorem zg_v {ls : List (Option Value)} {M : zm_I} {s : Nat → Int} {x : Int32} {lo hi : Int} (h1 : lo ≤ x.toInt) (h2 : x.toInt ≤ hi) : zt_v ls M s (zj lo hi) (.int x) := ⟨x, rfl, ⟨h1, h2, ⟨_, (Int.one_mul _).symm⟩⟩, zt_nms_nil _⟩
def zg_is (O : List zt_O) (c : Int) : Bool := O.all (fun o => match o.1 with
  | some a => Nat.beq a.1 0 && zt_eq a.2.1 c && zt_eq a.2.2.1 c
  | none => false)
theorem zg_val {K : zq_K} {F : zm_L → List Value → zm_I → zm_R} {w0 : zm_L} {G : zt_G} (hcon : zt_Con zo_Om (zo_Rel 0) (zo_hd, K) F) (hOm : zo_Om[K.1]? = some (w0, G)) (hf : K.2.1.2.2 = []) (c : Int) (hc : zg_is K.2.2.2 c = true) {as : List Value} {M : zm_I} (hs : zt_sts [] M (fun _ => 0) K.2.1.1 as) (hp : ∀ q ∈ K.2.1.2.1, zt_cs (zm_sl as) M q) (hG : zt_Gs G M) {x : Int32} {N : zm_I} (h : F w0 as M = some (some (.int x), N)) : x.toInt = c := by
  obtain ⟨v, N2, h1, -, -, o, h4, h5⟩ := zp_get hcon hOm hf hs hp hG
  rw [h] at h1
  cases h1
  have hq := List.all_eq_true.mp hc o h4
  obtain ⟨o1, o2⟩ := o
  have hr := h5.1
  cases o1 with
  | none => cases hq
  | some a =>
    simp only [Bool.and_eq_true, zt_eq_ok] at hq
    obtain ⟨w, hw, hv⟩ := hr
    obtain ⟨z, hz, hr2, -⟩ := zt_v_int hv (Nat.eq_of_beq_eq_true hq.1.1)
    rw [hz] at hw
    cases hw
    have e1 := hr2.1
    have e2 := hr2.2.1
    rw [hq.1.2] at e1
    rw [hq.2] at e2
    exact Int.le_antisymm e2 e1
theorem zg_bd (a : Int32) : (-2147483648 : Int) ≤ a.toInt ∧ a.toInt ≤ 2147483647 := zt_rgI a
