/-! WHAT IS KEPT BESIDE: which images there are -/
def zR_v (ks : List Nat) (k : Nat) : Int := match zK_ix ks k with
  | some _ => 1
  | none => 0
def zR (ks : List Nat) (M : zm_I) : Prop := ∀ k, k < 3 → (M.1 176 k).toInt = zR_v ks k
theorem zR_2 {ks : List Nat} {M N1 N2 : zm_I} (hR : zR ks M) {W : zt_W} (hf : zt_fr W (zm_sub2 [(165, 31)] (zm_mrg [(0, 164)] M N1)) N2) (hw : (List.range 3).all (fun k => !zt_hit W 11 k) = true) : zR ks (zy_2 M N1 N2) := by
  intro k hk
  have h1 := List.all_eq_true.mp hw k (List.mem_range.mpr hk)
  rw [Bool.not_eq_true'] at h1
  have e1 : (zy_2 M N1 N2).1 176 = N2.1 11 := (zy_2M (n := 11) (by decide) M N1 N2).1
  have e2 : (zm_sub2 [(165, 31)] (zm_mrg [(0, 164)] M N1)).1 11 = M.1 176 := ((zy_1M (n := 11) (by decide) M N1).1).trans (zy_s1 (a := 165) (n := 11) (by decide) M).1
  rw [e1, (hf 11 k h1).1, e2]
  exact hR k hk
theorem zR_1 {M1 N2 : zm_I} {W : zt_W} (hf : zt_fr W (zm_sub2 [(165, 31)] M1) N2) {k : Nat} (h1 : zt_hit W 11 k = false) : (zm_mrg [(165, 31)] M1 N2).1 176 k = M1.1 176 k := by
  have e1 : (zm_mrg [(165, 31)] M1 N2).1 176 = N2.1 11 := (zy_m1 (a := 165) (z := 31) (n := 176) (by decide) (by decide) M1 N2).1
  have e2 : (zm_sub2 [(165, 31)] M1).1 11 = M1.1 176 := (zy_s1 (a := 165) (n := 11) (by decide) M1).1
  rw [e1, (hf 11 k h1).1, e2]
theorem zg_all {K : zq_K} {F : zm_L → List Value → zm_I → zm_R} {w0 : zm_L} {G : zt_G} (hcon : zt_Con zo_Om (zo_Rel 0) (zo_hd, K) F) (hOm : zo_Om[K.1]? = some (w0, G)) (hf : K.2.1.2.2 = []) {as : List Value} {M : zm_I} (hs : zt_sts [] M (fun _ => 0) K.2.1.1 as) (hp : ∀ q ∈ K.2.1.2.1, zt_cs (zm_sl as) M q) (hG : zt_Gs G M) {v : Option Value} {N : zm_I} (h : F w0 as M = some (v, N)) : zt_fr K.2.2.1 M N ∧ ∃ o ∈ K.2.2.2, zt_res1 (zo_Rel 0) as v N o := by
  obtain ⟨v2, N2, h1, -, h3, h4⟩ := zp_get hcon hOm hf hs hp hG
  rw [h] at h1
  cases h1
  exact ⟨h3, h4⟩
theorem zg_cell {O : List zt_O} {c : zt_C} (hc : O.all (fun o => o.2.2.1.any (fun d => decide (d = c))) = true) {as : List Value} {v : Option Value} {N : zm_I} (h : ∃ o ∈ O, zt_res1 (zo_Rel 0) as v N o) : zt_cs [] N c := by
  obtain ⟨o, ho, hr⟩ := h
  obtain ⟨d, hd, he⟩ := List.any_eq_true.mp (List.all_eq_true.mp hc o ho)
  have he := of_decide_eq_true he
  subst he
  exact hr.2.2.1 d hd
theorem zR_ge {a0 : Int32} (hr : a0 < 0 ∨ ¬ a0 < 3) : a0.toInt < 0 ∨ 3 ≤ a0.toInt := by
  rw [Int32.lt_iff_toInt_lt, Int32.lt_iff_toInt_lt, show (0 : Int32).toInt = 0 by decide, show (3 : Int32).toInt = 3 by decide] at hr
  omega
section ZRR
variable {ks : List Nat} {M N1 N2 : zm_I}
theorem zr_feed (hks : ks ∈ zK_all) (hI : zy_I ks M) (hR : zR ks M) {a0 : Int32} {a1 : Int32} {a2 : Int32} {a3 : Int32} {a4 : Int32} {x y : Int32} (ho : zy_o2 ks M zF_X9_feed zF_X10_feed [.int a0, .int a1, .int a2, .int a3, .int a4] [.int a0, .int a1, .int a2, .int a3, .int a4] (.int x) (.int y) N1 N2) (f1 : zt_fr WX_feed (zm_sub2 [(0, 164)] M) N1) (f2 : zt_fr WM_feed (zm_sub2 [(165, 31)] (zm_mrg [(0, 164)] M N1)) N2) : zR ks (zy_2 M N1 N2) := zR_2 hR f2 (by decide +kernel)
theorem zr_end (hks : ks ∈ zK_all) (hI : zy_I ks M) (hR : zR ks M) {a0 : Int32} {x y : Int32} (ho : zy_o2 ks M zF_X9_end zF_X10_end [.int a0] [.int a0] (.int x) (.int y) N1 N2) (f1 : zt_fr WX_end (zm_sub2 [(0, 164)] M) N1) (f2 : zt_fr WM_end (zm_sub2 [(165, 31)] (zm_mrg [(0, 164)] M N1)) N2) : zR ks (zy_2 M N1 N2) := zR_2 hR f2 (by decide +kernel)
theorem zr_bench (hks : ks ∈ zK_all) (hI : zy_I ks M) (hR : zR ks M) {x y : Int32} (ho : zy_o2 ks M zF_X9_bench zF_X10_bench [] [] (.int x) (.int y) N1 N2) (f1 : zt_fr WX_bench (zm_sub2 [(0, 164)] M) N1) (f2 : zt_fr WM_bench (zm_sub2 [(165, 31)] (zm_mrg [(0, 164)] M N1)) N2) : zR ks (zy_2 M N1 N2) := zR_2 hR f2 (by decide +kernel)
theorem zr_fault (hks : ks ∈ zK_all) (hI : zy_I ks M) (hR : zR ks M) {a0 : Int32} {x y : Int32} (ho : zy_o2 ks M zF_X9_fault zF_X10_fault [.int a0] [.int a0] (.int x) (.int y) N1 N2) (f1 : zt_fr WX_fault (zm_sub2 [(0, 164)] M) N1) (f2 : zt_fr WM_fault (zm_sub2 [(165, 31)] (zm_mrg [(0, 164)] M N1)) N2) : zR ks (zy_2 M N1 N2) := zR_2 hR f2 (by decide +kernel)
theorem zr_seat (hks : ks ∈ zK_all) (hI : zy_I ks M) (hR : zR ks M) {a0 : Int32} {x y : Int32} (ho : zy_o2 ks M zF_X9_seat zF_X10_seat [.int a0] [.int a0] (.int x) (.int y) N1 N2) (f1 : zt_fr WX_seat (zm_sub2 [(0, 164)] M) N1) (f2 : zt_fr WM_seat (zm_sub2 [(165, 31)] (zm_mrg [(0, 164)] M N1)) N2) : zR ks (zy_2 M N1 N2) := zR_2 hR f2 (by decide +kernel)
theorem zr_caller (hks : ks ∈ zK_all) (hI : zy_I ks M) (hR : zR ks M) {a0 : Int32} {a1 : Int32} {x y : Int32} (ho : zy_o2 ks M zF_X9_caller zF_X10_caller [.int a0, .int a1] [.int a0, .int a1] (.int x) (.int y) N1 N2) (f1 : zt_fr WX_caller (zm_sub2 [(0, 164)] M) N1) (f2 : zt_fr WM_caller (zm_sub2 [(165, 31)] (zm_mrg [(0, 164)] M N1)) N2) : zR ks (zy_2 M N1 N2) := zR_2 hR f2 (by decide +kernel)
theorem zr_age (hks : ks ∈ zK_all) (hI : zy_I ks M) (hR : zR ks M) {a0 : Int32} {a1 : Int32} {x y : Int32} (ho : zy_o2 ks M zF_X9_age zF_X10_age [.int a0, .int a1] [.int a0, .int a1] (.int x) (.int y) N1 N2) (f1 : zt_fr WX_age (zm_sub2 [(0, 164)] M) N1) (f2 : zt_fr WM_age (zm_sub2 [(165, 31)] (zm_mrg [(0, 164)] M N1)) N2) : zR ks (zy_2 M N1 N2) := zR_2 hR f2 (by decide +kernel)
theorem zr_sits (hks : ks ∈ zK_all) (hI : zy_I ks M) (hR : zR ks M) {a0 : Int32} {a1 : Int32} {x y : Int32} (ho : zy_o2 ks M zF_X9_sits zF_X10_sits [.int a0, .int a1] [.int a0, .int a1] (.int x) (.int y) N1 N2) (f1 : zt_fr WX_sits (zm_sub2 [(0, 164)] M) N1) (f2 : zt_fr WM_sits (zm_sub2 [(165, 31)] (zm_mrg [(0, 164)] M N1)) N2) : zR ks (zy_2 M N1 N2) := zR_2 hR f2 (by decide +kernel)
theorem zr_stands (hks : ks ∈ zK_all) (hI : zy_I ks M) (hR : zR ks M) {a0 : Int32} {x y : Int32} (ho : zy_o2 ks M zF_X9_stands zF_X10_stands [.int a0] [.int a0] (.int x) (.int y) N1 N2) (f1 : zt_fr WX_stands (zm_sub2 [(0, 164)] M) N1) (f2 : zt_fr WM_stands (zm_sub2 [(165, 31)] (zm_mrg [(0, 164)] M N1)) N2) : zR ks (zy_2 M N1 N2) := zR_2 hR f2 (by decide +kernel)
theorem zr_free (hks : ks ∈ zK_all) (hI : zy_I ks M) (hR : zR ks M) {a0 : Int32} {x y : Int32} (ho : zy_o2 ks M zF_X9_free zF_X10_free [.int a0] [.int a0] (.int x) (.int y) N1 N2) (f1 : zt_fr WX_free (zm_sub2 [(0, 164)] M) N1) (f2 : zt_fr WM_free (zm_sub2 [(165, 31)] (zm_mrg [(0, 164)] M N1)) N2) : zR ks (zy_2 M N1 N2) := zR_2 hR f2 (by decide +kernel)
theorem zr_goes (hks : ks ∈ zK_all) (hI : zy_I ks M) (hR : zR ks M) {a0 : Int32} {x y : Int32} (ho : zy_o2 ks M zF_X9_goes zF_X10_goes [.int a0] [.int a0] (.int x) (.int y) N1 N2) (f1 : zt_fr WX_goes (zm_sub2 [(0, 164)] M) N1) (f2 : zt_fr WM_goes (zm_sub2 [(165, 31)] (zm_mrg [(0, 164)] M N1)) N2) : zR ks (zy_2 M N1 N2) := zR_2 hR f2 (by decide +kernel)
theorem zr_called (hks : ks ∈ zK_all) (hI : zy_I ks M) (hR : zR ks M) {a0 : Int32} {x y : Int32} (ho : zy_o2 ks M zF_X9_called zF_X10_called [.int a0] [.int a0] (.int x) (.int y) N1 N2) (f1 : zt_fr WX_called (zm_sub2 [(0, 164)] M) N1) (f2 : zt_fr WM_called (zm_sub2 [(165, 31)] (zm_mrg [(0, 164)] M N1)) N2) : zR ks (zy_2 M N1 N2) := zR_2 hR f2 (by decide +kernel)
theorem zr_ends (hks : ks ∈ zK_all) (hI : zy_I ks M) (hR : zR ks M) {a0 : Int32} {x y : Int32} (ho : zy_o2 ks M zF_X9_ends zF_X10_ends_ [.int a0] [.int a0] (.int x) (.int y) N1 N2) (f1 : zt_fr WX_ends (zm_sub2 [(0, 164)] M) N1) (f2 : zt_fr WM_ends (zm_sub2 [(165, 31)] (zm_mrg [(0, 164)] M N1)) N2) : zR ks (zy_2 M N1 N2) := zR_2 hR f2 (by decide +kernel)
theorem zr_told (hks : ks ∈ zK_all) (hI : zy_I ks M) (hR : zR ks M) {x y : Int32} (ho : zy_o2 ks M zF_X9_told zF_X10_told [] [] (.int x) (.int y) N1 N2) (f1 : zt_fr WX_told (zm_sub2 [(0, 164)] M) N1) (f2 : zt_fr WM_told (zm_sub2 [(165, 31)] (zm_mrg [(0, 164)] M N1)) N2) : zR ks (zy_2 M N1 N2) := zR_2 hR f2 (by decide +kernel)
theorem zr_forgotten (hks : ks ∈ zK_all) (hI : zy_I ks M) (hR : zR ks M) {x y : Int32} (ho : zy_o2 ks M zF_X9_forgotten zF_X10_forgotten [] [] (.int x) (.int y) N1 N2) (f1 : zt_fr WX_forgotten (zm_sub2 [(0, 164)] M) N1) (f2 : zt_fr WM_forgotten (zm_sub2 [(165, 31)] (zm_mrg [(0, 164)] M N1)) N2) : zR ks (zy_2 M N1 N2) := zR_2 hR f2 (by decide +kernel)
theorem zr_gun (hks : ks ∈ zK_all) (hI : zy_I ks M) (hR : zR ks M) {x y : Int32} (ho : zy_o2 ks M zF_X9_gun zF_X10_gun [] [] (.int x) (.int y) N1 N2) (f1 : zt_fr WX_gun (zm_sub2 [(0, 164)] M) N1) (f2 : zt_fr WM_gun (zm_sub2 [(165, 31)] (zm_mrg [(0, 164)] M N1)) N2) : zR ks (zy_2 M N1 N2) := zR_2 hR f2 (by decide +kernel)
theorem zr_waits (hks : ks ∈ zK_all) (hI : zy_I ks M) (hR : zR ks M) {a0 : Int32} {x y : Int32} (ho : zy_o2 ks M zF_X9_waits zF_X10_waits [.int a0] [.int a0] (.int x) (.int y) N1 N2) (f1 : zt_fr WX_waits (zm_sub2 [(0, 164)] M) N1) (f2 : zt_fr WM_waits (zm_sub2 [(165, 31)] (zm_mrg [(0, 164)] M N1)) N2) : zR ks (zy_2 M N1 N2) := zR_2 hR f2 (by decide +kernel)
theorem zr_worn (hks : ks ∈ zK_all) (hI : zy_I ks M) (hR : zR ks M) {a0 : Int32} {a1 : Int32} {x y : Int32} (ho : zy_o2 ks M zF_X9_worn zF_X10_worn [.int a0, .int a1] [.int a0, .int a1] (.int x) (.int y) N1 N2) (f1 : zt_fr WX_worn (zm_sub2 [(0, 164)] M) N1) (f2 : zt_fr WM_worn (zm_sub2 [(165, 31)] (zm_mrg [(0, 164)] M N1)) N2) : zR ks (zy_2 M N1 N2) := zR_2 hR f2 (by decide +kernel)
theorem zr_dip (hks : ks ∈ zK_all) (hI : zy_I ks M) (hR : zR ks M) {a0 : Int32} {x y : Int32} (ho : zy_o2 ks M zF_X9_dip zF_X10_dip [.int a0] [.int a0] (.int x) (.int y) N1 N2) (f1 : zt_fr WX_dip (zm_sub2 [(0, 164)] M) N1) (f2 : zt_fr WM_dip (zm_sub2 [(165, 31)] (zm_mrg [(0, 164)] M N1)) N2) : zR ks (zy_2 M N1 N2) := zR_2 hR f2 (by decide +kernel)
theorem zr_deepest (hks : ks ∈ zK_all) (hI : zy_I ks M) (hR : zR ks M) {x y : Int32} (ho : zy_o2 ks M zF_X9_deepest zF_X10_deepest [] [] (.int x) (.int y) N1 N2) (f1 : zt_fr WX_deepest (zm_sub2 [(0, 164)] M) N1) (f2 : zt_fr WM_deepest (zm_sub2 [(165, 31)] (zm_mrg [(0, 164)] M N1)) N2) : zR ks (zy_2 M N1 N2) := zR_2 hR f2 (by decide +kernel)
theorem zr_youngest (hks : ks ∈ zK_all) (hI : zy_I ks M) (hR : zR ks M) {a0 : Int32} {x y : Int32} (ho : zy_o2 ks M zF_X9_youngest zF_X10_youngest [.int a0] [.int a0] (.int x) (.int y) N1 N2) (f1 : zt_fr WX_youngest (zm_sub2 [(0, 164)] M) N1) (f2 : zt_fr WM_youngest (zm_sub2 [(165, 31)] (zm_mrg [(0, 164)] M N1)) N2) : zR ks (zy_2 M N1 N2) := zR_2 hR f2 (by decide +kernel)
theorem zr_oldest (hks : ks ∈ zK_all) (hI : zy_I ks M) (hR : zR ks M) {a0 : Int32} {x y : Int32} (ho : zy_o2 ks M zF_X9_oldest zF_X10_oldest [.int a0] [.int a0] (.int x) (.int y) N1 N2) (f1 : zt_fr WX_oldest (zm_sub2 [(0, 164)] M) N1) (f2 : zt_fr WM_oldest (zm_sub2 [(165, 31)] (zm_mrg [(0, 164)] M N1)) N2) : zR ks (zy_2 M N1 N2) := zR_2 hR f2 (by decide +kernel)
theorem zr_meets (hks : ks ∈ zK_all) (hI : zy_I ks M) (hR : zR ks M) {a0 : Int32} {a1 : Int32} {x y : Int32} (ho : zy_o2 ks M zF_X9_meets zF_X10_meets [.int a0, .int a1] [.int a0, .int a1] (.int x) (.int y) N1 N2) (f1 : zt_fr WX_meets (zm_sub2 [(0, 164)] M) N1) (f2 : zt_fr WM_meets (zm_sub2 [(165, 31)] (zm_mrg [(0, 164)] M N1)) N2) : zR ks (zy_2 M N1 N2) := zR_2 hR f2 (by decide +kernel)
theorem zr_ripe (hks : ks ∈ zK_all) (hI : zy_I ks M) (hR : zR ks M) {a0 : Int32} {x y : Int32} (ho : zy_o2 ks M zF_X9_ripe zF_X10_ripe [.int a0] [.int a0] (.int x) (.int y) N1 N2) (f1 : zt_fr WX_ripe (zm_sub2 [(0, 164)] M) N1) (f2 : zt_fr WM_ripe (zm_sub2 [(165, 31)] (zm_mrg [(0, 164)] M N1)) N2) : zR ks (zy_2 M N1 N2) := zR_2 hR f2 (by decide +kernel)
theorem zr_window (hks : ks ∈ zK_all) (hI : zy_I ks M) (hR : zR ks M) {a0 : Int32} {x y : Int32} (ho : zy_o2 ks M zF_X9_window zF_X10_window [.int a0] [.int a0] (.int x) (.int y) N1 N2) (f1 : zt_fr WX_window (zm_sub2 [(0, 164)] M) N1) (f2 : zt_fr WM_window (zm_sub2 [(165, 31)] (zm_mrg [(0, 164)] M N1)) N2) : zR ks (zy_2 M N1 N2) := zR_2 hR f2 (by decide +kernel)
theorem zr_misses (hks : ks ∈ zK_all) (hI : zy_I ks M) (hR : zR ks M) {a0 : Int32} {x y : Int32} (ho : zy_o2 ks M zF_X9_misses zF_X10_misses [.int a0] [.int a0] (.int x) (.int y) N1 N2) (f1 : zt_fr WX_misses (zm_sub2 [(0, 164)] M) N1) (f2 : zt_fr WM_misses (zm_sub2 [(165, 31)] (zm_mrg [(0, 164)] M N1)) N2) : zR ks (zy_2 M N1 N2) := zR_2 hR f2 (by decide +kernel)
theorem zr_grown (hks : ks ∈ zK_all) (hI : zy_I ks M) (hR : zR ks M) {a0 : Int32} {x y : Int32} (ho : zy_o2 ks M zF_X9_grown zF_X10_grown [.int a0] [.int a0] (.int x) (.int y) N1 N2) (f1 : zt_fr WX_grown (zm_sub2 [(0, 164)] M) N1) (f2 : zt_fr WM_grown (zm_sub2 [(165, 31)] (zm_mrg [(0, 164)] M N1)) N2) : zR ks (zy_2 M N1 N2) := zR_2 hR f2 (by decide +kernel)
theorem zr_beside (hks : ks ∈ zK_all) (hI : zy_I ks M) (hR : zR ks M) {a0 : Int32} {a1 : Int32} {x y : Int32} (ho : zy_o2 ks M zF_X9_beside zF_X10_beside [.int a0, .int a1] [.int a0, .int a1] (.int x) (.int y) N1 N2) (f1 : zt_fr WX_beside (zm_sub2 [(0, 164)] M) N1) (f2 : zt_fr WM_beside (zm_sub2 [(165, 31)] (zm_mrg [(0, 164)] M N1)) N2) : zR ks (zy_2 M N1 N2) := zR_2 hR f2 (by decide +kernel)
theorem zr_crowd (hks : ks ∈ zK_all) (hI : zy_I ks M) (hR : zR ks M) {x y : Int32} (ho : zy_o2 ks M zF_X9_crowd zF_X10_crowd [] [] (.int x) (.int y) N1 N2) (f1 : zt_fr WX_crowd (zm_sub2 [(0, 164)] M) N1) (f2 : zt_fr WM_crowd (zm_sub2 [(165, 31)] (zm_mrg [(0, 164)] M N1)) N2) : zR ks (zy_2 M N1 N2) := zR_2 hR f2 (by decide +kernel)
theorem zr_next (hks : ks ∈ zK_all) (hI : zy_I ks M) (hR : zR ks M) {a0 : Int32} {x y : Int32} (ho : zy_o2 ks M zF_X9_next zF_X10_next_ [.int a0] [.int a0] (.int x) (.int y) N1 N2) (f1 : zt_fr WX_next (zm_sub2 [(0, 164)] M) N1) (f2 : zt_fr WM_next (zm_sub2 [(165, 31)] (zm_mrg [(0, 164)] M N1)) N2) : zR ks (zy_2 M N1 N2) := zR_2 hR f2 (by decide +kernel)
theorem zr_years (hks : ks ∈ zK_all) (hI : zy_I ks M) (hR : zR ks M) {a0 : Int32} {x y : Int32} (ho : zy_o2 ks M zF_X9_years zF_X10_years [.int a0] [.int a0] (.int x) (.int y) N1 N2) (f1 : zt_fr WX_years (zm_sub2 [(0, 164)] M) N1) (f2 : zt_fr WM_years (zm_sub2 [(165, 31)] (zm_mrg [(0, 164)] M N1)) N2) : zR ks (zy_2 M N1 N2) := zR_2 hR f2 (by decide +kernel)
theorem zr_last (hks : ks ∈ zK_all) (hI : zy_I ks M) (hR : zR ks M) {x y : Int32} (ho : zy_o2 ks M zF_X9_last zF_X10_last [] [] (.int x) (.int y) N1 N2) (f1 : zt_fr WX_last (zm_sub2 [(0, 164)] M) N1) (f2 : zt_fr WM_last (zm_sub2 [(165, 31)] (zm_mrg [(0, 164)] M N1)) N2) : zR ks (zy_2 M N1 N2) := zR_2 hR f2 (by decide +kernel)
theorem zr_twins (hks : ks ∈ zK_all) (hI : zy_I ks M) (hR : zR ks M) {a0 : Int32} {x y : Int32} (ho : zy_o2 ks M zF_X9_twins zF_X10_twins [.int a0] [.int a0] (.int x) (.int y) N1 N2) (f1 : zt_fr WX_twins (zm_sub2 [(0, 164)] M) N1) (f2 : zt_fr WM_twins (zm_sub2 [(165, 31)] (zm_mrg [(0, 164)] M N1)) N2) : zR ks (zy_2 M N1 N2) := zR_2 hR f2 (by decide +kernel)
theorem zr_opens (hks : ks ∈ zK_all) (hI : zy_I ks M) (hR : zR ks M) {a0 : Int32} {x y : Int32} (ho : zy_o2 ks M zF_X9_opens zF_X10_opens [.int a0] [.int a0] (.int x) (.int y) N1 N2) (f1 : zt_fr WX_opens (zm_sub2 [(0, 164)] M) N1) (f2 : zt_fr WM_opens (zm_sub2 [(165, 31)] (zm_mrg [(0, 164)] M N1)) N2) : zR ks (zy_2 M N1 N2) := zR_2 hR f2 (by decide +kernel)
theorem zr_without (hks : ks ∈ zK_all) (hI : zy_I ks M) (hR : zR ks M) {a0 : Int32} {x y : Int32} (ho : zy_o2 ks M zF_X9_without zF_X10_without [.int a0] [.int a0] (.int x) (.int y) N1 N2) (f1 : zt_fr WX_without (zm_sub2 [(0, 164)] M) N1) (f2 : zt_fr WM_without (zm_sub2 [(165, 31)] (zm_mrg [(0, 164)] M N1)) N2) : zR ks (zy_2 M N1 N2) := zR_2 hR f2 (by decide +kernel)
theorem zr_helps (hks : ks ∈ zK_all) (hI : zy_I ks M) (hR : zR ks M) {a0 : Int32} {x y : Int32} (ho : zy_o2 ks M zF_X9_helps zF_X10_helps [.int a0] [.int a0] (.int x) (.int y) N1 N2) (f1 : zt_fr WX_helps (zm_sub2 [(0, 164)] M) N1) (f2 : zt_fr WM_helps (zm_sub2 [(165, 31)] (zm_mrg [(0, 164)] M N1)) N2) : zR ks (zy_2 M N1 N2) := zR_2 hR f2 (by decide +kernel)
theorem zr_less (hks : ks ∈ zK_all) (hI : zy_I ks M) (hR : zR ks M) {a0 : Int32} {x y : Int32} (ho : zy_o2 ks M zF_X9_less zF_X10_less [.int a0] [.int a0] (.int x) (.int y) N1 N2) (f1 : zt_fr WX_less (zm_sub2 [(0, 164)] M) N1) (f2 : zt_fr WM_less (zm_sub2 [(165, 31)] (zm_mrg [(0, 164)] M N1)) N2) : zR ks (zy_2 M N1 N2) := zR_2 hR f2 (by decide +kernel)
theorem zr_tuned (hks : ks ∈ zK_all) (hI : zy_I ks M) (hR : zR ks M) {a0 : Int32} {x y : Int32} (ho : zy_o2 ks M zF_X9_tuned zF_X10_tuned [.int a0] [.int a0] (.int x) (.int y) N1 N2) (f1 : zt_fr WX_tuned (zm_sub2 [(0, 164)] M) N1) (f2 : zt_fr WM_tuned (zm_sub2 [(165, 31)] (zm_mrg [(0, 164)] M N1)) N2) : zR ks (zy_2 M N1 N2) := zR_2 hR f2 (by decide +kernel)
theorem zr_moved (hks : ks ∈ zK_all) (hI : zy_I ks M) (hR : zR ks M) {a0 : Int32} {a1 : Int32} {x y : Int32} (ho : zy_o2 ks M zF_X9_moved zF_X10_moved [.int a0, .int a1] [.int a0, .int a1] (.int x) (.int y) N1 N2) (f1 : zt_fr WX_moved (zm_sub2 [(0, 164)] M) N1) (f2 : zt_fr WM_moved (zm_sub2 [(165, 31)] (zm_mrg [(0, 164)] M N1)) N2) : zR ks (zy_2 M N1 N2) := zR_2 hR f2 (by decide +kernel)
theorem zr_suits (hks : ks ∈ zK_all) (hI : zy_I ks M) (hR : zR ks M) {a0 : Int32} {x y : Int32} (ho : zy_o2 ks M zF_X9_suits zF_X10_suits [.int a0] [.int a0] (.int x) (.int y) N1 N2) (f1 : zt_fr WX_suits (zm_sub2 [(0, 164)] M) N1) (f2 : zt_fr WM_suits (zm_sub2 [(165, 31)] (zm_mrg [(0, 164)] M N1)) N2) : zR ks (zy_2 M N1 N2) := zR_2 hR f2 (by decide +kernel)
theorem zr_hour (hks : ks ∈ zK_all) (hI : zy_I ks M) (hR : zR ks M) {a0 : Int32} {x y : Int32} (ho : zy_o2 ks M zF_X9_hour zF_X10_hour [.int a0] [.int a0] (.int x) (.int y) N1 N2) (f1 : zt_fr WX_hour (zm_sub2 [(0, 164)] M) N1) (f2 : zt_fr WM_hour (zm_sub2 [(165, 31)] (zm_mrg [(0, 164)] M N1)) N2) : zR ks (zy_2 M N1 N2) := zR_2 hR f2 (by decide +kernel)
theorem zr_youth (hks : ks ∈ zK_all) (hI : zy_I ks M) (hR : zR ks M) {a0 : Int32} {x y : Int32} (ho : zy_o2 ks M zF_X9_youth zF_X10_youth [.int a0] [.int a0] (.int x) (.int y) N1 N2) (f1 : zt_fr WX_youth (zm_sub2 [(0, 164)] M) N1) (f2 : zt_fr WM_youth (zm_sub2 [(165, 31)] (zm_mrg [(0, 164)] M N1)) N2) : zR ks (zy_2 M N1 N2) := zR_2 hR f2 (by decide +kernel)
theorem zr_best (hks : ks ∈ zK_all) (hI : zy_I ks M) (hR : zR ks M) {x y : Int32} (ho : zy_o2 ks M zF_X9_best zF_X10_best [] [] (.int x) (.int y) N1 N2) (f1 : zt_fr WX_best (zm_sub2 [(0, 164)] M) N1) (f2 : zt_fr WM_best (zm_sub2 [(165, 31)] (zm_mrg [(0, 164)] M N1)) N2) : zR ks (zy_2 M N1 N2) := zR_2 hR f2 (by decide +kernel)
theorem zr_plan (hks : ks ∈ zK_all) (hI : zy_I ks M) (hR : zR ks M) {a0 : Int32} {x y : Int32} (ho : zy_o2 ks M zF_X9_plan zF_X10_plan [.int a0] [.int a0] (.int x) (.int y) N1 N2) (f1 : zt_fr WX_plan (zm_sub2 [(0, 164)] M) N1) (f2 : zt_fr WM_plan (zm_sub2 [(165, 31)] (zm_mrg [(0, 164)] M N1)) N2) : zR ks (zy_2 M N1 N2) := zR_2 hR f2 (by decide +kernel)
theorem zr_ways (hks : ks ∈ zK_all) (hI : zy_I ks M) (hR : zR ks M) {x y : Int32} (ho : zy_o2 ks M zF_X9_ways zF_X10_ways [] [] (.int x) (.int y) N1 N2) (f1 : zt_fr WX_ways (zm_sub2 [(0, 164)] M) N1) (f2 : zt_fr WM_ways (zm_sub2 [(165, 31)] (zm_mrg [(0, 164)] M N1)) N2) : zR ks (zy_2 M N1 N2) := zR_2 hR f2 (by decide +kernel)
theorem zr_every (hks : ks ∈ zK_all) (hI : zy_I ks M) (hR : zR ks M) {x y : Int32} (ho : zy_o2 ks M zF_X9_every zF_X10_every [] [] (.int x) (.int y) N1 N2) (f1 : zt_fr WX_every (zm_sub2 [(0, 164)] M) N1) (f2 : zt_fr WM_every (zm_sub2 [(165, 31)] (zm_mrg [(0, 164)] M N1)) N2) : zR ks (zy_2 M N1 N2) := zR_2 hR f2 (by decide +kernel)
theorem zr_calls (hks : ks ∈ zK_all) (hI : zy_I ks M) (hR : zR ks M) {x y : Int32} (ho : zy_o2 ks M zF_X9_calls zF_X10_calls [] [] (.int x) (.int y) N1 N2) (f1 : zt_fr WX_calls (zm_sub2 [(0, 164)] M) N1) (f2 : zt_fr WM_calls (zm_sub2 [(165, 31)] (zm_mrg [(0, 164)] M N1)) N2) : zR ks (zy_2 M N1 N2) := zR_2 hR f2 (by decide +kernel)
theorem zr_none (hks : ks ∈ zK_all) (hI : zy_I ks M) (hR : zR ks M) {x y : Int32} (ho : zy_o2 ks M zF_X9_none zF_X10_none [] [] (.int x) (.int y) N1 N2) (f1 : zt_fr WX_none (zm_sub2 [(0, 164)] M) N1) (f2 : zt_fr WM_none (zm_sub2 [(165, 31)] (zm_mrg [(0, 164)] M N1)) N2) : zR ks (zy_2 M N1 N2) := zR_2 hR f2 (by decide +kernel)
theorem zr_by (hks : ks ∈ zK_all) (hI : zy_I ks M) (hR : zR ks M) {a0 : Int32} {x y : Int32} (ho : zy_o2 ks M zF_X9_by zF_X10_by [.int a0] [.int a0] (.int x) (.int y) N1 N2) (f1 : zt_fr WX_by (zm_sub2 [(0, 164)] M) N1) (f2 : zt_fr WM_by (zm_sub2 [(165, 31)] (zm_mrg [(0, 164)] M N1)) N2) : zR ks (zy_2 M N1 N2) := zR_2 hR f2 (by decide +kernel)
theorem zr_law (hks : ks ∈ zK_all) (hI : zy_I ks M) (hR : zR ks M) {x y : Int32} (ho : zy_o2 ks M zF_X9_law zF_X10_law [] [] (.int x) (.int y) N1 N2) (f1 : zt_fr WX_law (zm_sub2 [(0, 164)] M) N1) (f2 : zt_fr WM_law (zm_sub2 [(165, 31)] (zm_mrg [(0, 164)] M N1)) N2) : zR ks (zy_2 M N1 N2) := zR_2 hR f2 (by decide +kernel)
theorem zr_laws (hks : ks ∈ zK_all) (hI : zy_I ks M) (hR : zR ks M) {a0 : Int32} {x y : Int32} (ho : zy_o2 ks M zF_X9_laws zF_X10_laws [.int a0] [.int a0] (.int x) (.int y) N1 N2) (f1 : zt_fr WX_laws (zm_sub2 [(0, 164)] M) N1) (f2 : zt_fr WM_laws (zm_sub2 [(165, 31)] (zm_mrg [(0, 164)] M N1)) N2) : zR ks (zy_2 M N1 N2) := zR_2 hR f2 (by decide +kernel)
theorem zr_sat (hks : ks ∈ zK_all) (hI : zy_I ks M) (hR : zR ks M) {a0 : Int32} {a1 : Int32} {x y : Int32} (ho : zy_o2 ks M zF_X9_sat zF_X10_sat [.int a0, .int a1] [.int a0, .int a1] (.int x) (.int y) N1 N2) (f1 : zt_fr WX_sat (zm_sub2 [(0, 164)] M) N1) (f2 : zt_fr WM_sat (zm_sub2 [(165, 31)] (zm_mrg [(0, 164)] M N1)) N2) : zR ks (zy_2 M N1 N2) := zR_2 hR f2 (by decide +kernel)
theorem zr_ask (hks : ks ∈ zK_all) (hI : zy_I ks M) (hR : zR ks M) {a0 : Int32} {a1 : Int32} {x y : Int32} (ho : zy_o2 ks M zF_X9_ask zF_X10_ask [.int a0, .int a1] [.int a0, .int a1] (.int x) (.int y) N1 N2) (f1 : zt_fr WX_ask (zm_sub2 [(0, 164)] M) N1) (f2 : zt_fr WM_ask (zm_sub2 [(165, 31)] (zm_mrg [(0, 164)] M N1)) N2) : zR ks (zy_2 M N1 N2) := zR_2 hR f2 (by decide +kernel)
theorem zr_marks (hks : ks ∈ zK_all) (hI : zy_I ks M) (hR : zR ks M) {a0 : Int32} {x y : Int32} (ho : zy_o2 ks M zF_X9_marks zF_X10_marks [.int a0] [.int a0] (.int x) (.int y) N1 N2) (f1 : zt_fr WX_marks (zm_sub2 [(0, 164)] M) N1) (f2 : zt_fr WM_marks (zm_sub2 [(165, 31)] (zm_mrg [(0, 164)] M N1)) N2) : zR ks (zy_2 M N1 N2) := zR_2 hR f2 (by decide +kernel)
theorem zr_mark (hks : ks ∈ zK_all) (hI : zy_I ks M) (hR : zR ks M) {a0 : Int32} {a1 : Int32} {x y : Int32} (ho : zy_o2 ks M zF_X9_mark zF_X10_mark [.int a0, .int a1] [.int a0, .int a1] (.int x) (.int y) N1 N2) (f1 : zt_fr WX_mark (zm_sub2 [(0, 164)] M) N1) (f2 : zt_fr WM_mark (zm_sub2 [(165, 31)] (zm_mrg [(0, 164)] M N1)) N2) : zR ks (zy_2 M N1 N2) := zR_2 hR f2 (by decide +kernel)
theorem zr_under (hks : ks ∈ zK_all) (hI : zy_I ks M) (hR : zR ks M) {a0 : Int32} {a1 : Int32} {x y : Int32} (ho : zy_o2 ks M zF_X9_under zF_X10_under [.int a0, .int a1] [.int a0, .int a1] (.int x) (.int y) N1 N2) (f1 : zt_fr WX_under (zm_sub2 [(0, 164)] M) N1) (f2 : zt_fr WM_under (zm_sub2 [(165, 31)] (zm_mrg [(0, 164)] M N1)) N2) : zR ks (zy_2 M N1 N2) := zR_2 hR f2 (by decide +kernel)
theorem zr_rests (hks : ks ∈ zK_all) (hI : zy_I ks M) (hR : zR ks M) {a0 : Int32} {a1 : Int32} {x y : Int32} (ho : zy_o2 ks M zF_X9_rests zF_X10_rests [.int a0, .int a1] [.int a0, .int a1] (.int x) (.int y) N1 N2) (f1 : zt_fr WX_rests (zm_sub2 [(0, 164)] M) N1) (f2 : zt_fr WM_rests (zm_sub2 [(165, 31)] (zm_mrg [(0, 164)] M N1)) N2) : zR ks (zy_2 M N1 N2) := zR_2 hR f2 (by decide +kernel)
theorem zr_rest (hks : ks ∈ zK_all) (hI : zy_I ks M) (hR : zR ks M) {a0 : Int32} {a1 : Int32} {x y : Int32} (ho : zy_o2 ks M zF_X9_rest zF_X10_rest [.int a0, .int a1] [.int a0, .int a1] (.int x) (.int y) N1 N2) (f1 : zt_fr WX_rest (zm_sub2 [(0, 164)] M) N1) (f2 : zt_fr WM_rest (zm_sub2 [(165, 31)] (zm_mrg [(0, 164)] M N1)) N2) : zR ks (zy_2 M N1 N2) := zR_2 hR f2 (by decide +kernel)
theorem zr_swaps (hks : ks ∈ zK_all) (hI : zy_I ks M) (hR : zR ks M) {x y : Int32} (ho : zy_o2 ks M zF_X9_swaps zF_X10_swaps [] [] (.int x) (.int y) N1 N2) (f1 : zt_fr WX_swaps (zm_sub2 [(0, 164)] M) N1) (f2 : zt_fr WM_swaps (zm_sub2 [(165, 31)] (zm_mrg [(0, 164)] M N1)) N2) : zR ks (zy_2 M N1 N2) := zR_2 hR f2 (by decide +kernel)
theorem zr_swap (hks : ks ∈ zK_all) (hI : zy_I ks M) (hR : zR ks M) {x y : Int32} (ho : zy_o2 ks M zF_X9_swap zF_X10_swap [] [] (.int x) (.int y) N1 N2) (f1 : zt_fr WX_swap (zm_sub2 [(0, 164)] M) N1) (f2 : zt_fr WM_swap (zm_sub2 [(165, 31)] (zm_mrg [(0, 164)] M N1)) N2) : zR ks (zy_2 M N1 N2) := zR_2 hR f2 (by decide +kernel)
theorem zr_chance (hks : ks ∈ zK_all) (hI : zy_I ks M) (hR : zR ks M) {a0 : Int32} {a1 : Int32} {a2 : Int32} {x y : Int64} (ho : zy_o2 ks M zF_X9_chance zF_X10_chance [.int a0, .int a1, .int a2] [.int a0, .int a1, .int a2] (.long x) (.long y) N1 N2) (f1 : zt_fr WX_chance (zm_sub2 [(0, 164)] M) N1) (f2 : zt_fr WM_chance (zm_sub2 [(165, 31)] (zm_mrg [(0, 164)] M N1)) N2) : zR ks (zy_2 M N1 N2) := zR_2 hR f2 (by decide +kernel)
theorem zr_luckily (hks : ks ∈ zK_all) (hI : zy_I ks M) (hR : zR ks M) {a0 : Int32} {a1 : Int32} {a2 : Int32} {x y : Int64} (ho : zy_o2 ks M zF_X9_luckily zF_X10_luckily [.int a0, .int a1, .int a2] [.int a0, .int a1, .int a2] (.long x) (.long y) N1 N2) (f1 : zt_fr WX_luckily (zm_sub2 [(0, 164)] M) N1) (f2 : zt_fr WM_luckily (zm_sub2 [(165, 31)] (zm_mrg [(0, 164)] M N1)) N2) : zR ks (zy_2 M N1 N2) := zR_2 hR f2 (by decide +kernel)
theorem zr_mean (hks : ks ∈ zK_all) (hI : zy_I ks M) (hR : zR ks M) {a0 : Int32} {a1 : Int32} {x y : Int64} (ho : zy_o2 ks M zF_X9_mean zF_X10_mean [.int a0, .int a1] [.int a0, .int a1] (.long x) (.long y) N1 N2) (f1 : zt_fr WX_mean (zm_sub2 [(0, 164)] M) N1) (f2 : zt_fr WM_mean (zm_sub2 [(165, 31)] (zm_mrg [(0, 164)] M N1)) N2) : zR ks (zy_2 M N1 N2) := zR_2 hR f2 (by decide +kernel)
theorem zr_move (hks : ks ∈ zK_all) (hI : zy_I ks M) (hR : zR ks M) {a0 : Int32} {a1 : Int32} {a2 : Int32} {x y : Int32} (ho : zy_o2 ks M zF_X9_move zF_X10_move [.int a0, .int a1, .int a2] [.int a0, .int a1, .int a2] (.int x) (.int y) N1 N2) (f1 : zt_fr WX_move (zm_sub2 [(0, 164)] M) N1) (f2 : zt_fr WM_move (zm_sub2 [(165, 31)] (zm_mrg [(0, 164)] M N1)) N2) : zR ks (zy_2 M N1 N2) := zR_2 hR f2 (by decide +kernel)
theorem zr_undo (hks : ks ∈ zK_all) (hI : zy_I ks M) (hR : zR ks M) {x y : Int32} (ho : zy_o2 ks M zF_X9_undo zF_X10_undo [] [] (.int x) (.int y) N1 N2) (f1 : zt_fr WX_undo (zm_sub2 [(0, 164)] M) N1) (f2 : zt_fr WM_undo (zm_sub2 [(165, 31)] (zm_mrg [(0, 164)] M N1)) N2) : zR ks (zy_2 M N1 N2) := zR_2 hR f2 (by decide +kernel)
theorem zr_anew (hks : ks ∈ zK_all) (hI : zy_I ks M) (hR : zR ks M) {x y : Int32} (ho : zy_o2 ks M zF_X9_anew zF_X10_anew [] [] (.int x) (.int y) N1 N2) (f1 : zt_fr WX_anew (zm_sub2 [(0, 164)] M) N1) (f2 : zt_fr WM_anew (zm_sub2 [(165, 31)] (zm_mrg [(0, 164)] M N1)) N2) : zR ks (zy_2 M N1 N2) := zR_2 hR f2 (by decide +kernel)
theorem zr_drawn (hks : ks ∈ zK_all) (hI : zy_I ks M) (hR : zR ks M) {a0 : Int32} {a1 : Int32} {x y : Int32} (ho : zy_o2 ks M zF_X9_drawn zF_X10_drawn [.int a0, .int a1] [.int a0, .int a1] (.int x) (.int y) N1 N2) (f1 : zt_fr WX_drawn (zm_sub2 [(0, 164)] M) N1) (f2 : zt_fr WM_drawn (zm_sub2 [(165, 31)] (zm_mrg [(0, 164)] M N1)) N2) : zR ks (zy_2 M N1 N2) := zR_2 hR f2 (by decide +kernel)
theorem zr_luck (hks : ks ∈ zK_all) (hI : zy_I ks M) (hR : zR ks M) {a0 : Int32} {a1 : Int32} {a2 : Int32} {x y : Int32} (ho : zy_o2 ks M zF_X9_luck zF_X10_luck [.int a0, .int a1, .int a2] [.int a0, .int a1, .int a2] (.int x) (.int y) N1 N2) (f1 : zt_fr WX_luck (zm_sub2 [(0, 164)] M) N1) (f2 : zt_fr WM_luck (zm_sub2 [(165, 31)] (zm_mrg [(0, 164)] M N1)) N2) : zR ks (zy_2 M N1 N2) := zR_2 hR f2 (by decide +kernel)
theorem zr_rate (hks : ks ∈ zK_all) (hI : zy_I ks M) (hR : zR ks M) {a0 : Int32} {x y : Int32} (ho : zy_o2 ks M zF_X9_rate zF_X10_rate [.int a0] [.int a0] (.int x) (.int y) N1 N2) (f1 : zt_fr WX_rate (zm_sub2 [(0, 164)] M) N1) (f2 : zt_fr WM_rate (zm_sub2 [(165, 31)] (zm_mrg [(0, 164)] M N1)) N2) : zR ks (zy_2 M N1 N2) := zR_2 hR f2 (by decide +kernel)
theorem zr_count (hks : ks ∈ zK_all) (hI : zy_I ks M) (hR : zR ks M) {a0 : Int32} {x y : Int32} (ho : zy_o2 ks M zF_X9_count zF_X10_count [.int a0] [.int a0] (.int x) (.int y) N1 N2) (f1 : zt_fr WX_count (zm_sub2 [(0, 164)] M) N1) (f2 : zt_fr WM_count (zm_sub2 [(165, 31)] (zm_mrg [(0, 164)] M N1)) N2) : zR ks (zy_2 M N1 N2) := zR_2 hR f2 (by decide +kernel)
theorem zr_row (hks : ks ∈ zK_all) (hI : zy_I ks M) (hR : zR ks M) {a0 : Int32} {a1 : Int32} {a2 : Int32} {x y : Int32} (ho : zy_o2 ks M zF_X9_row zF_X10_row [.int a0, .int a1, .int a2] [.int a0, .int a1, .int a2] (.int x) (.int y) N1 N2) (f1 : zt_fr WX_row (zm_sub2 [(0, 164)] M) N1) (f2 : zt_fr WM_row (zm_sub2 [(165, 31)] (zm_mrg [(0, 164)] M N1)) N2) : zR ks (zy_2 M N1 N2) := zR_2 hR f2 (by decide +kernel)
theorem zr_write (hks : ks ∈ zK_all) (hI : zy_I ks M) (hR : zR ks M) {a0 : Int32} {a1 : Int32} {a2 : Int64} {x y : Int32} (ho : zy_o2 ks M zF_X9_write zF_X10_write [.int a0, .int a1, .long a2] [.int a0, .int a1, .long a2] (.int x) (.int y) N1 N2) (f1 : zt_fr WX_write (zm_sub2 [(0, 164)] M) N1) (f2 : zt_fr WM_write (zm_sub2 [(165, 31)] (zm_mrg [(0, 164)] M N1)) N2) : zR ks (zy_2 M N1 N2) := zR_2 hR f2 (by decide +kernel)
theorem zr_paste (hks : ks ∈ zK_all) (hI : zy_I ks M) (hR : zR ks M) {a0 : Int32} {a1 : Int32} {a2 : Int32} {a3 : Int32} {a4 : Int32} {x y : Int32} (ho : zy_o2 ks M zF_X9_paste zF_X10_paste [.int a0, .int a1, .int a2, .int a3, .int a4] [.int a0, .int a1, .int a2, .int a3, .int a4] (.int x) (.int y) N1 N2) (f1 : zt_fr WX_paste (zm_sub2 [(0, 164)] M) N1) (f2 : zt_fr WM_paste (zm_sub2 [(165, 31)] (zm_mrg [(0, 164)] M N1)) N2) : zR ks (zy_2 M N1 N2) := zR_2 hR f2 (by decide +kernel)
end ZRR
theorem zr_image {ks ks2 : List Nat} {M M1 N2 : zm_I} (hks : ks ∈ zK_all) (hI : zy_I ks M) (hI2 : zy_I ks2 M1) (hR : zR ks M) {a0 x y : Int32} (ho : zy_img ks M a0 x ks2 M1) (h2 : zF_X10_image zW_M [.ref 0, .int a0] (zm_sub2 [(165, 31)] M1) = some (some (.int y), N2)) (f2 : zt_fr WM_image (zm_sub2 [(165, 31)] M1) N2) : zR ks2 (zm_mrg [(165, 31)] M1 N2) := by
  have hM := hI2.2.1
  rcases ho with ⟨hr, rfl, rfl, rfl⟩ | ⟨k, i, N, hk, rfl, rfl, hk2, hix, hor, rfl, hcp⟩
  · have k0 := zg_bd a0
    have hf : zt_fr [(0, 0, 0)] (zm_sub2 [(165, 31)] M1) N2 := by
      rcases zR_ge hr with hr | hr
      · exact (zg_all (w0 := zW_M) (G := zo_g22) (zi_2101 0 zo_hd) rfl rfl (zq_s1 zq_r0 (zq_s1 (zg_v (lo := -2147483648) (hi := -1) (by omega) (by omega)) zq_s0)) zh_no hM h2).1
      · exact (zg_all (w0 := zW_M) (G := zo_g22) (zi_2103 0 zo_hd) rfl rfl (zq_s1 zq_r0 (zq_s1 (zg_v (lo := 3) (hi := 2147483647) (by omega) (by omega)) zq_s0)) zh_no hM h2).1
    intro k hk
    rw [zR_1 hf (by simp [zt_hit])]
    exact hR k hk
  · have e0 : (zm_mrg [(196 + 10 * i, 10), (1, 10)] M N).1 176 = M.1 176 := ((zy_cp (a := 196 + 10 * i) (b := 1) (by omega) hcp.2.2 176).2 (by omega)).1
    have hold : ∀ q, q < 3 → q ≠ k → zR_v ks2 q = zR_v ks q := by
      intro q hq hne
      rcases hor with ⟨-, rfl⟩ | ⟨hn, rfl⟩
      · rfl
      · unfold zR_v
        rw [(zK_new hks hk hn).2.2.2 q hq hne]
    have hnew : zR_v ks2 k = 1 := by
      unfold zR_v
      rw [hix]
    have hW : (∀ q, q < 3 → q ≠ k → N2.1 11 q = (zm_sub2 [(165, 31)] (zm_mrg [(196 + 10 * i, 10), (1, 10)] M N)).1 11 q) ∧ (N2.1 11 k).toInt = 1 := by
      match k, hk with
      | 0, _ =>
        obtain ⟨q1, q2⟩ := zg_all (w0 := zW_M) (G := zo_g22) (zi_2107 0 zo_hd) rfl rfl (zq_s1 zq_r0 (zq_s1 (zg_v (lo := 0) (hi := 0) (by decide) (by decide)) zq_s0)) zh_no hM h2
        have q3 : 1 ≤ (N2.1 11 0).toInt ∧ (N2.1 11 0).toInt ≤ 1 := zg_cell (c := ((1, 11, 0), .ofNat 1, .ofNat 1)) (by decide +kernel) q2
        refine ⟨fun q hq hne => (q1 11 q ?_).1, by omega⟩
        match q, hq, hne with
        | 0, _, hne => exact absurd rfl hne
        | 1, _, hne => decide +kernel
        | 2, _, hne => decide +kernel
        | q + 3, hq, _ => omega
      | 1, _ =>
        obtain ⟨q1, q2⟩ := zg_all (w0 := zW_M) (G := zo_g22) (zi_2111 0 zo_hd) rfl rfl (zq_s1 zq_r0 (zq_s1 (zg_v (lo := 1) (hi := 1) (by decide) (by decide)) zq_s0)) zh_no hM h2
        have q3 : 1 ≤ (N2.1 11 1).toInt ∧ (N2.1 11 1).toInt ≤ 1 := zg_cell (c := ((1, 11, 1), .ofNat 1, .ofNat 1)) (by decide +kernel) q2
        refine ⟨fun q hq hne => (q1 11 q ?_).1, by omega⟩
        match q, hq, hne with
        | 0, _, hne => decide +kernel
        | 1, _, hne => exact absurd rfl hne
        | 2, _, hne => decide +kernel
        | q + 3, hq, _ => omega
      | 2, _ =>
        obtain ⟨q1, q2⟩ := zg_all (w0 := zW_M) (G := zo_g22) (zi_2115 0 zo_hd) rfl rfl (zq_s1 zq_r0 (zq_s1 (zg_v (lo := 2) (hi := 2) (by decide) (by decide)) zq_s0)) zh_no hM h2
        have q3 : 1 ≤ (N2.1 11 2).toInt ∧ (N2.1 11 2).toInt ≤ 1 := zg_cell (c := ((1, 11, 2), .ofNat 1, .ofNat 1)) (by decide +kernel) q2
        refine ⟨fun q hq hne => (q1 11 q ?_).1, by omega⟩
        match q, hq, hne with
        | 0, _, hne => decide +kernel
        | 1, _, hne => decide +kernel
        | 2, _, hne => exact absurd rfl hne
        | q + 3, hq, _ => omega
      | k + 3, h => omega
    intro q hq
    have e1 : (zm_mrg [(165, 31)] (zm_mrg [(196 + 10 * i, 10), (1, 10)] M N) N2).1 176 = N2.1 11 := (zy_m1 (a := 165) (z := 31) (n := 176) (by decide) (by decide) _ N2).1
    have e2 : (zm_sub2 [(165, 31)] (zm_mrg [(196 + 10 * i, 10), (1, 10)] M N)).1 11 = M.1 176 := ((zy_s1 (a := 165) (n := 11) (by decide) _).1).trans e0
    by_cases hqk : q = k
    · subst hqk
      rw [e1, hW.2, hnew]
    · rw [e1, hW.1 q hq hqk, e2, hold q hq hqk]
      exact hR q hq
theorem zr_back {ks : List Nat} {M M1 N2 : zm_I} (hks : ks ∈ zK_all) (hI : zy_I ks M) (hI2 : zy_I ks M1) (hR : zR ks M) {a0 x y : Int32} (ho : zy_bck ks M a0 x M1) (h2 : zF_X10_back zW_M [.ref 0, .int a0] (zm_sub2 [(165, 31)] M1) = some (some (.int y), N2)) (f2 : zt_fr WM_back (zm_sub2 [(165, 31)] M1) N2) : x = y ∧ zR ks (zm_mrg [(165, 31)] M1 N2) := by
  have hM := hI2.2.1
  have hkeep : ∀ (M1 : zm_I), M1.1 176 = M.1 176 → zt_fr WM_back (zm_sub2 [(165, 31)] M1) N2 → zR ks (zm_mrg [(165, 31)] M1 N2) := by
    intro M1 he hf k hk
    rw [zR_1 hf (by match k, hk with
      | 0, _ => decide +kernel
      | 1, _ => decide +kernel
      | 2, _ => decide +kernel
      | k + 3, h => omega), he]
    exact hR k hk
  rcases ho with ⟨hr, rfl, rfl⟩ | ⟨k, hk, rfl, hix, rfl, rfl⟩ | ⟨k, i, N, hk, rfl, hix, rfl, rfl, hcp⟩
  · refine ⟨Int32.toInt_inj.mp ?_, hkeep _ rfl f2⟩
    have k0 := zg_bd a0
    rcases zR_ge hr with hr | hr
    · rw [zg_val (w0 := zW_M) (G := zo_g22) (zi_2116 0 zo_hd) rfl rfl (-2) rfl (zq_s1 zq_r0 (zq_s1 (zg_v (lo := -2147483648) (hi := -1) (by omega) (by omega)) zq_s0)) zh_no hM h2]; decide
    · rw [zg_val (w0 := zW_M) (G := zo_g22) (zi_2117 0 zo_hd) rfl rfl (-2) rfl (zq_s1 zq_r0 (zq_s1 (zg_v (lo := 3) (hi := 2147483647) (by omega) (by omega)) zq_s0)) zh_no hM h2]; decide
  · refine ⟨Int32.toInt_inj.mp ?_, hkeep _ rfl f2⟩
    have e2 : ∀ q, (zm_sub2 [(165, 31)] M1).1 11 q = M1.1 176 q := fun q => by rw [(zy_s1 (a := 165) (n := 11) (by decide) M1).1]
    have hv := hR k hk
    unfold zR_v at hv
    rw [hix] at hv
    have hv : (M1.1 176 k).toInt = 0 := hv
    match k, hk with
    | 0, _ => rw [zg_val (w0 := zW_M) (G := zo_g22) (zi_2118 0 zo_hd) rfl rfl (-6) rfl (zq_s1 zq_r0 (zq_s1 (zg_v (lo := 0) (hi := 0) (by decide) (by decide)) zq_s0)) (zq_ca (zq_c1 (lo := 0) (hi := 0) (by rw [e2, hv]; decide) (by rw [e2, hv]; decide)) zh_no) hM h2]; decide
    | 1, _ => rw [zg_val (w0 := zW_M) (G := zo_g22) (zi_2119 0 zo_hd) rfl rfl (-6) rfl (zq_s1 zq_r0 (zq_s1 (zg_v (lo := 1) (hi := 1) (by decide) (by decide)) zq_s0)) (zq_ca (zq_c1 (lo := 0) (hi := 0) (by rw [e2, hv]; decide) (by rw [e2, hv]; decide)) zh_no) hM h2]; decide
    | 2, _ => rw [zg_val (w0 := zW_M) (G := zo_g22) (zi_2120 0 zo_hd) rfl rfl (-6) rfl (zq_s1 zq_r0 (zq_s1 (zg_v (lo := 2) (hi := 2) (by decide) (by decide)) zq_s0)) (zq_ca (zq_c1 (lo := 0) (hi := 0) (by rw [e2, hv]; decide) (by rw [e2, hv]; decide)) zh_no) hM h2]; decide
    | k + 3, h => omega
  · have e0 : (zi_fg (zm_mrg [(1, 10), (196 + 10 * i, 10)] M N)).1 176 = M.1 176 := ((zy_fgx _ (n := 176) (by decide)).1).trans (((zy_cp (a := 1) (b := 196 + 10 * i) (by omega) hcp.2.2 176).2 (by omega)).1)
    refine ⟨Int32.toInt_inj.mp ?_, hkeep _ e0 f2⟩
    have e2 : ∀ q, (zm_sub2 [(165, 31)] (zi_fg (zm_mrg [(1, 10), (196 + 10 * i, 10)] M N))).1 11 q = M.1 176 q := fun q => by rw [(zy_s1 (a := 165) (n := 11) (by decide) _).1, e0]
    have hv := hR k hk
    unfold zR_v at hv
    rw [hix] at hv
    have hv : (M.1 176 k).toInt = 1 := hv
    match k, hk with
    | 0, _ => rw [zg_val (w0 := zW_M) (G := zo_g22) (zi_2123 0 zo_hd) rfl rfl (0) rfl (zq_s1 zq_r0 (zq_s1 (zg_v (lo := 0) (hi := 0) (by decide) (by decide)) zq_s0)) (zq_ca (zq_c1 (lo := 1) (hi := 1) (by rw [e2, hv]; decide) (by rw [e2, hv]; decide)) zh_no) hM h2]; decide
    | 1, _ => rw [zg_val (w0 := zW_M) (G := zo_g22) (zi_2126 0 zo_hd) rfl rfl (0) rfl (zq_s1 zq_r0 (zq_s1 (zg_v (lo := 1) (hi := 1) (by decide) (by decide)) zq_s0)) (zq_ca (zq_c1 (lo := 1) (hi := 1) (by rw [e2, hv]; decide) (by rw [e2, hv]; decide)) zh_no) hM h2]; decide
    | 2, _ => rw [zg_val (w0 := zW_M) (G := zo_g22) (zi_2129 0 zo_hd) rfl rfl (0) rfl (zq_s1 zq_r0 (zq_s1 (zg_v (lo := 2) (hi := 2) (by decide) (by decide)) zq_s0)) (zq_ca (zq_c1 (lo := 1) (hi := 1) (by rw [e2, hv]; decide) (by rw [e2, hv]; decide)) zh_no) hM h2]; decide
    | k + 3, h => omega
theorem zr_start : zR [] zL_M := by
  intro k hk
  have e : zL_M.1 176 k = 0 := by
    have := zl_fM (n := 11) (by decide)
    rw [show (176 : Nat) = 165 + 11 from rfl, this, zl_z (by decide)]
  rw [e]
  rfl
