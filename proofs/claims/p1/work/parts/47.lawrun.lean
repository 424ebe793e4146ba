/-! THE LAW'S RUN, op by op -/
theorem zl_subX : zm_sub [(0, 164)] zL_C = zW_X := zn_eqL_ok (by decide +kernel)
theorem zl_subM : zm_sub [(165, 31)] zL_C = zW_M := zn_eqL_ok (by decide +kernel)
theorem zn_wr_1 : ∀ (L : zn_W) (M : zm_I), (zn_wr L M).1 = L.foldl (fun I q => zm_w I q.1 q.2.1 q.2.2) M.1
  | [], _ => rfl
  | q :: L, M => zn_wr_1 L _
theorem zl_WX {n : Nat} (hn : n < 164) (i : Nat) : (zn_wr zL_WC (fun _ _ => 0, fun _ _ => 0)).1 n i = zc_I n i := by
  have h1 : n ≠ 165 := by omega
  have h2 : n ≠ 166 := by omega
  unfold zc_I zL_WC
  rw [zn_wr_1, zn_wr_1]
  simp only [List.foldl, zm_w, h1, h2, false_and, if_false]
theorem zl_WM {n : Nat} (hn : n < 31) (i : Nat) : (zn_wr zL_WC (fun _ _ => 0, fun _ _ => 0)).1 (165 + n) i = zc_M n i := by
  have e0 : (165 + n = 165) = (n = 0) := by apply propext; omega
  have e1 : (165 + n = 166) = (n = 1) := by apply propext; omega
  have h1 : ¬ 165 + n = 51 := by omega
  have h2 : ¬ 165 + n = 54 := by omega
  have h3 : ¬ 165 + n = 56 := by omega
  have h4 : ¬ 165 + n = 58 := by omega
  have h5 : ¬ 165 + n = 60 := by omega
  unfold zc_M zL_WC
  rw [zn_wr_1, zn_wr_1]
  simp only [List.foldl, zm_w, e0, e1, h1, h2, h3, h4, h5, false_and, if_false]
theorem zl_freshX : zy_X (zm_sub2 [(0, 164)] zL_M).1 (zm_sub2 [(0, 164)] zL_M).2 := by
  refine ⟨fun n i hn => ?_, fun n i hn => zL_M2 (zm_fw [(0, 164)] n) i⟩
  show zL_M.1 (zm_fw [(0, 164)] n) i = zc_I n i
  have : zm_fw [(0, 164)] n = n := by simp [zm_fw, hn]
  rw [this, zL_M1 (by omega), zl_WX hn]
theorem zl_in {n : Nat} : zm_in [(0, 164)] (165 + n) = false := by
  have h : Nat.ble (165 + n + 1) (0 + 164) = false := by
    cases hq : Nat.ble (165 + n + 1) (0 + 164) with
    | false => rfl
    | true => have := Nat.le_of_ble_eq_true hq; omega
  simp only [zm_in, h, Bool.and_false, Bool.or_false]
theorem zl_freshM (N : zm_I) : zy_M (zm_sub2 [(165, 31)] (zm_mrg [(0, 164)] zL_M N)).1 (zm_sub2 [(165, 31)] (zm_mrg [(0, 164)] zL_M N)).2 := by
  constructor
  · intro n i hn
    show (zm_mrg [(0, 164)] zL_M N).1 (zm_fw [(165, 31)] n) i = zc_M n i
    have : zm_fw [(165, 31)] n = 165 + n := by simp [zm_fw, hn]
    rw [this]
    simp only [zm_mrg, zl_in]
    rw [zL_M1 (by omega), zl_WM hn]
  · intro n i hn
    show (zm_mrg [(0, 164)] zL_M N).2 (zm_fw [(165, 31)] n) i = 0
    have : zm_fw [(165, 31)] n = 165 + n := by simp [zm_fw, hn]
    rw [this]
    simp only [zm_mrg, zl_in]
    exact zL_M2 _ _
set_option maxRecDepth 20000 in
theorem zl_callX {nn : Nat} {F : zm_L → List Value → zm_I → zm_R} {as : List Value} {v : Value} {N : zm_I} (h : F zW_X (.ref 0 :: as) (zm_sub2 [(0, 164)] zL_M) = some (some v, N)) (ha : as.map (zm_tr [(0, 164)]) = as) (hv : zm_bk [(0, 164)] v = v) (k : Option Value → zm_I → zm_R) : zm_app (nn, some 9, false, [(0, 164)], F) zL_C (.ref 0 :: as) zL_M k = k (some v) (zm_mrg [(0, 164)] zL_M N) := by
  have g := zm_app_l (C := (nn, some 9, false, [(0, 164)], F)) (wl := zL_C) (as := .ref 0 :: as) (wc := zW_X) (ac := .ref 0 :: as) (bs := [(0, 164)]) (M := zL_M) (k := k) rfl rfl rfl rfl zl_subX (by rw [List.map_cons, ha]; rfl) h
  rw [g]
  simp only [Option.map_some, hv]
set_option maxRecDepth 20000 in
theorem zl_callM {nn : Nat} {F : zm_L → List Value → zm_I → zm_R} {as : List Value} {v : Value} {M N : zm_I} (h : F zW_M (.ref 0 :: as) (zm_sub2 [(165, 31)] M) = some (some v, N)) (ha : as.map (zm_tr [(165, 31)]) = as) (hv : zm_bk [(165, 31)] v = v) (k : Option Value → zm_I → zm_R) : zm_app (nn, some 10, false, [(0, 31)], F) zL_C (.ref 165 :: as) M k = k (some v) (zm_mrg [(165, 31)] M N) := by
  have g := zm_app_l (C := (nn, some 10, false, [(0, 31)], F)) (wl := zL_C) (as := .ref 165 :: as) (wc := zW_M) (ac := .ref 0 :: as) (bs := [(165, 31)]) (M := M) (k := k) rfl rfl rfl rfl zl_subM (by rw [List.map_cons, ha]; rfl) h
  rw [g]
  simp only [Option.map_some, hv]
theorem zl_tail {T : zm_T} (h : zl_tl T) (wl : zm_L) (M0 N : zm_I) : zl_ok T wl M0 (2286, zl_ls, [], N) := by
  obtain ⟨xs, hs⟩ := h.2.2.1
  refine zl_ok_step (S' := (18, zl_lb (0 + 6), [], N)) (h.1 wl N) ?_
  refine zl_ok_step (S' := (2292, zl_lb (0 + 6), [], N)) (fun k => (zl_e18 wl h.2.1 hs (0 + 6) N k).trans (if_pos (by decide))) ?_
  refine zl_ok_step (S' := (2293, zl_lb (0 + 6), [.int 1], N)) (h.2.2.2 wl (0 + 6) N) ?_
  exact ⟨0, rfl⟩
theorem zl_opI {T : zm_T} (ht : zl_tl T) {pc pc1 pc2 pc3 : Nat} {C1 C2 : zm_C} {A1 A2 : List Value} {v : Int32} {N N' : zm_I} (M0 : zm_I) (e1 : ∀ (M : zm_I) (k : zm_S → zm_R), zm_step T zL_C k (pc, zl_ls, [], M) = zm_app C1 zL_C A1 M (fun v N => k (pc1, zl_ls, v.toList ++ [], N))) (e2 : ∀ (v : Int32) (M : zm_I) (k : zm_S → zm_R), zm_step T zL_C k (pc1, zl_ls, [.int v], M) = zm_app C2 zL_C A2 M (fun w N => k (pc2, zl_ls, w.toList ++ [.int v], N))) (e3 : ∀ (v w : Int32) (M : zm_I) (k : zm_S → zm_R), zm_step T zL_C k (pc2, zl_ls, [.int w, .int v], M) = if v = w then k (2286, zl_ls, [], M) else k (pc3, zl_ls, [], M)) (h1 : ∀ k, zm_app C1 zL_C A1 zL_M k = k (some (.int v)) N) (h2 : ∀ k, zm_app C2 zL_C A2 N k = k (some (.int v)) N') : zl_ok T zL_C M0 (pc, zl_ls, [], zL_M) := by
  refine zl_ok_step (S' := (pc1, zl_ls, [.int v], N)) (fun k => (e1 _ k).trans (h1 _)) ?_
  refine zl_ok_step (S' := (pc2, zl_ls, [.int v, .int v], N')) (fun k => (e2 v _ k).trans (h2 _)) ?_
  refine zl_ok_step (S' := (2286, zl_ls, [], N')) (fun k => (e3 v v _ k).trans (if_pos rfl)) ?_
  exact zl_tail ht zL_C M0 N'
theorem zl_opJ {T : zm_T} (ht : zl_tl T) {pc pc1 pc2 pc3 : Nat} {C1 C2 : zm_C} {A1 A2 : List Value} {v : Int64} {N N' : zm_I} (M0 : zm_I) (e1 : ∀ (M : zm_I) (k : zm_S → zm_R), zm_step T zL_C k (pc, zl_ls, [], M) = zm_app C1 zL_C A1 M (fun v N => k (pc1, zl_ls, v.toList ++ [], N))) (e2 : ∀ (v : Int64) (M : zm_I) (k : zm_S → zm_R), zm_step T zL_C k (pc1, zl_ls, [.long v], M) = zm_app C2 zL_C A2 M (fun w N => k (pc2, zl_ls, w.toList ++ [.long v], N))) (e3 : ∀ (v w : Int64) (M : zm_I) (k : zm_S → zm_R), zm_step T zL_C k (pc2, zl_ls, [.long w, .long v], M) = if lg_cmp v w = 0 then k (2286, zl_ls, [], M) else k (pc3, zl_ls, [], M)) (h1 : ∀ k, zm_app C1 zL_C A1 zL_M k = k (some (.long v)) N) (h2 : ∀ k, zm_app C2 zL_C A2 N k = k (some (.long v)) N') : zl_ok T zL_C M0 (pc, zl_ls, [], zL_M) := by
  refine zl_ok_step (S' := (pc1, zl_ls, [.long v], N)) (fun k => (e1 _ k).trans (h1 _)) ?_
  refine zl_ok_step (S' := (pc2, zl_ls, [.long v, .long v], N')) (fun k => (e2 v _ k).trans (h2 _)) ?_
  refine zl_ok_step (S' := (2286, zl_ls, [], N')) (fun k => (e3 v v _ k).trans (if_pos ((lg_cmp_eq v v).mpr rfl))) ?_
  exact zl_tail ht zL_C M0 N'
