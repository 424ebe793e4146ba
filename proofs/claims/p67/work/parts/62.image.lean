/-! IMAGE, BACK: the law's cases of them -/
def zi_Q (D : va_G) (cA : FieldType → ClassId) (h : Nat → Nat → Nat) (A : Nat → Prop) (ks : List Nat) (k : Nat) (M : zm_I) : Array Value → State → Outcome → State → Prop := fun _ st o t =>
  o = .returned (some (.int 0)) ∧ (∃ (h1 : Nat → Nat → Nat) (N : zm_I), zn_ext (196 + 10 * ks.length) h h1 ∧ va_P D zm_cl (zm_ws cA h1 (zL_w (ks ++ [k])) (zm_mrg [(196 + 10 * ks.length, 10), (1, 10)] M N)) t.heap ∧ va_D A (zm_ws cA h1 (zL_w (ks ++ [k])) (zm_mrg [(196 + 10 * ks.length, 10), (1, 10)] M N)) ∧ zy_cpy (196 + 10 * ks.length) 1 M N) ∧ va_F A st t
theorem zi_mono {p : Program} {l : Launch} {e : Env} {R : Room} {s : State} {m : MethodId} {args : Array Value} {below : List Frame} {meth : Method} {c : Code} {H : Heap} {locs : List Loc} {c0 s0 : Nat} {Q Q' : State → Prop} {gf : JFrame} (h : W p l e R s m args below meth c H locs c0 s0 Q gf) (hq : ∀ t, Q t → Q' t) : W p l e R s m args below meth c H locs c0 s0 Q' gf := fun T hT X => by
  obtain ⟨t, a, b⟩ := h T hT X
  exact ⟨t, a, hq t b⟩
theorem zi_met (l : Launch) (D : va_G) (cA : FieldType → ClassId) (h : Nat → Nat → Nat) (A : Nat → Prop) {ks : List Nat} (hks : ks ∈ zK_all) {k : Nat} (hk : k < 3) (hx : zK_ix ks k = none) {M : zm_I} (hI : zy_I ks M) : Met l yX9_image (.code yX9_image cX9_image 3 (some .int) :: zm_tbl) zR_img (zn_Pc D cA h A (zL_w ks) [.ref 0, .int (Int32.ofNat k)] M) (zi_Q D cA h A ks k M) 10 171 A := by
  refine Met.ofW (cc := cX9_image) (maxL := 3) (ret := some .int) (by decide) rfl ?_
  intro p e s m args below meth c s₁ B hml hv
  obtain ⟨rfl, hP, hK, hD, hA, hw, hfr, hZ, hAO⟩ := hv
  have hts := atoms_spec (ws := Jvm.Cond.code yX9_image cX9_image 3 (some .int) :: zm_tbl) B.pre
  have hown : s.vm.findClass RX9 = some m.cls := findClass_of_methodNamed B.named
  have hB0 : ∀ T0 : zm_T, T0.2.2.2.1 = some .int → T0.2.2.2.2 = none → ∀ (h' : Nat → Nat → Nat) (c0 s0 : Nat), (∀ n, h' 1 n = h 1 n) → c0 ≤ zR_img.cells → s0 ≤ zR_img.slots → zm_B p s m (([.ref 0, .int (Int32.ofNat k)] : List Value).map (zm_cv h)).toArray meth c RX9 cX9_image 3 T0 D cA h' A zR_img c0 s0 := fun T0 hr hn h' c0 s0 hg hc0 hs0 => ⟨B.exec, B.bytes, hml, hown, fun w hw9 => hts w (List.mem_cons_of_mem _ hw9), hK, by rw [hr]; exact B.returns, B.notSynchronized, by rw [show h' 1 = h 1 from funext hg]; exact hZ, ⟨hc0, hs0⟩, fun x hx9 => by rw [hn] at hx9; cases hx9⟩
  have hB : zn_B p s m (([.ref 0, .int (Int32.ofNat k)] : List Value).map (zm_cv h)).toArray meth c RX9 cX9_image 3 ([], [], [], some .int, none) D cA (h 1) A zR_img := ⟨hB0 _ rfl rfl, hA, hAO⟩
  have hnp : ∀ (pc idx a b : Nat), zm_look zU_img.1 pc ≠ some (.putfield idx, a, b) := fun pc idx a b hq => by
    have := List.all_eq_true.mp (show zA_img.all (fun q => match q.2.1 with
      | .putfield _ => false
      | _ => true) = true by decide +kernel) _ (zm_look_mem hq)
    cases this
  rw [lg_entry_eq]
  have hl := lv_entry (([.ref 0, .int (Int32.ofNat k)] : List Value).map (zm_cv h)) (n := 3) (by simp [lg_sl, zm_cv, Value.category])
  have hgo2 := zn_go_ok (l := l) (e := e) (below := below) (Q := MQ below (zi_Q D cA h A ks k M) (([.ref 0, .int (Int32.ofNat k)] : List Value).map (zm_cv h)).toArray s 10 171 A) hB (Or.inr hnp) ⟨rfl, rfl⟩ (zx_img l) 60 h (zi_S0 ks k M) (zi_S1 ks k M) (fun _ => rfl) (Nat.zero_le _) (Nat.zero_le _) (zi_goM hks hk hx M)
  refine hgo2.2 (fun h1 hx1 => ?_) hD hfr hw s.heap [] _ ⟨rfl, hl.1, hl.2.1, fun q v hq => ?_⟩ hP va_S.rf
  · intro hD1 hfr1 hw1
    obtain ⟨g1, g2, -, -⟩ := zK_new hks hk hx
    have hlt : ks.length < (ks ++ [k]).length := by rw [List.length_append, List.length_singleton]; omega
    obtain ⟨N, hV, hcp⟩ := zi_copy g1 hlt (zy_newI hks hk hx hI) (Int32.ofNat k)
    obtain ⟨n, hn⟩ := zm_V_run hV
    have hG := zm_run_ok (l := l) (e := e) (below := below) (hB0 zT_im rfl rfl h1 10 171 (fun n => hx1.2 n) (Nat.le_refl _) (Nat.le_refl _)) (zx_im l) (M0 := M) hD1 hA hw1 n _ hn
    intro H locs la hl1 hP1 hS1
    refine zi_mono (hG H locs la hl1 hP1 hS1) (fun t ht => ?_)
    obtain ⟨o, t1, t2, ⟨t3, t4, t5⟩, t6⟩ := ht
    have hx2 : zn_ext (196 + 10 * ks.length) h h1 := by
      have := hx1
      unfold zi_S0 at this
      rw [(zK_w hks).2.2.1] at this
      exact this
    exact ⟨o, t1, t2, ⟨t3, ⟨h1, N, hx2, t4, zm_D_any hD1, hcp⟩, t5⟩, t6⟩
  · match q, hq with
    | 0, hq => cases hq; rfl
    | 1, hq => cases hq; rfl
    | 2, hq => cases hq
    | q + 3, hq => cases hq
theorem zy_MI {ks : List Nat} (hks : ks ∈ zK_all) {M N : zm_I} (hI : zy_I ks M) (g2 : zt_Gs zo_g22 N) (p2 : zq_P N) : zy_I ks (zm_mrg [(165, 31)] M N) := by
  obtain ⟨h1, h2, h3, h4, h5⟩ := hI
  have hin : ∀ {n : Nat}, n < 31 → (zm_mrg [(165, 31)] M N).1 (165 + n) = N.1 n := fun {n} hn => by
    have e := (zy_m1 (a := 165) (z := 31) (n := 165 + n) (by omega) (by omega) M N).1
    rw [Nat.add_sub_cancel_left] at e
    exact e
  refine ⟨zy_Gs zo_l1 (fun n hn => (zy_m0 (by omega) M N).1.trans (zy_s1 hn M).1.symm) h1, zy_Gs zo_l22 (fun n hn => hin hn) g2, zy_P ((zy_s1 (by decide) _).1.trans (hin (by decide))) ((zy_s1 (by decide) _).1.trans (hin (by decide))) p2, fun i hi => zy_Gs zo_l2 (fun n hn => (zy_m0 (by omega) M N).1.trans (zy_s1 hn M).1.symm) (h4 i hi), fun a ha => ?_⟩
  have hl := (zK_w hks).2.2.1
  have e := zy_m0 (a := 165) (z := 31) (n := a) (by omega) M N
  rw [e.1, e.2]
  exact h5 a ha
section ZFI
variable {p : Program} {l : Launch} {e : Env} {s : State} {m : MethodId} {below : List Frame} {meth : Method} {c : Code} {b L : Nat} {xs : Nat → Int32} {D : va_G} {cA : FieldType → ClassId} {g : Nat → Nat} {h : Nat → Nat → Nat} {c0 s0 : Nat} {T : zm_T} {M : zm_I} {ks : List Nat} {ls : List (Option Value)} {pc pc1 pc2 nM : Nat} {FM : zm_L → List Value → zm_I → zm_R} {aM : List Value}
/-- the reference's call alone, its answer not compared -/
theorem zy_midI (hB : zf_B p s m meth c b L xs D cA g) (hg : ∀ n, h 1 n = g n) (hks : ks ∈ zK_all) (hD : va_D (fun q => s.heap.size ≤ q) (zm_ws cA h (zL_w ks) M)) (hc : c0 ≤ room_1.cells) (hs : s0 ≤ room_1.slots) (hT : zm_ok l room_1 R_law code T ∧ zl_nr T.1 = true) (h1 : T.2.2.2.1 = ret) (h2 : T.2.2.2.2 = some (L, xs)) {v : Int32}
    (e2 : ∀ (k : zm_S → zm_R), zm_step T (zL_w ks) k (pc1, ls, [.int v], M) = zm_app (nM, some 10, false, [(0, 31)], FM) (zL_w ks) (.ref 165 :: aM) M (fun w N => k (pc2, ls, w.toList ++ [], N)))
    (e3 : ∀ (w : Int32) (M : zm_I) (k : zm_S → zm_R), zm_step T (zL_w ks) k (pc2, ls, [.int w], M) = k (zp_tail, ls, [], M))
    (tM : aM.map (zm_tr [(165, 31)]) = aM) {y : Int32} {N2 : zm_I} (ho : FM zW_M (.ref 0 :: aM) (zm_sub2 [(165, 31)] M) = some (some (.int y), N2))
    (hk : zm_G p l e room_1 s m #[Value.ref b] below meth c (zf_Z below #[Value.ref b] s) D cA h (zL_w ks) (fun q => s.heap.size ≤ q) 4 c0 s0 (zp_tail, ls, [], zm_mrg [(165, 31)] M N2)) : zm_G p l e room_1 s m #[Value.ref b] below meth c (zf_Z below #[Value.ref b] s) D cA h (zL_w ks) (fun q => s.heap.size ≤ q) 4 c0 s0 (pc1, ls, [.int v], M) := by
  have hw := (zK_w hks).2.2.2.1
  refine zf_step hB hg hT h1 h2 hD hw hc hs (S' := (pc2, ls, [.int y], zm_mrg [(165, 31)] M N2)) (fun k => (e2 k).trans (zy_callM hks ho tM rfl _)) ?_
  exact zf_step hB hg hT h1 h2 (zm_D_any hD) hw hc hs (M0 := M) (fun k => e3 y _ k) hk
/-- the reference's call alone, its answer compared -/
theorem zy_midC (hB : zf_B p s m meth c b L xs D cA g) (hg : ∀ n, h 1 n = g n) (hks : ks ∈ zK_all) (hD : va_D (fun q => s.heap.size ≤ q) (zm_ws cA h (zL_w ks) M)) (hc : c0 ≤ room_1.cells) (hs : s0 ≤ room_1.slots) (hT : zm_ok l room_1 R_law code T ∧ zl_nr T.1 = true) (h1 : T.2.2.2.1 = ret) (h2 : T.2.2.2.2 = some (L, xs)) {v : Int32}
    (e2 : ∀ (k : zm_S → zm_R), zm_step T (zL_w ks) k (pc1, ls, [.int v], M) = zm_app (nM, some 10, false, [(0, 31)], FM) (zL_w ks) (.ref 165 :: aM) M (fun w N => k (pc2, ls, w.toList ++ [.int v], N))) {pcF : Nat}
    (e3 : ∀ (v w : Int32) (M : zm_I) (k : zm_S → zm_R), zm_step T (zL_w ks) k (pc2, ls, [.int w, .int v], M) = if v = w then k (zp_tail, ls, [], M) else k (pcF, ls, [], M))
    (tM : aM.map (zm_tr [(165, 31)]) = aM) {y : Int32} {N2 : zm_I} (ho : FM zW_M (.ref 0 :: aM) (zm_sub2 [(165, 31)] M) = some (some (.int y), N2)) (hxy : v = y)
    (hk : zm_G p l e room_1 s m #[Value.ref b] below meth c (zf_Z below #[Value.ref b] s) D cA h (zL_w ks) (fun q => s.heap.size ≤ q) 4 c0 s0 (zp_tail, ls, [], zm_mrg [(165, 31)] M N2)) : zm_G p l e room_1 s m #[Value.ref b] below meth c (zf_Z below #[Value.ref b] s) D cA h (zL_w ks) (fun q => s.heap.size ≤ q) 4 c0 s0 (pc1, ls, [.int v], M) := by
  have hw := (zK_w hks).2.2.2.1
  refine zf_step hB hg hT h1 h2 hD hw hc hs (S' := (pc2, ls, [.int y, .int v], zm_mrg [(165, 31)] M N2)) (fun k => (e2 k).trans (zy_callM hks ho tM rfl _)) ?_
  exact zf_step hB hg hT h1 h2 (zm_D_any hD) hw hc hs (M0 := M) (fun k => (e3 v y _ k).trans (if_pos hxy)) hk
theorem zy_rec9 (ks : List Nat) (as : List Value) : zm_recv (zL_w ks) (.ref 0 :: as) (some 9) = true := by
  show zm_isO (zL_w ks) 9 (.ref 0) = true
  simp only [zm_isO, zK_0]
  rfl
theorem zy_own {nn : Nat} {F : zm_L → List Value → zm_I → zm_R} {as : List Value} {v : Value} {N : zm_I} (h : F (zL_w ks) (.ref 0 :: as) M = some (some v, N)) (k : Option Value → zm_I → zm_R) : zm_app (nn, some 9, true, [], F) (zL_w ks) (.ref 0 :: as) M k = k (some v) N := zm_app_s (C := (nn, some 9, true, [], F)) (zy_rec9 ks as) rfl h
/-- the class's image where it makes a bench -/
theorem zf_call (hB : zf_B p s m meth c b L xs D cA g) (hg : ∀ n, h 1 n = g n) (hks : ks ∈ zK_all) (hD : va_D (fun q => s.heap.size ≤ q) (zm_ws cA h (zL_w ks) M)) (hc : c0 + 10 ≤ room_1.cells) (hs : s0 + 171 ≤ room_1.slots) {k : Nat} (hk : k < 3) (hx : zK_ix ks k = none) (hI : zy_I ks M) {j : Nat}
    (hG : ∀ (h1 : Nat → Nat → Nat) (N : zm_I), (∀ n, h1 1 n = g n) → va_D (fun q => s.heap.size ≤ q) (zm_ws cA h1 (zL_w (ks ++ [k])) (zm_mrg [(196 + 10 * ks.length, 10), (1, 10)] M N)) → zy_cpy (196 + 10 * ks.length) 1 M N → zm_G p l e room_1 s m #[Value.ref b] below meth c (zf_Z below #[Value.ref b] s) D cA h1 (zL_w (ks ++ [k])) (fun q => s.heap.size ≤ q) 4 (c0 + 10) (s0 + 171) (zp_im1, zl_lb (zl_i j), [.int 0], zm_mrg [(196 + 10 * ks.length, 10), (1, 10)] M N)) :
    zm_G p l e room_1 s m #[Value.ref b] below meth c (zf_Z below #[Value.ref b] s) D cA h (zL_w ks) (fun q => s.heap.size ≤ q) 4 c0 s0 (zp_imc, zl_lb (zl_i j), [.int (Int32.ofNat k), .ref 0], M) := by
  intro H locs la hl hP hS
  obtain ⟨hx0, hb, hml, hown, hts, hK, hr, hlk, hZ, hcs, hsc⟩ := hB.1 ([], [], [], ret, none) rfl (Or.inl rfl) h 0 0 hg (Nat.zero_le _) (Nat.zero_le _)
  have hM := zi_met l D cA h (fun q => s.heap.size ≤ q) hks hk hx hI
  have hrec : ∃ cellB : Cell, H[h 0 0]? = some cellB ∧ cellB.vm.isStatics = false ∧ s.vm.findClass RX9 = some cellB.cls := by
    obtain ⟨r0, g1, cell, q1, q2, q3, -⟩ := hP 0 _ (zm_ws_at (zK_0 ks))
    refine ⟨cell, q1, by rw [q3]; rfl, ?_⟩
    have e9 : r0 = (RX9, TX9, 13) := Option.some.inj (g1.symm.trans rfl)
    subst e9
    rw [q2]
    exact (hK.1 9 _ rfl).2.1
  have hGV : GoodIn zm_tbl (wsV R_law zp_imi RX9 yX9_image (Jvm.Cond.code yX9_image cX9_image 3 (some .int) :: zm_tbl)) := by
    intro w hw
    unfold wsV at hw
    rcases List.mem_append.mp hw with hw | hw
    · simp only [List.mem_cons, List.not_mem_nil, or_false] at hw
      rcases hw with rfl | rfl | rfl | rfl
      · exact zm_good _ zw_imL
      · exact zm_good _ zw_imW.2.2.1
      · exact zm_good _ zw_imW.2.2.2
      · exact zm_good _ zw_imW.2.1
    · rcases List.mem_cons.mp hw with rfl | hw
      · exact zm_good _ zw_imW.1
      · exact zm_good _ hw
  have hpc : ∀ U : State, U.heap = H → s.WarmedH U.vm → zn_Pc D cA h (fun q => s.heap.size ≤ q) (zL_w ks) [.ref 0, .int (Int32.ofNat k)] M ([Value.ref (h 0 0), Value.int (Int32.ofNat k)] : List Value).toArray U := fun U hU hW => ⟨rfl, by rw [hU]; exact hP, va_K.moved hW.alike hK, hD, fun q9 h9 => Nat.le_trans hS.1 (by rw [hU] at h9; exact h9), (zK_w hks).2.2.2.1, hI.2.2.2.2, by rw [hU]; exact zm_Z_go hZ hS hW (fun _ z => z), zn_AO_warm hW hB.2⟩
  have hrun : va_Run p l e room_1 s m #[Value.ref b] below meth c H locs c0 s0 10 171 (F0 m zp_imc la [Value.int (Int32.ofNat k), Value.ref (h 0 0)]) [] (zi_Q D cA h (fun q => s.heap.size ≤ q) ks k M ([Value.ref (h 0 0), Value.int (Int32.ofNat k)] : List Value).toArray) (fun q => s.heap.size ≤ q) :=
    va_runV (b := h 0 0) (As := [Value.int (Int32.ofNat k)]) ⟨hx0, hb, hml, hown, hts⟩ hM (cwV 1 hts hGV rfl rfl rfl ⟨rfl, by decide, by decide, by decide +kernel⟩ ⟨Nat.le_of_ble_eq_true rfl, Nat.le_of_ble_eq_true rfl⟩) ⟨zn_blind, hrec, hpc⟩ rfl rfl hl.2.1 rfl (lv_room (by simp)) zf_dimg ⟨hc, hs⟩
  show W p l e room_1 s m #[Value.ref b] below meth c H locs c0 s0 (zf_Z below #[Value.ref b] s) (F0 m zp_imc la [Value.int (Int32.ofNat k), Value.ref (h 0 0)])
  intro Tn hT X
  obtain ⟨v, st₀, t, T', Lc, h0, X', hL, e1, e2, ⟨hv, ⟨h1, N, hx2, hP1, hD1, hcp⟩, hz, hkk⟩, stp⟩ := hrun Tn hT X
  cases hv
  rw [h0] at hz hkk
  have hG := hG h1 N (fun n => (hx2.2 n).trans (hg n)) hD1 hcp
  obtain ⟨t2, a1, b1⟩ := hG T'.heap (locs ++ Lc) la (zn_lok hx2 hl (by
      have hb0 : Nat.ble (0 + 1) (196 + 10 * ks.length) = true := Nat.ble_eq_true_of_le (by omega)
      have hb1 : Nat.ble (165 + 1) (196 + 10 * ks.length) = true := Nat.ble_eq_true_of_le (by omega)
      simp only [zl_lb, List.all_cons, List.all_nil, zn_clO, zn_clV, hb0, hb1, Bool.and_true])) (by rw [e1]; exact hP1)
    ⟨Nat.le_trans hS.1 (by rw [e1]; exact hz), fun q9 g1 g2 => by rw [e1, hkk q9 (Nat.lt_of_lt_of_le g1 hS.1) g2]; exact hS.2.1 q9 g1 g2, fun q9 hq9 => by
      rcases List.mem_append.mp hq9 with h9 | h9
      · exact hS.2.2 q9 h9
      · exact hL q9 h9⟩ T' rfl X'
  exact ⟨t2, stp t2 a1, b1⟩
theorem zy_image (hB : zf_B p s m meth c b L xs D cA g) {j : Nat} (hj : 6 * j + 6 ≤ L ∧ L ≤ 3072) (hk : zf_K p l e s m below meth c b D cA g zp_tail (zl_lb (zl_i j))) : zf_K p l e s m below meth c b D cA g zp_img (zl_lb (zl_i j)) := by
  intro ks h M c0 s0 hks hg hD hc hs hI hR
  have hw := (zK_w hks).2.2.2.1
  generalize hx1 : xs (6 * j + 1) = x
  have mid : ∀ {ks2 : List Nat} {h2 : Nat → Nat → Nat} {M1 : zm_I} {v : Int32} {c1 s1 : Nat}, ks2 ∈ zK_all → (∀ n, h2 1 n = g n) → va_D (fun q => s.heap.size ≤ q) (zm_ws cA h2 (zL_w ks2) M1) → c1 + 10 * (3 - ks2.length) ≤ room_1.cells → s1 + 171 * (3 - ks2.length) ≤ room_1.slots → zy_I ks2 M1 → zy_img ks M x v ks2 M1 → zm_G p l e room_1 s m #[Value.ref b] below meth c (zf_Z below #[Value.ref b] s) D cA h2 (zL_w ks2) (fun q => s.heap.size ≤ q) 4 c1 s1 (zp_im1, zl_lb (zl_i j), [.int v], M1) := by
    intro ks2 h2 M1 v c1 s1 hks2 hg2 hD2 hc2 hs2 hI2 ho
    obtain ⟨y, N2, q1, q2, q3, q4⟩ := zp_X10_image hI2.2.1 hI2.2.2.1 x
    exact zy_midI hB hg2 hks2 hD2 (by omega) (by omega) (zxo_image l L xs) rfl rfl (fun k => (zl2_image hj xs (zL_w ks2) v M1 k).trans (by rw [hx1])) (fun w M => zl3_image L xs _ (zL_w ks2) w M) rfl q1 (hk ks2 h2 _ c1 s1 hks2 hg2 (zm_D_any hD2) hc2 hs2 (zy_MI hks2 hI2 q2 q3) (zr_image hks hI hI2 hR ho q1 q4))
  have e1 : ∀ k : zm_S → zm_R, zm_step (zTo_i2 L xs) (zL_w ks) k (zp_img, zl_lb (zl_i j), [], M) = zm_app (2, some 9, true, [], zF_im) (zL_w ks) [.ref 0, .int x] M (fun v N => k (zp_im1, zl_lb (zl_i j), v.toList ++ [], N)) := fun k => (zl1_i2 hj xs (zL_w ks) M k).trans (by rw [hx1])
  by_cases hr : x < 0 ∨ ¬ x < 3
  · exact zf_step hB hg (zxo_i2 l L xs) rfl rfl hD hw (by omega) (by omega) (S' := (zp_im1, zl_lb (zl_i j), [.int (-2)], M)) (fun k => (e1 k).trans (zy_own (zi_imR hr) _)) (mid hks hg hD hc hs hI (Or.inl ⟨hr, rfl, rfl, rfl⟩))
  · obtain ⟨q, hq, hxq⟩ := zi_three (fun z => hr (Or.inl z)) (Decidable.not_not.mp (fun z => hr (Or.inr z)))
    cases hix : zK_ix ks q with
    | some i =>
      have hi := zK_old hks hq hix
      obtain ⟨N, hV, hcp⟩ := zi_copy hks hi hI (Int32.ofNat q)
      have hF : zF_im (zL_w ks) [.ref 0, .int x] M = some (some (.int 0), zm_mrg [(196 + 10 * i, 10), (1, 10)] M N) := by rw [hxq]; exact (zi_imK hq hix).trans hV
      exact zf_step hB hg (zxo_i2 l L xs) rfl rfl hD hw (by omega) (by omega) (S' := (zp_im1, zl_lb (zl_i j), [.int 0], zm_mrg [(196 + 10 * i, 10), (1, 10)] M N)) (fun k => (e1 k).trans (zy_own hF _)) (mid hks hg (zm_D_any hD) hc hs (zy_imI hks hi hI hcp) (Or.inr ⟨q, i, N, hq, hxq, rfl, hks, hix, Or.inl ⟨hix, rfl⟩, rfl, hcp⟩))
    | none =>
      obtain ⟨g1, g2, g3, g4⟩ := zK_new hks hq hix
      have hl2 : (ks ++ [q]).length = ks.length + 1 := by rw [List.length_append, List.length_singleton]
      refine zf_step hB hg (zxo_i1 l L xs) rfl rfl hD hw (by omega) (by omega) (fun k => (zl1_i1 hj xs (zL_w ks) M k).trans (by rw [hx1, hxq])) ?_
      refine zf_call hB hg hks hD (by omega) (by omega) hq hix hI (fun h1 N hg1 hD1 hcp => ?_)
      exact mid g1 hg1 hD1 (by rw [hl2]; omega) (by rw [hl2]; omega) (zy_imI g1 (by rw [hl2]; omega) (zy_newI hks hq hix hI) hcp) (Or.inr ⟨q, ks.length, N, hq, hxq, rfl, g1, g2, Or.inr ⟨hix, rfl⟩, rfl, hcp⟩)
theorem zy_backL (hB : zf_B p s m meth c b L xs D cA g) {j : Nat} (hj : 6 * j + 6 ≤ L ∧ L ≤ 3072) (hk : zf_K p l e s m below meth c b D cA g zp_tail (zl_lb (zl_i j))) : zf_K p l e s m below meth c b D cA g zp_back (zl_lb (zl_i j)) := by
  intro ks h M c0 s0 hks hg hD hc hs hI hR
  have hw := (zK_w hks).2.2.2.1
  generalize hx1 : xs (6 * j + 1) = x
  obtain ⟨v, M1, hF, hI1, ho⟩ := zy_back hks hI x
  obtain ⟨y, N2, q1, q2, q3, q4⟩ := zp_X10_back hI1.2.1 hI1.2.2.1 x
  refine zf_step hB hg (zxo_back l L xs) rfl rfl hD hw (by omega) (by omega) (S' := (zp_bk1, zl_lb (zl_i j), [.int v], M1)) (fun k => (zl1_back hj xs (zL_w ks) M k).trans (zy_own (by rw [hx1]; exact hF) _)) ?_
  exact zy_midI hB hg hks (zm_D_any hD) (by omega) (by omega) (zxo_back l L xs) rfl rfl (fun k => (zl2_back hj xs (zL_w ks) v M1 k).trans (by rw [hx1])) (fun w M => zl3_back L xs _ (zL_w ks) w M) rfl q1 (hk ks h _ c0 s0 hks hg (zm_D_any hD) hc hs (zy_MI hks hI1 q2 q3) (zr_back hks hI hI1 hR ho q1 q4))
end ZFI
