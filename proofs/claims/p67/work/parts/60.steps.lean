/-! THE LAW'S WALK (printed by program, wip/law/genloop.py) -/
/-- the law's end, over the claim's own room -/
def zf_Q (_ : Array Value) (s : State) (o : Outcome) (t : State) : Prop := o = .returned (some (.int 1)) ∧ Framed s o t [] room_1.cells room_1.slots
def zf_Z (below : List Frame) (a : Array Value) (s : State) : State → Prop := fun t => ∃ o, t.status = .running ∧ Ended t below o ∧ zf_Q a s o t
theorem zf_ret {p : Program} {l : Launch} {e : Env} {s : State} {m : MethodId} {below : List Frame} {meth : Method} {c : Code} {b : Nat} (hx : p.tables.exec = Jvm.exec) (hb : c.code = code) (hr : meth.sig.returnType = ret) (hlocks : meth.locks = false) {pc : Nat} {H : Heap} {ls : Array Slot} (hdg : decode code pc = .ok (.ireturn, 1)) : W p l e room_1 s m #[Value.ref b] below meth c H [] room_1.cells room_1.slots (zf_Z below #[Value.ref b] s) (F0 m pc ls [.int 1]) := by
  intro T hT X
  obtain ⟨fs, hret, hrun, hended, hW, hframe⟩ := X.leave (v := some (.int 1)) (hlocks := hlocks) (fun h => by rw [hr] at h; cases h)
  have hmeth' : T.vm.method? m = some meth := X.method'
  refine ⟨T.setFrames fs, ?_, .returned (some (.int 1)), hrun, hended, rfl, ⟨_, rfl⟩, hW, hframe⟩
  jvm_step X.here [X.here.top, hx, hb, hdg, hmeth', hr, ret, narrow_b1]
  (try refine ⟨rfl, ?_⟩); (try refine ⟨rfl, ?_⟩)
  first | (intro acts; rw [hret _ acts rfl rfl rfl]) | rw [hret _ _ rfl rfl rfl]
  exact Steps.refl _
def zf_B (p : Program) (s : State) (m : MethodId) (meth : Method) (c : Code) (b L : Nat) (xs : Nat → Int32) (D : va_G) (cA : FieldType → ClassId) (g : Nat → Nat) : Prop :=
  (∀ T : zm_T, T.2.2.2.1 = ret → (T.2.2.2.2 = none ∨ T.2.2.2.2 = some (L, xs)) → ∀ (h : Nat → Nat → Nat) (c0 s0 : Nat), (∀ n, h 1 n = g n) → c0 ≤ room_1.cells → s0 ≤ room_1.slots → zm_B p s m #[Value.ref b] meth c R_law code 4 T D cA h (fun q => s.heap.size ≤ q) room_1 c0 s0) ∧ zn_AO s
section ZFN
variable {p : Program} {l : Launch} {e : Env} {s : State} {m : MethodId} {below : List Frame} {meth : Method} {c : Code} {b L : Nat} {xs : Nat → Int32} {D : va_G} {cA : FieldType → ClassId} {g : Nat → Nat} {h : Nat → Nat → Nat} {wl : zm_L} {c0 s0 : Nat} {T : zm_T} {M0 M1 : zm_I} {S S' : zm_S}
theorem zf_end (hB : zf_B p s m meth c b L xs D cA g) (hg : ∀ n, h 1 n = g n) (hc : c0 ≤ room_1.cells) (hs : s0 ≤ room_1.slots) {ls : List (Option Value)} {M : zm_I} : zm_G p l e room_1 s m #[Value.ref b] below meth c (zf_Z below #[Value.ref b] s) D cA h wl (fun q => s.heap.size ≤ q) 4 c0 s0 (zp_end + 1, ls, [.int 1], M) := by
  intro H locs la hl hP hS'
  obtain ⟨hx, hb, hml, hown, hts, hK, hr, hlk, hZ, hcs, hsc⟩ := hB.1 ([], [], [], ret, none) rfl (Or.inl rfl) h 0 0 hg (Nat.zero_le _) (Nat.zero_le _)
  exact va_forget (fun q hq => hS'.2.2 q hq) (W.widen hc hs (zf_ret hx hb hr hlk zf_dend))
theorem zf_step (hB : zf_B p s m meth c b L xs D cA g) (hg : ∀ n, h 1 n = g n) (hT : zm_ok l room_1 R_law code T ∧ zl_nr T.1 = true) (h1 : T.2.2.2.1 = ret) (h2 : T.2.2.2.2 = some (L, xs)) (hD : va_D (fun q => s.heap.size ≤ q) (zm_ws cA h wl M0)) (hw : zm_wok wl) (hc : c0 ≤ room_1.cells) (hs : s0 ≤ room_1.slots) (hst : ∀ k : zm_S → zm_R, zm_step T wl k S = k S') (hG : zm_G p l e room_1 s m #[Value.ref b] below meth c (zf_Z below #[Value.ref b] s) D cA h wl (fun q => s.heap.size ≤ q) 4 c0 s0 S') : zm_G p l e room_1 s m #[Value.ref b] below meth c (zf_Z below #[Value.ref b] s) D cA h wl (fun q => s.heap.size ≤ q) 4 c0 s0 S :=
  zl_run_ok (k := zn_k S') (r := (none, S'.2.2.2)) (hB.1 T h1 (Or.inr h2) h c0 s0 hg hc hs) hT.1 hT.2 hD (fun q hq => hq) hw (fun S'' hq => by have := zn_k_inv hq; subst this; exact hG) 1 S ((hst _).trans (zn_k_self S'))
theorem zf_pop2 (hB : zf_B p s m meth c b L xs D cA g) (hg : ∀ n, h 1 n = g n) {pc : Nat} (hd : decode code pc = .ok (.pop2, 1)) {ls : List (Option Value)} {st : List Value} {x : Int64} {M : zm_I} (hG : zm_G p l e room_1 s m #[Value.ref b] below meth c (zf_Z below #[Value.ref b] s) D cA h wl (fun q => s.heap.size ≤ q) 4 c0 s0 (pc + 1, ls, st, M)) : zm_G p l e room_1 s m #[Value.ref b] below meth c (zf_Z below #[Value.ref b] s) D cA h wl (fun q => s.heap.size ≤ q) 4 c0 s0 (pc, ls, .long x :: st, M) := by
  intro H locs la hl hP hS
  obtain ⟨hx, hb, hml, hown, hts, hK, hr, hlk, hZ, hcs, hsc⟩ := hB.1 ([], [], [], ret, none) rfl (Or.inl rfl) h 0 0 hg (Nat.zero_le _) (Nat.zero_le _)
  exact lv_pop2_2 hx hb hd rfl (hG H locs la hl hP hS)
end ZFN
section ZFO
variable {p : Program} {l : Launch} {e : Env} {s : State} {m : MethodId} {below : List Frame} {meth : Method} {c : Code} {b L : Nat} {xs : Nat → Int32} {D : va_G} {cA : FieldType → ClassId} {g : Nat → Nat} {h : Nat → Nat → Nat} {c0 s0 : Nat} {T : zm_T} {M : zm_I} {ks : List Nat} {ls : List (Option Value)} {pc pc1 pc2 nX nM : Nat} {FX FM : zm_L → List Value → zm_I → zm_R} {aX aM : List Value} {WX WM : zt_W}
theorem zy_I2 (hks : ks ∈ zK_all) (hI : zy_I ks M) (hX : zt_Gs zo_g1 (zm_sub2 [(0, 164)] M) → ∃ (x : Int32) (N : zm_I), FX zW_X (.ref 0 :: aX) (zm_sub2 [(0, 164)] M) = some (some (.int x), N) ∧ zt_Gs zo_g1 N ∧ zt_fr WX (zm_sub2 [(0, 164)] M) N) (hM : ∀ {M' : zm_I}, zt_Gs zo_g22 M' → zq_P M' → ∃ (y : Int32) (N : zm_I), FM zW_M (.ref 0 :: aM) M' = some (some (.int y), N) ∧ zt_Gs zo_g22 N ∧ zq_P N ∧ zt_fr WM M' N) : ∃ (x y : Int32) (N1 N2 : zm_I), zy_o2 ks M FX FM aX aM (.int x) (.int y) N1 N2 ∧ zy_I ks (zy_2 M N1 N2) ∧ zt_fr WX (zm_sub2 [(0, 164)] M) N1 ∧ zt_fr WM (zm_sub2 [(165, 31)] (zm_mrg [(0, 164)] M N1)) N2 := by
  obtain ⟨x, N1, h1, g1, f1⟩ := hX hI.1
  obtain ⟨y, N2, h2, g2, p2, f2⟩ := hM (zy_1G N1 hI.2.1) (zy_1P N1 hI.2.2.1)
  exact ⟨x, y, N1, N2, ⟨h1, h2⟩, zy_2I hks hI g1 g2 p2, f1, f2⟩
theorem zy_J2 (hks : ks ∈ zK_all) (hI : zy_I ks M) (hX : zt_Gs zo_g1 (zm_sub2 [(0, 164)] M) → ∃ (x : Int64) (N : zm_I), FX zW_X (.ref 0 :: aX) (zm_sub2 [(0, 164)] M) = some (some (.long x), N) ∧ zt_Gs zo_g1 N ∧ zt_fr WX (zm_sub2 [(0, 164)] M) N) (hM : ∀ {M' : zm_I}, zt_Gs zo_g22 M' → zq_P M' → ∃ (y : Int64) (N : zm_I), FM zW_M (.ref 0 :: aM) M' = some (some (.long y), N) ∧ zt_Gs zo_g22 N ∧ zq_P N ∧ zt_fr WM M' N) : ∃ (x y : Int64) (N1 N2 : zm_I), zy_o2 ks M FX FM aX aM (.long x) (.long y) N1 N2 ∧ zy_I ks (zy_2 M N1 N2) ∧ zt_fr WX (zm_sub2 [(0, 164)] M) N1 ∧ zt_fr WM (zm_sub2 [(165, 31)] (zm_mrg [(0, 164)] M N1)) N2 := by
  obtain ⟨x, N1, h1, g1, f1⟩ := hX hI.1
  obtain ⟨y, N2, h2, g2, p2, f2⟩ := hM (zy_1G N1 hI.2.1) (zy_1P N1 hI.2.2.1)
  exact ⟨x, y, N1, N2, ⟨h1, h2⟩, zy_2I hks hI g1 g2 p2, f1, f2⟩
/-- a call whose answers aren't compared -/
theorem zy_opI (hB : zf_B p s m meth c b L xs D cA g) (hg : ∀ n, h 1 n = g n) (hks : ks ∈ zK_all) (hD : va_D (fun q => s.heap.size ≤ q) (zm_ws cA h (zL_w ks) M)) (hc : c0 ≤ room_1.cells) (hs : s0 ≤ room_1.slots) (hT : zm_ok l room_1 R_law code T ∧ zl_nr T.1 = true) (h1 : T.2.2.2.1 = ret) (h2 : T.2.2.2.2 = some (L, xs))
    (e1 : ∀ (k : zm_S → zm_R), zm_step T (zL_w ks) k (pc, ls, [], M) = zm_app (nX, some 9, false, [(0, 164)], FX) (zL_w ks) (.ref 0 :: aX) M (fun v N => k (pc1, ls, v.toList ++ [], N)))
    (e2 : ∀ (v : Int32) (M : zm_I) (k : zm_S → zm_R), zm_step T (zL_w ks) k (pc1, ls, [.int v], M) = zm_app (nM, some 10, false, [(0, 31)], FM) (zL_w ks) (.ref 165 :: aM) M (fun w N => k (pc2, ls, w.toList ++ [], N)))
    (e3 : ∀ (w : Int32) (M : zm_I) (k : zm_S → zm_R), zm_step T (zL_w ks) k (pc2, ls, [.int w], M) = k (zp_tail, ls, [], M))
    (tX : aX.map (zm_tr [(0, 164)]) = aX) (tM : aM.map (zm_tr [(165, 31)]) = aM) {x y : Int32} {N1 N2 : zm_I} (ho : zy_o2 ks M FX FM aX aM (.int x) (.int y) N1 N2)
    (hk : zm_G p l e room_1 s m #[Value.ref b] below meth c (zf_Z below #[Value.ref b] s) D cA h (zL_w ks) (fun q => s.heap.size ≤ q) 4 c0 s0 (zp_tail, ls, [], zy_2 M N1 N2)) : zm_G p l e room_1 s m #[Value.ref b] below meth c (zf_Z below #[Value.ref b] s) D cA h (zL_w ks) (fun q => s.heap.size ≤ q) 4 c0 s0 (pc, ls, [], M) := by
  have hw := (zK_w hks).2.2.2.1
  refine zf_step hB hg hT h1 h2 hD hw hc hs (S' := (pc1, ls, [.int x], zm_mrg [(0, 164)] M N1)) (fun k => (e1 k).trans (zy_callX hks ho.1 tX rfl _)) ?_
  refine zf_step hB hg hT h1 h2 (zm_D_any hD) hw hc hs (M0 := M) (S' := (pc2, ls, [.int y], zy_2 M N1 N2)) (fun k => (e2 x _ k).trans (zy_callM hks ho.2 tM rfl _)) ?_
  exact zf_step hB hg hT h1 h2 (zm_D_any hD) hw hc hs (M0 := M) (fun k => e3 y _ k) hk
theorem zy_opJ (hB : zf_B p s m meth c b L xs D cA g) (hg : ∀ n, h 1 n = g n) (hks : ks ∈ zK_all) (hD : va_D (fun q => s.heap.size ≤ q) (zm_ws cA h (zL_w ks) M)) (hc : c0 ≤ room_1.cells) (hs : s0 ≤ room_1.slots) (hT : zm_ok l room_1 R_law code T ∧ zl_nr T.1 = true) (h1 : T.2.2.2.1 = ret) (h2 : T.2.2.2.2 = some (L, xs))
    (e1 : ∀ (k : zm_S → zm_R), zm_step T (zL_w ks) k (pc, ls, [], M) = zm_app (nX, some 9, false, [(0, 164)], FX) (zL_w ks) (.ref 0 :: aX) M (fun v N => k (pc1, ls, v.toList ++ [], N)))
    (d1 : decode code pc1 = .ok (.pop2, 1))
    (e2 : ∀ (M : zm_I) (k : zm_S → zm_R), zm_step T (zL_w ks) k (pc1 + 1, ls, [], M) = zm_app (nM, some 10, false, [(0, 31)], FM) (zL_w ks) (.ref 165 :: aM) M (fun w N => k (pc2, ls, w.toList ++ [], N)))
    (d2 : decode code pc2 = .ok (.pop2, 1))
    (e3 : ∀ (M : zm_I) (k : zm_S → zm_R), zm_step T (zL_w ks) k (pc2 + 1, ls, [], M) = k (zp_tail, ls, [], M))
    (tX : aX.map (zm_tr [(0, 164)]) = aX) (tM : aM.map (zm_tr [(165, 31)]) = aM) {x y : Int64} {N1 N2 : zm_I} (ho : zy_o2 ks M FX FM aX aM (.long x) (.long y) N1 N2)
    (hk : zm_G p l e room_1 s m #[Value.ref b] below meth c (zf_Z below #[Value.ref b] s) D cA h (zL_w ks) (fun q => s.heap.size ≤ q) 4 c0 s0 (zp_tail, ls, [], zy_2 M N1 N2)) : zm_G p l e room_1 s m #[Value.ref b] below meth c (zf_Z below #[Value.ref b] s) D cA h (zL_w ks) (fun q => s.heap.size ≤ q) 4 c0 s0 (pc, ls, [], M) := by
  have hw := (zK_w hks).2.2.2.1
  refine zf_step hB hg hT h1 h2 hD hw hc hs (S' := (pc1, ls, [.long x], zm_mrg [(0, 164)] M N1)) (fun k => (e1 k).trans (zy_callX hks ho.1 tX rfl _)) ?_
  refine zf_pop2 hB hg d1 ?_
  refine zf_step hB hg hT h1 h2 (zm_D_any hD) hw hc hs (M0 := M) (S' := (pc2, ls, [.long y], zy_2 M N1 N2)) (fun k => (e2 _ k).trans (zy_callM hks ho.2 tM rfl _)) ?_
  refine zf_pop2 hB hg d2 ?_
  exact zf_step hB hg hT h1 h2 (zm_D_any hD) hw hc hs (M0 := M) (fun k => e3 _ k) hk
/-- the call whose answers are compared -/
theorem zy_opC (hB : zf_B p s m meth c b L xs D cA g) (hg : ∀ n, h 1 n = g n) (hks : ks ∈ zK_all) (hD : va_D (fun q => s.heap.size ≤ q) (zm_ws cA h (zL_w ks) M)) (hc : c0 ≤ room_1.cells) (hs : s0 ≤ room_1.slots) (hT : zm_ok l room_1 R_law code T ∧ zl_nr T.1 = true) (h1 : T.2.2.2.1 = ret) (h2 : T.2.2.2.2 = some (L, xs))
    (e1 : ∀ (k : zm_S → zm_R), zm_step T (zL_w ks) k (pc, ls, [], M) = zm_app (nX, some 9, false, [(0, 164)], FX) (zL_w ks) (.ref 0 :: aX) M (fun v N => k (pc1, ls, v.toList ++ [], N)))
    (e2 : ∀ (v : Int32) (M : zm_I) (k : zm_S → zm_R), zm_step T (zL_w ks) k (pc1, ls, [.int v], M) = zm_app (nM, some 10, false, [(0, 31)], FM) (zL_w ks) (.ref 165 :: aM) M (fun w N => k (pc2, ls, w.toList ++ [.int v], N))) {pcF : Nat}
    (e3 : ∀ (v w : Int32) (M : zm_I) (k : zm_S → zm_R), zm_step T (zL_w ks) k (pc2, ls, [.int w, .int v], M) = if v = w then k (zp_tail, ls, [], M) else k (pcF, ls, [], M))
    (tX : aX.map (zm_tr [(0, 164)]) = aX) (tM : aM.map (zm_tr [(165, 31)]) = aM) {x y : Int32} {N1 N2 : zm_I} (ho : zy_o2 ks M FX FM aX aM (.int x) (.int y) N1 N2) (hxy : x = y)
    (hk : zm_G p l e room_1 s m #[Value.ref b] below meth c (zf_Z below #[Value.ref b] s) D cA h (zL_w ks) (fun q => s.heap.size ≤ q) 4 c0 s0 (zp_tail, ls, [], zy_2 M N1 N2)) : zm_G p l e room_1 s m #[Value.ref b] below meth c (zf_Z below #[Value.ref b] s) D cA h (zL_w ks) (fun q => s.heap.size ≤ q) 4 c0 s0 (pc, ls, [], M) := by
  have hw := (zK_w hks).2.2.2.1
  refine zf_step hB hg hT h1 h2 hD hw hc hs (S' := (pc1, ls, [.int x], zm_mrg [(0, 164)] M N1)) (fun k => (e1 k).trans (zy_callX hks ho.1 tX rfl _)) ?_
  refine zf_step hB hg hT h1 h2 (zm_D_any hD) hw hc hs (M0 := M) (S' := (pc2, ls, [.int y, .int x], zy_2 M N1 N2)) (fun k => (e2 x _ k).trans (zy_callM hks ho.2 tM rfl _)) ?_
  exact zf_step hB hg hT h1 h2 (zm_D_any hD) hw hc hs (M0 := M) (fun k => (e3 x y _ k).trans (if_pos hxy)) hk
/-- the same of longs -/
theorem zy_opD (hB : zf_B p s m meth c b L xs D cA g) (hg : ∀ n, h 1 n = g n) (hks : ks ∈ zK_all) (hD : va_D (fun q => s.heap.size ≤ q) (zm_ws cA h (zL_w ks) M)) (hc : c0 ≤ room_1.cells) (hs : s0 ≤ room_1.slots) (hT : zm_ok l room_1 R_law code T ∧ zl_nr T.1 = true) (h1 : T.2.2.2.1 = ret) (h2 : T.2.2.2.2 = some (L, xs))
    (e1 : ∀ (k : zm_S → zm_R), zm_step T (zL_w ks) k (pc, ls, [], M) = zm_app (nX, some 9, false, [(0, 164)], FX) (zL_w ks) (.ref 0 :: aX) M (fun v N => k (pc1, ls, v.toList ++ [], N)))
    (e2 : ∀ (v : Int64) (M : zm_I) (k : zm_S → zm_R), zm_step T (zL_w ks) k (pc1, ls, [.long v], M) = zm_app (nM, some 10, false, [(0, 31)], FM) (zL_w ks) (.ref 165 :: aM) M (fun w N => k (pc2, ls, w.toList ++ [.long v], N))) {pcF : Nat}
    (e3 : ∀ (v w : Int64) (M : zm_I) (k : zm_S → zm_R), zm_step T (zL_w ks) k (pc2, ls, [.long w, .long v], M) = if lg_cmp v w = 0 then k (zp_tail, ls, [], M) else k (pcF, ls, [], M))
    (tX : aX.map (zm_tr [(0, 164)]) = aX) (tM : aM.map (zm_tr [(165, 31)]) = aM) {x y : Int64} {N1 N2 : zm_I} (ho : zy_o2 ks M FX FM aX aM (.long x) (.long y) N1 N2) (hxy : lg_cmp x y = 0)
    (hk : zm_G p l e room_1 s m #[Value.ref b] below meth c (zf_Z below #[Value.ref b] s) D cA h (zL_w ks) (fun q => s.heap.size ≤ q) 4 c0 s0 (zp_tail, ls, [], zy_2 M N1 N2)) : zm_G p l e room_1 s m #[Value.ref b] below meth c (zf_Z below #[Value.ref b] s) D cA h (zL_w ks) (fun q => s.heap.size ≤ q) 4 c0 s0 (pc, ls, [], M) := by
  have hw := (zK_w hks).2.2.2.1
  refine zf_step hB hg hT h1 h2 hD hw hc hs (S' := (pc1, ls, [.long x], zm_mrg [(0, 164)] M N1)) (fun k => (e1 k).trans (zy_callX hks ho.1 tX rfl _)) ?_
  refine zf_step hB hg hT h1 h2 (zm_D_any hD) hw hc hs (M0 := M) (S' := (pc2, ls, [.long y, .long x], zy_2 M N1 N2)) (fun k => (e2 x _ k).trans (zy_callM hks ho.2 tM rfl _)) ?_
  exact zf_step hB hg hT h1 h2 (zm_D_any hD) hw hc hs (M0 := M) (fun k => (e3 x y _ k).trans (if_pos hxy)) hk
end ZFO
