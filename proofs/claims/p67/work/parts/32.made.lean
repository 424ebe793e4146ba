/-! THE MACHINE DOES THE RUNS THAT MAKE CELLS -/
section ZNS
variable {p : Program} {l : Launch} {e : Env} {R : Room} {s : State} {m : MethodId} {args : Array Value} {below : List Frame} {meth : Method} {c : Code}
/-- constructors of nest mates: the caller's class, the pool's number, the constructor -/
def zn_nest : List (String × Nat × MethodName) := [(RX9, 9, yX8_init), (RX9, 18, yX0_init), (RX9, 38, yX3_init), (RX3, 11, yX2_init), (RX9, 48, yX2_init), (RX9, 55, yX6_init), (RX1, 24, yX2_init), (RX9, 69, yX5_init), (RX9, 76, yX4_init), (RX9, 85, yX7_init)]
/-- words that are no word of zm_tbl: the array classes of the classes' own arrays, the nest mates' constructors -/
def zn_AO (U : State) : Prop := (va_AO RX0 U ∧ va_AO RX2 U ∧ va_AO RX7 U) ∧ ∀ q ∈ zn_nest, va_Nw (.methodLinkNest q.1 q.2.1 q.2.2 "WearingBench") U
theorem zn_AO_warm {s U : State} (hW : s.WarmedH U.vm) (h : zn_AO s) : zn_AO U := ⟨⟨va_AO.moved hW.alike h.1.1, va_AO.moved hW.alike h.1.2.1, va_AO.moved hW.alike h.1.2.2⟩, fun q hq => va_Nw.warmM hW (h.2 q hq)⟩
theorem zn_AO_same {u U : State} (hv : u.vm = U.vm) (h : zn_AO u) : zn_AO U := by
  have ha : u.vm.Alike U.vm := by rw [← hv]; exact Vm.Alike.refl u.vm
  exact ⟨⟨va_AO.moved ha h.1.1, va_AO.moved ha h.1.2.1, va_AO.moved ha h.1.2.2⟩, fun q hq => va_Nw.same rfl hv (h.2 q hq)⟩
def zn_G (p : Program) (l : Launch) (e : Env) (R : Room) (s : State) (m : MethodId) (args : Array Value) (below : List Frame) (meth : Method) (c : Code) (Q : State → Prop) (D : va_G) (cA : FieldType → ClassId) (A : Nat → Prop) (nL : Nat) (h : Nat → Nat → Nat) (S : zn_S) : Prop :=
  va_D A (zm_ws cA h S.2.1 S.1.2.2.2) → zn_fr S.2.1 S.1.2.2.2 → zm_wok S.2.1 → zm_G p l e R s m args below meth c Q D cA h S.2.1 A nL S.2.2.1 S.2.2.2 S.1
def zn_Pc (D : va_G) (cA : FieldType → ClassId) (h : Nat → Nat → Nat) (A : Nat → Prop) (wl : zm_L) (av : List Value) (M : zm_I) : Array Value → State → Prop := fun v U =>
  v = (av.map (zm_cv h)).toArray ∧ va_P D zm_cl (zm_ws cA h wl M) U.heap ∧ va_K D zm_cl (zm_tys cA) U ∧ va_D A (zm_ws cA h wl M) ∧ (∀ q, U.heap.size ≤ q → A q) ∧ zm_wok wl ∧ zn_fr wl M ∧ zm_Z (h 1) A U U.heap ∧ zn_AO U
def zn_Q (D : va_G) (cA : FieldType → ClassId) (h : Nat → Nat → Nat) (A : Nat → Prop) (N : Nat) (r : zm_L × zm_I) : Array Value → State → Outcome → State → Prop := fun _ st o t =>
  o = .returned none ∧ (∃ h1, zn_ext N h h1 ∧ va_P D zm_cl (zm_ws cA h1 r.1 r.2) t.heap ∧ va_D A (zm_ws cA h1 r.1 r.2) ∧ zm_wok r.1 ∧ zn_fr r.1 r.2) ∧ va_F A st t
def zn_Con (l : Launch) (y : MethodName) (bytes : ByteArray) (maxL : Nat) (rm : Room) (C : zn_C) : Prop :=
  ∀ (D : va_G) (cA : FieldType → ClassId) (h : Nat → Nat → Nat) (A : Nat → Prop) (wl : zm_L) (av : List Value) (M : zm_I) (r : zm_L × zm_I), C.1 wl av M = some r →
    Met l y (.code y bytes maxL none :: zm_tbl) rm (zn_Pc D cA h A wl av M) (zn_Q D cA h A wl.length r) C.2.1 C.2.2 A
def zn_callok (l : Launch) (R : Room) (own : String) (idx : Nat) (C : zn_C) : Prop :=
  ∃ (y : MethodName) (bytes : ByteArray) (maxL : Nat) (rm : Room), zn_Con l y bytes maxL rm C ∧ rm.cells = C.2.1 ∧ rm.slots = C.2.2 ∧ (rm.frames + 1 ≤ R.frames ∧ 8 + (maxL + 11) + rm.locals ≤ R.locals) ∧
    Jvm.Cond.code y bytes maxL none ∈ zm_tbl ∧ (Jvm.Cond.methodLink own idx y ∈ zm_tbl ∨ (own, idx, y) ∈ zn_nest) ∧ Jvm.Cond.initialized y.cls ∈ zm_tbl ∧ Jvm.Cond.instanceMethod y ∈ zm_tbl ∧ y.name = "<init>" ∧
    (y.cls ≠ "java/lang/invoke/MethodHandle" ∧ y.cls ≠ "java/lang/invoke/VarHandle" ∧ (parseMethodDescriptor y.desc).map (fun d => d.parameters.length) = some 0)
def zn_iok (R : Room) (own : String) (i : Instr) (a b : Nat) : Prop := match i with
  | .new idx => ∃ r, zm_cl[a]? = some r ∧ Jvm.Cond.classLink own idx r.1 ∈ zm_tbl ∧ Jvm.Cond.instantiable r.1 r.2.2 ∈ zm_tbl ∧ Jvm.Cond.initialized r.1 ∈ zm_tbl
  | .newarray t => Jvm.Cond.arrayClass (newarray.typeOf t) ∈ zm_tbl
  | .anewarray idx => ∃ r, zm_cl[a]? = some r ∧ Jvm.Cond.classLink own idx r.1 ∈ zm_tbl
  | .putfield idx => zm_fok own idx a b ∧ own = zn_nm a
  | .getfield idx => zm_fok own idx a b
  | .invokespecial idx => a = 0 → 1 ≤ R.frames ∧ 20 ≤ R.locals ∧ Jvm.Cond.methodLink own idx Lib.objectInit ∈ zm_tbl ∧ Jvm.Cond.instanceMethod Lib.objectInit ∈ zm_tbl ∧ Jvm.Cond.code Lib.objectInit ⟨#[0xb1]⟩ 1 none ∈ zm_tbl
  | _ => True
def zn_ok (l : Launch) (R : Room) (own : String) (cc : ByteArray) (T : zn_T) : Prop :=
  (∀ (pc : Nat) (x : Instr × Nat × Nat), zm_look T.1 pc = some x → zn_dec cc pc x.1 = true ∧ zn_iok R own x.1 x.2.1 x.2.2) ∧ (∀ (idx : Nat) (C : zn_C), zm_look T.2.1 idx = some C → zn_callok l R own idx C) ∧ T.2.2.1 ≤ R.cells ∧ T.2.2.2 ≤ R.slots
theorem zn_cA {D : va_G} {cA : FieldType → ClassId} {U : State} {cB : ClassId} {ty : FieldType} {k : Nat} (hk : (zm_tys cA)[k]? = some (cA ty, ty)) (hp : zn_isR ty = false ∨ ∃ C, ty = .object C) (hK : va_K D zm_cl (zm_tys cA ++ [(cB, ty)]) U) : cB = cA ty := by
  have hlen : (zm_tys cA).length = 7 := rfl
  have hlt : k < 7 := by rw [← hlen]; exact (List.getElem?_eq_some_iff.mp hk).1
  have h1 := (hK.2 k (cA ty, ty) (by rw [List.getElem?_append_left (by rw [hlen]; exact hlt)]; exact hk)).2
  have h2 := (hK.2 7 (cB, ty) (by rw [List.getElem?_append_right (by rw [hlen]; exact Nat.le_refl _), hlen]; rfl)).2
  rcases hp with hp | ⟨C, rfl⟩
  · cases ty <;> first | (cases hp; done) | (unfold va_RA at h1 h2; exact Option.some.inj (h2.symm.trans h1))
  · obtain ⟨_, _, -, -, -, g1⟩ := h1
    obtain ⟨_, _, -, -, -, g2⟩ := h2
    exact Option.some.inj (g2.symm.trans g1)
variable {Q : State → Prop} {D : va_G} {cA : FieldType → ClassId} {h : Nat → Nat → Nat} {g : Nat → Nat} {A : Nat → Prop} {nL : Nat} {own : String} {cc : ByteArray} {T0 : zm_T} {T : zn_T} {S S1 : zn_S}
/-- what holds inside a body that makes cells -/
def zn_B (p : Program) (s : State) (m : MethodId) (args : Array Value) (meth : Method) (c : Code) (own : String) (cc : ByteArray) (nL : Nat) (T0 : zm_T) (D : va_G) (cA : FieldType → ClassId) (g : Nat → Nat) (A : Nat → Prop) (R : Room) : Prop :=
  (∀ (h : Nat → Nat → Nat) (c0 s0 : Nat), (∀ n, h 1 n = g n) → c0 ≤ R.cells → s0 ≤ R.slots → zm_B p s m args meth c own cc nL T0 D cA h A R c0 s0) ∧ (∀ q, s.heap.size ≤ q → A q) ∧ zn_AO s
theorem zn_wok_push {wl : zm_L} {d : zm_D × List Value} (h : zm_wok wl) (hd : ∀ C len rs, d = (Sum.inr (FieldType.object C, len), rs) → C = RX0 ∨ C = RX2 ∨ C = RX7) : zm_wok (wl ++ [d]) := by
  intro n C len rs hn
  by_cases hl : n < wl.length
  · rw [List.getElem?_append_left hl] at hn
    exact h n C len rs hn
  · rw [List.getElem?_append_right (by omega)] at hn
    have hz : n - wl.length < 1 := (List.getElem?_eq_some_iff.mp hn).1
    rw [show n - wl.length = 0 by omega] at hn
    exact hd C len rs (Option.some.inj hn)
theorem zn_wok_set {wl : zm_L} {n : Nat} {d d' : zm_D × List Value} (h : zm_wok wl) (hd : wl[n]? = some d) (he : d'.1 = d.1) : zm_wok (wl.set n d') := by
  intro k C len rs hk
  rw [List.getElem?_set] at hk
  by_cases hkn : n = k
  · subst hkn
    rw [if_pos rfl, if_pos (List.getElem?_eq_some_iff.mp hd).1] at hk
    have := Option.some.inj hk
    obtain ⟨d1, d2⟩ := d
    rw [this] at he
    exact h n C len d2 (by rw [hd]; simp only at he; rw [he])
  · rw [if_neg hkn] at hk
    exact h k C len rs hk
/-- behind a making: the world with the new cell -/
theorem zn_made {wl : zm_L} {M : zm_I} {d : zm_D × List Value} {q : Nat} (hc : wl.all (fun d => d.2.all (zn_clV wl.length)) = true) (hd : d.2.all (zn_clV wl.length) = true) : zm_ws cA (zn_up h wl.length q) (wl ++ [d]) M = zm_ws cA h wl M ++ [(q, zm_e cA h M wl.length d)] := by
  rw [zn_ws_push, zn_up_at, zn_ws_ext (zn_up_ext h _ q) hc, zn_e (zn_up_ext h _ q) hd]
theorem zn_cl_o {ls : List (Option Value)} {st : List Value} {wl : zm_L} (hc : zn_cl ls st wl = true) : ls.all (zn_clO wl.length) = true ∧ st.all (zn_clV wl.length) = true ∧ wl.all (fun d => d.2.all (zn_clV wl.length)) = true := by
  simp only [zn_cl, Bool.and_eq_true] at hc
  exact ⟨hc.1.1, hc.1.2, hc.2⟩
theorem zn_rep (N k : Nat) : (List.replicate k Value.null).all (zn_clV N) = true := by
  apply List.all_eq_true.mpr
  intro v hv
  rw [(List.mem_replicate.mp hv).2]
  rfl
theorem zn_repD (k f : Nat) : (List.replicate k Value.null).getD f .null = .null := by
  rw [List.getD_eq_getElem?_getD, List.getElem?_replicate]
  split <;> rfl
theorem zn_s_new (B : zn_B p s m args meth c own cc nL T0 D cA g A R) (hok : zn_ok l R own cc T) (hg : ∀ n, h 1 n = g n) {idx a b : Nat} (hlk : zm_look T.1 S.1.1 = some (.new idx, a, b)) (hcl : zn_cl S.1.2.1 S.1.2.2.1 S.2.1 = true) (hc1 : S.2.2.1 + 1 ≤ T.2.2.1) (hs1 : S.2.2.2 + zm_nf a ≤ T.2.2.2) (hof : zn_okf a = true)
    (hk : ∀ h1, zn_ext S.2.1.length h h1 → zn_G p l e R s m args below meth c Q D cA A nL h1 ((S.1.1 + 3, S.1.2.1, .ref S.2.1.length :: S.1.2.2.1, S.1.2.2.2), S.2.1 ++ [(.inl a, List.replicate (zm_nf a) .null)], S.2.2.1 + 1, S.2.2.2 + zm_nf a)) : zn_G p l e R s m args below meth c Q D cA A nL h S := by
  obtain ⟨hdec, hio⟩ := hok.1 _ _ hlk
  obtain ⟨⟨C, TT, N⟩, hcla, hlink, hinst, hini⟩ := hio
  obtain ⟨hx, hb, hml, hown, hts, hK, hr, hlk2, hZ, hcs, hsc⟩ := B.1 h 0 0 hg (Nat.zero_le _) (Nat.zero_le _)
  obtain ⟨hin, hty, hnm, hN⟩ := zm_cwok_ok _ _ hcla
  dsimp only at hlink hinst hini hin hty hnm hN
  obtain ⟨cl1, cl2, cl3⟩ := zn_cl_o hcl
  intro hD hfr hwk H locs la hl hP hS
  obtain ⟨f1, f2⟩ := hfr S.2.1.length (Nat.le_refl _)
  refine va_new (D := D) (ci := a) (C := C) (T := TT) (N := N) (fs := (List.range (zm_nf a)).map (fun f => zm_cv h (zm_vA S.1.2.2.2 S.2.1.length (List.replicate (zm_nf a) .null) (zm_ty a f) f))) hx hb hts hin (zm_ty a) hty hown (hts _ hlink) (hts _ hinst) (hts _ hini) hK hP hD hS B.2.1 hcla (fun j hj => ?_) (Nat.le_trans hc1 hok.2.2.1) (by rw [hN]; exact Nat.le_trans hs1 hok.2.2.2) (zn_dec_o hdec) (fun q H1 hP1 hD1 hS1 => ?_)
  · rw [hN] at hj
    have hofj := List.all_eq_true.mp hof j (List.mem_range.mpr hj)
    unfold vp_V
    rw [List.getD_eq_getElem?_getD, List.getElem?_map, List.getElem?_range hj]
    simp only [Option.map_some, Option.getD_some]
    cases ht : zm_ty a j <;> rw [ht] at hofj <;> first | (cases hofj; done) | (simp only [zm_vA, zm_cv, defaultValue, f1, f2, zn_repD]; done) | (simp [zm_vA, zm_cv, defaultValue, f1, f2]; done)
  · have hx1 := zn_up_ext h S.2.1.length q
    have hw := zn_made (cA := cA) (h := h) (M := S.1.2.2.2) (d := (.inl a, List.replicate (zm_nf a) .null)) (q := q) cl3 (zn_rep _ _)
    have hG := hk _ hx1
    unfold zn_G at hG
    dsimp only at hG
    rw [hw] at hG
    have hG := hG hD1 (zn_fr_push hfr) (zn_wok_push hwk (fun C len rs h9 => by cases h9)) H1 locs la (zn_lok hx1 hl cl1)
    dsimp only at hG
    rw [hw] at hG
    have hG := hG hP1 hS1
    rw [List.map_cons, zn_st hx1 cl2] at hG
    rw [hN]
    simpa only [zm_cv, zn_up_at] using hG
theorem zn_ar_row {h : Nat → Nat → Nat} {M : zm_I} {n : Nat} {ty : FieldType} (hp : zn_prim ty = true) (f1 : ∀ b, M.1 n b = 0) (f2 : ∀ b, M.2 n b = 0) (len : Nat) (cB : ClassId) : vp_cell cB (len, zm_row h M n [] ty) = arrV cB len (fun _ => defaultValue ty) := by
  cases ty <;> first | (cases hp; done) | (simp only [zm_row]; (first | rw [vp_cell_i] | rw [vp_cell_l]); congr 1; funext j; simp [f1, f2, defaultValue])
theorem zn_tysP {ty : FieldType} (cA : FieldType → ClassId) (hp : zn_prim ty = true) : ∃ k : Nat, (zm_tys cA)[k]? = some (cA ty, ty) := by
  cases ty <;> first | (cases hp; done) | exact ⟨0, rfl⟩ | exact ⟨1, rfl⟩ | exact ⟨2, rfl⟩ | exact ⟨3, rfl⟩
theorem zn_primR {ty : FieldType} (hp : zn_prim ty = true) : zn_isR ty = false := by
  cases ty <;> first | rfl | cases hp
theorem zn_bytes {ty : FieldType} (hp : zn_prim ty = true) {n : Nat} (hn : n ≤ 100000) : n * componentBytes ty ≤ 536870912 := by
  have : componentBytes ty ≤ 8 := by cases ty <;> first | (cases hp; done) | decide
  calc n * componentBytes ty ≤ 100000 * 8 := Nat.mul_le_mul hn this
    _ ≤ 536870912 := by decide
theorem zn_s_newa (B : zn_B p s m args meth c own cc nL T0 D cA g A R) (hok : zn_ok l R own cc T) (hg : ∀ n, h 1 n = g n) {t : ArrayType} {a b : Nat} (hlk : zm_look T.1 S.1.1 = some (.newarray t, a, b)) {n : Int32} {r : List Value} (hst : S.1.2.2.1 = .int n :: r) (hn : ¬ n < 0) (hcl : zn_cl S.1.2.1 r S.2.1 = true) (hc1 : S.2.2.1 + 1 ≤ T.2.2.1) (hs1 : S.2.2.2 + n.toNatClampNeg ≤ T.2.2.2) (hp : zn_prim (newarray.typeOf t) = true) (hle : n.toNatClampNeg ≤ 100000)
    (hk : ∀ h1, zn_ext S.2.1.length h h1 → zn_G p l e R s m args below meth c Q D cA A nL h1 ((S.1.1 + 2, S.1.2.1, .ref S.2.1.length :: r, S.1.2.2.2), S.2.1 ++ [(.inr (newarray.typeOf t, n.toNatClampNeg), [])], S.2.2.1 + 1, S.2.2.2 + n.toNatClampNeg)) : zn_G p l e R s m args below meth c Q D cA A nL h S := by
  obtain ⟨hdec, hio⟩ := hok.1 _ _ hlk
  have hio : Jvm.Cond.arrayClass (newarray.typeOf t) ∈ zm_tbl := hio
  obtain ⟨hx, hb, hml, hown, hts, hK, hr, hlk2, hZ, hcs, hsc⟩ := B.1 h 0 0 hg (Nat.zero_le _) (Nat.zero_le _)
  obtain ⟨cl1, cl2, cl3⟩ := zn_cl_o hcl
  intro hD hfr hwk H locs la hl hP hS
  obtain ⟨f1, f2⟩ := hfr S.2.1.length (Nat.le_refl _)
  rw [hst, List.map_cons]
  refine va_newa (D := D) (atype := t) (ty := newarray.typeOf t) (a0 := (n.toNatClampNeg, zm_row h S.1.2.2.2 S.2.1.length [] (newarray.typeOf t))) hx hb (hts _ hio) rfl hK hP hD hS B.2.1 (fun cB => zn_ar_row hp f1 f2 _ cB) hn rfl (zn_bytes hp hle) (Nat.le_trans hc1 hok.2.2.1) (Nat.le_trans hs1 hok.2.2.2) (zn_dec_o hdec) (fun q cB H1 hK1 hP1 hD1 hS1 => ?_)
  obtain ⟨k, hkk⟩ := zn_tysP cA hp
  have hcB := zn_cA hkk (Or.inl (zn_primR hp)) hK1
  subst hcB
  have hx1 := zn_up_ext h S.2.1.length q
  have hw := zn_made (cA := cA) (h := h) (M := S.1.2.2.2) (d := (.inr (newarray.typeOf t, n.toNatClampNeg), [])) (q := q) cl3 rfl
  have hG := hk _ hx1
  unfold zn_G at hG
  dsimp only at hG
  rw [hw] at hG
  have hG := hG hD1 (zn_fr_push hfr) (zn_wok_push hwk (fun C len rs h9 => by
    have h8 := (Prod.mk.inj (Sum.inr.inj (Prod.mk.inj h9).1)).1
    rw [h8] at hp; cases hp)) H1 locs la (zn_lok hx1 hl cl1)
  dsimp only at hG
  rw [hw] at hG
  have hG := hG hP1 hS1
  rw [List.map_cons, zn_st hx1 cl2] at hG
  simpa only [zm_cv, zn_up_at] using hG
theorem zn_isA_o {a : Nat} (ha : zn_isA a = true) : (zn_nm a = RX0 ∨ zn_nm a = RX2 ∨ zn_nm a = RX7) ∧ ∀ cA : FieldType → ClassId, ∃ k : Nat, (zm_tys cA)[k]? = some (cA (.object (zn_nm a)), .object (zn_nm a)) := by
  simp only [zn_isA, Bool.or_eq_true] at ha
  rcases ha with (ha | ha) | ha <;> have := Nat.eq_of_beq_eq_true ha <;> subst this
  · exact ⟨Or.inl rfl, fun cA => ⟨4, rfl⟩⟩
  · exact ⟨Or.inr (Or.inl rfl), fun cA => ⟨5, rfl⟩⟩
  · exact ⟨Or.inr (Or.inr rfl), fun cA => ⟨6, rfl⟩⟩
theorem zn_AO_o {U : State} (h : zn_AO U) {C : String} (hc : C = RX0 ∨ C = RX2 ∨ C = RX7) : va_AO C U := by
  rcases hc with rfl | rfl | rfl
  · exact h.1.1
  · exact h.1.2.1
  · exact h.1.2.2
theorem zn_s_newq (B : zn_B p s m args meth c own cc nL T0 D cA g A R) (hok : zn_ok l R own cc T) (hg : ∀ n, h 1 n = g n) {idx a b : Nat} (hlk : zm_look T.1 S.1.1 = some (.anewarray idx, a, b)) {n : Int32} {r : List Value} (hst : S.1.2.2.1 = .int n :: r) (hn : ¬ n < 0) (hcl : zn_cl S.1.2.1 r S.2.1 = true) (hc1 : S.2.2.1 + 1 ≤ T.2.2.1) (hs1 : S.2.2.2 + n.toNatClampNeg ≤ T.2.2.2) (ha : zn_isA a = true) (hle : n.toNatClampNeg ≤ 100000)
    (hk : ∀ h1, zn_ext S.2.1.length h h1 → zn_G p l e R s m args below meth c Q D cA A nL h1 ((S.1.1 + 3, S.1.2.1, .ref S.2.1.length :: r, S.1.2.2.2), S.2.1 ++ [(.inr (.object (zn_nm a), n.toNatClampNeg), List.replicate n.toNatClampNeg .null)], S.2.2.1 + 1, S.2.2.2 + n.toNatClampNeg)) : zn_G p l e R s m args below meth c Q D cA A nL h S := by
  obtain ⟨hdec, hio⟩ := hok.1 _ _ hlk
  obtain ⟨rc, hcla, hlink⟩ := hio
  have hnm : zn_nm a = rc.1 := by unfold zn_nm; dsimp only at hcla; rw [hcla]
  obtain ⟨hx, hb, hml, hown, hts, hK, hr, hlk2, hZ, hcs, hsc⟩ := B.1 h 0 0 hg (Nat.zero_le _) (Nat.zero_le _)
  obtain ⟨cl1, cl2, cl3⟩ := zn_cl_o hcl
  obtain ⟨hC, hty⟩ := zn_isA_o ha
  intro hD hfr hwk H locs la hl hP hS
  rw [hst, List.map_cons]
  refine va_newq (D := D) (C := zn_nm a) hx hb hown (by rw [hnm]; exact hts _ hlink) (zn_AO_o B.2.2 hC) hK hP hD hS B.2.1 hn rfl (by omega) (Nat.le_trans hc1 hok.2.2.1) (Nat.le_trans hs1 hok.2.2.2) (zn_dec_o hdec) (fun q cB H1 hK1 hP1 hD1 hS1 => ?_)
  obtain ⟨k, hkk⟩ := hty cA
  have hcB := zn_cA hkk (Or.inr ⟨_, rfl⟩) hK1
  subst hcB
  have hx1 := zn_up_ext h S.2.1.length q
  have hw := zn_made (cA := cA) (h := h) (M := S.1.2.2.2) (d := (.inr (.object (zn_nm a), n.toNatClampNeg), List.replicate n.toNatClampNeg .null)) (q := q) cl3 (zn_rep _ _)
  have he : zm_e cA h S.1.2.2.2 S.2.1.length (.inr (.object (zn_nm a), n.toNatClampNeg), List.replicate n.toNatClampNeg .null) = .inl (cA (.object (zn_nm a)), n.toNatClampNeg, .inr (.inr (.inr (.inr (fun _ => none))))) := by
    simp only [zm_e, zm_row, zn_repD, zm_rr]
  rw [he] at hw
  have hG := hk _ hx1
  unfold zn_G at hG
  dsimp only at hG
  rw [hw] at hG
  have hG := hG hD1 (zn_fr_push hfr) (zn_wok_push hwk (fun C len rs h9 => by
    have h8 := (Prod.mk.inj (Sum.inr.inj (Prod.mk.inj h9).1)).1
    cases h8
    exact hC)) H1 locs la (zn_lok hx1 hl cl1)
  dsimp only at hG
  rw [hw] at hG
  have hG := hG hP1 hS1
  rw [List.map_cons, zn_st hx1 cl2] at hG
  simpa only [zm_cv, zn_up_at] using hG
theorem zn_fsetR {h : Nat → Nat → Nat} {M : zm_I} {n ci f : Nat} {rs : List Value} {v : Value} (hf : f < zm_nf ci) (hr : zn_isR (zm_ty ci f) = true) (hl : f < rs.length) :
    (List.range (zm_nf ci)).map (fun g => zm_cv h (zm_vA M n (rs.set f v) (zm_ty ci g) g)) = ((List.range (zm_nf ci)).map (fun g => zm_cv h (zm_vA M n rs (zm_ty ci g) g))).set f (zm_cv h v) := by
  apply List.ext_getElem?
  intro k
  rw [List.getElem?_set, List.getElem?_map, List.getElem?_map]
  by_cases hk : f = k
  · subst hk
    have e1 : (rs.set f v).getD f .null = v := by rw [List.getD_eq_getElem?_getD, List.getElem?_set_self hl]; rfl
    have e2 : zm_vA M n (rs.set f v) (zm_ty ci f) f = v := by
      cases ht : zm_ty ci f <;> rw [ht] at hr <;> first | (cases hr; done) | exact e1
    simp [hf, e2]
  · rw [if_neg hk]
    have e1 : (rs.set f v).getD k .null = rs.getD k .null := by rw [List.getD_eq_getElem?_getD, List.getElem?_set_ne hk, ← List.getD_eq_getElem?_getD]
    have e2 : zm_vA M n (rs.set f v) (zm_ty ci k) k = zm_vA M n rs (zm_ty ci k) k := by
      cases ht : zm_ty ci k <;> simp only [zm_vA] <;> first | rfl | exact e1
    by_cases hk2 : k < zm_nf ci
    · simp [hk2, e2]
    · simp [hk2]
theorem zn_pr_ok (B : zn_B p s m args meth c own cc nL T0 D cA g A R) (hin2 : meth.name = "<init>") (hok : zn_ok l R own cc T) (hg : ∀ n, h 1 n = g n) {idx a b : Nat} (hlk : zm_look T.1 S.1.1 = some (.putfield idx, a, b)) {q : zm_S × zm_L} (hh : zn_pr S.2.1 a b S.1.1 S.1.2.1 S.1.2.2.1 S.1.2.2.2 = some q)
    (hk : ∀ h1, zn_ext S.2.1.length h h1 → zn_G p l e R s m args below meth c Q D cA A nL h1 (q.1, q.2, S.2.2)) : zn_G p l e R s m args below meth c Q D cA A nL h S := by
  obtain ⟨hdec, hio⟩ := hok.1 _ _ hlk
  obtain ⟨⟨⟨C, TT, N⟩, hcl, hbN, hdecl, hlink⟩, hownn⟩ := hio
  obtain ⟨hx, hb, hml, hown, hts, hK, hr, hlk2, hZ, hcs, hsc⟩ := B.1 h 0 0 hg (Nat.zero_le _) (Nat.zero_le _)
  obtain ⟨hin, hty, hnm, hN⟩ := zm_cwok_ok _ _ hcl
  have hown2 : own = C := by dsimp only at hcl; rw [hownn]; unfold zn_nm; rw [hcl]
  dsimp only at hbN hdecl hlink hin hty hnm hN
  unfold zn_pr at hh
  split at hh
  · next v n r hst =>
    split at hh
    · next cx rs hw =>
      split at hh
      · next hcond =>
        simp only [Bool.and_eq_true] at hcond
        obtain ⟨⟨⟨hc, hfin⟩, hisr⟩, hble⟩ := hcond
        have hc := Nat.eq_of_beq_eq_true hc
        subst hc
        cases hh
        intro hD hfr hwk H locs la hl hP hS
        rw [hst, List.map_cons, List.map_cons]
        have hws := zm_ws_at (cA := cA) (h := h) (M := S.1.2.2.2) hw
        have hfin2 : (TT b).2.2.2 = true := by
          unfold zm_fin at hfin; rw [hcl] at hfin; exact hfin
        refine va_putF (D := D) (ci := cx) (v := .ref (h 0 v)) (C := C) (T := TT) (N := N) (ty := zm_ty cx b) hx hb hts hin (zm_ty cx) hty hnm hown hK hP hD hS n hws hcl b hbN (hts _ hlink) (fun x hx9 => by rw [← hdecl]; exact hx9) hfin2 hin2 (by rw [hdecl, hown2]) (hty b hbN) (by cases ht : zm_ty cx b <;> rw [ht] at hisr <;> first | (cases hisr; done) | rfl) (by cases ht : zm_ty cx b <;> rw [ht] at hisr <;> first | (cases hisr; done) | rfl) (by simp; rw [← hN]; exact hbN) (zn_dec_o hdec) (fun H1 locs1 hP1 hD1 hS1 => ?_)
        have he : zm_e cA h S.1.2.2.2 n (.inl cx, rs.set b (.ref v)) = .inr (cx, ((List.range (zm_nf cx)).map (fun f => zm_cv h (zm_vA S.1.2.2.2 n rs (zm_ty cx f) f))).set b (.ref (h 0 v))) := by
          simp only [zm_e]
          rw [zn_fsetR (by rw [← hN]; exact hbN) hisr (Nat.le_of_ble_eq_true hble)]
          rfl
        have hw2 := zn_ws_setd (cA := cA) (h := h) (M := S.1.2.2.2) (d' := (.inl cx, rs.set b (.ref v))) hw
        rw [he] at hw2
        have hG := hk h (zn_ext_rf _ _)
        unfold zn_G at hG
        dsimp only at hG
        rw [hw2] at hG
        have hG := hG hD1 (zn_fr_set hfr) (zn_wok_set hwk hw rfl) H1 locs1 la hl
        dsimp only at hG
        rw [hw2] at hG
        exact hG hP1 hS1
      · cases hh
    · cases hh
  · cases hh
theorem zn_as_ok (B : zn_B p s m args meth c own cc nL T0 D cA g A R) (hok : zn_ok l R own cc T) (hg : ∀ n, h 1 n = g n) {a b : Nat} (hlk : zm_look T.1 S.1.1 = some (.aastore, a, b)) {q : zm_S × zm_L} (hh : zn_as S.2.1 S.1.1 S.1.2.1 S.1.2.2.1 S.1.2.2.2 = some q)
    (hk : ∀ h1, zn_ext S.2.1.length h h1 → zn_G p l e R s m args below meth c Q D cA A nL h1 (q.1, q.2, S.2.2)) : zn_G p l e R s m args below meth c Q D cA A nL h S := by
  obtain ⟨hdec, hio⟩ := hok.1 _ _ hlk
  obtain ⟨hx, hb, hml, hown, hts, hK, hr, hlk2, hZ, hcs, hsc⟩ := B.1 h 0 0 hg (Nat.zero_le _) (Nat.zero_le _)
  unfold zn_as at hh
  split at hh
  · next v i n r hst =>
    split at hh
    · next C len rs hw =>
      split at hh
      · next ci vs hwv =>
        split at hh
        · cases hh
        · next hi =>
          split at hh
          · next hcond =>
            simp only [Bool.and_eq_true, decide_eq_true_eq] at hcond
            obtain ⟨⟨hnm, hci⟩, hble⟩ := hcond
            have hci := Nat.le_of_ble_eq_true hci
            have hlt : i.toNatClampNeg < rs.length := Nat.le_of_ble_eq_true hble
            cases hh
            have hrc : ∃ rc, zm_cl[ci]? = some rc ∧ rc.1 = C := by
              have hlen : zm_cl.length = 11 := rfl
              refine ⟨zm_cl[ci], List.getElem?_eq_getElem (by rw [hlen]; omega), ?_⟩
              rw [← hnm]; unfold zn_nm; rw [List.getElem?_eq_getElem (by rw [hlen]; omega)]
            obtain ⟨rc, hrc, hrC⟩ := hrc
            intro hD hfr hwk H locs la hl hP hS
            have hC := hwk n C len rs hw
            have htk : ∃ k : Nat, (zm_tys cA)[k]? = some (cA (.object rc.1), .object rc.1) := by
              rw [hrC]
              rcases hC with rfl | rfl | rfl
              · exact ⟨4, rfl⟩
              · exact ⟨5, rfl⟩
              · exact ⟨6, rfl⟩
            obtain ⟨t0, ht0⟩ := htk
            subst hrC
            rw [hst, List.map_cons, List.map_cons, List.map_cons]
            have hws := zm_ws_at (cA := cA) (h := h) (M := S.1.2.2.2) hw
            have hwsv := zm_ws_at (cA := cA) (h := h) (M := S.1.2.2.2) hwv
            refine va_astq (D := D) (r := rc) (n := len) (v := h 0 v) (f := fun i => zm_rr h (rs.getD i .null)) hx hb hK hP hD hS n t0 v ci hws ht0 hwsv hrc (show vp_in i len from hi) (zn_dec_o hdec) (fun H1 locs1 hP1 hD1 hS1 => ?_)
            have he : zm_e cA h S.1.2.2.2 n (.inr (.object rc.1, len), rs.set i.toNatClampNeg (.ref v)) = .inl (cA (.object rc.1), len, .inr (.inr (.inr (.inr (va_up (fun i => zm_rr h (rs.getD i .null)) i.toNatClampNeg (some (h 0 v))))))) := by
              simp only [zm_e, zm_row]
              congr 7
              funext j
              by_cases hj : j = i.toNatClampNeg
              · subst hj
                rw [va_up_self, List.getD_eq_getElem?_getD, List.getElem?_set_self hlt]
                rfl
              · rw [va_up_ne _ _ hj, List.getD_eq_getElem?_getD, List.getElem?_set_ne (Ne.symm hj), ← List.getD_eq_getElem?_getD]
            have hw2 := zn_ws_setd (cA := cA) (h := h) (M := S.1.2.2.2) (d' := (.inr (.object rc.1, len), rs.set i.toNatClampNeg (.ref v))) hw
            rw [he] at hw2
            have hG := hk h (zn_ext_rf _ _)
            unfold zn_G at hG
            dsimp only at hG
            rw [hw2] at hG
            have hG := hG hD1 (zn_fr_set hfr) (zn_wok_set hwk hw rfl) H1 locs1 la hl
            dsimp only at hG
            rw [hw2] at hG
            exact hG hP1 hS1
          · cases hh
      · cases hh
    · cases hh
  · cases hh
end ZNS
