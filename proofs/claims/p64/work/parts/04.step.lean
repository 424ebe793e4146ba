/-! ONE INSTRUCTION -/
section ZMS
variable {p : Program} {l : Launch} {e : Env} {R : Room} {s : State} {m : MethodId} {args : Array Value} {below : List Frame} {meth : Method} {c : Code}
/-- the texts: their places in Tape's pool -/
def zm_strs : List (Nat × String) := [(67, "bench"), (73, "law"), (81, "wear"), (85, "every"), (89, "odds"), (46, "seat"), (96, "takes"), (101, "gives"), (55, "caller"), (108, "age"), (112, "comes"), (118, "told"), (123, "to")]
def zm_slen : List Nat := [5, 3, 4, 5, 4, 4, 5, 5, 6, 3, 5, 4, 2]
def zm_sbyt : List (List Int32) := [[98, 101, 110, 99, 104], [108, 97, 119], [119, 101, 97, 114], [101, 118, 101, 114, 121], [111, 100, 100, 115], [115, 101, 97, 116], [116, 97, 107, 101, 115], [103, 105, 118, 101, 115], [99, 97, 108, 108, 101, 114], [97, 103, 101], [99, 111, 109, 101, 115], [116, 111, 108, 100], [116, 111]]
def zm_Z (g : Nat → Nat) (A : Nat → Prop) (U : State) (H : Heap) : Prop := (∃ adV : Nat → Nat, vk_S 13 zm_slen zm_sbyt g adV A U H ∧ va_Z RJ0 "COMPACT_STRINGS" "Z" (.int 1) A U H ∧ va_Zq RJ3 "SIOOBE_FORMATTER" "Ljava/util/function/BiFunction;" A U H) ∧ ∀ (i : Nat) (q : Nat × String), zm_strs[i]? = some q → vk_R RX8 q.1 q.2 (g i) U
theorem zm_Z_go {g : Nat → Nat} {A A' : Nat → Prop} {s U : State} {H : Heap} {locs : List Loc} (hZ : zm_Z g A s s.heap) (hS : va_S A s.heap H locs) (hW : s.WarmedH U.vm) (hB : ∀ q, A' q → A q) : zm_Z g A' U H := by
  obtain ⟨⟨adV, h1, h3, h4⟩, h2⟩ := hZ
  exact ⟨⟨adV, ((h1.kept hS.2.1).moved hW.alike).narrow hB, ((h3.kept hS.2.1).moved hW.alike).narrow hB, ((h4.kept hS.2.1).moved hW.alike).narrow hB⟩, fun i q hq => (h2 i q hq).warm hW⟩
/-- from this state of the machine of rows the machine comes to Q -/
def zm_G (p : Program) (l : Launch) (e : Env) (R : Room) (s : State) (m : MethodId) (args : Array Value) (below : List Frame) (meth : Method) (c : Code) (Q : State → Prop) (D : va_G) (cA : FieldType → ClassId) (h : Nat → Nat → Nat) (wl : zm_L) (A : Nat → Prop) (nL c0 s0 : Nat) (S : zm_S) : Prop :=
  ∀ (H : Heap) (locs : List Loc) (la : Array Slot), zm_lok h nL S.2.1 la → va_P D zm_cl (zm_ws cA h wl S.2.2.2) H → va_S A s.heap H locs → W p l e R s m args below meth c H locs c0 s0 Q (F0 m S.1 la (S.2.2.1.map (zm_cv h)))
/-- arrays of objects are of these alone -/
def zm_wok (wl : zm_L) : Prop := ∀ (n : Nat) (C : String) (len : Nat) (rs : List Value), wl[n]? = some (Sum.inr (FieldType.object C, len), rs) → C = RX0 ∨ C = RX2 ∨ C = RX7
/-- what a method's end says -/
def zm_Q (D : va_G) (cA : FieldType → ClassId) (h : Nat → Nat → Nat) (wl : zm_L) (A : Nat → Prop) (r : Option Value × zm_I) : Array Value → State → Outcome → State → Prop := fun _ st o t =>
  o = .returned (r.1.map (zm_cv h)) ∧ va_P D zm_cl (zm_ws cA h wl r.2) t.heap ∧ va_F A st t
def zm_Pc (D : va_G) (cA : FieldType → ClassId) (h : Nat → Nat → Nat) (wl : zm_L) (sz : Nat) (av : List Value) (M : zm_I) : Array Value → State → Prop := fun v U =>
  v = (av.map (zm_cv h)).toArray ∧ U.heap.size = sz ∧ va_P D zm_cl (zm_ws cA h wl M) U.heap ∧ va_K D zm_cl (zm_tys cA) U ∧ va_D (fun _ => True) (zm_ws cA h wl M) ∧ zm_wok wl ∧ zm_Z (h 1) (va_A (zm_ws cA h wl M) sz) U U.heap
/-- a method's contract: what F says of its rows -/
def zm_Con (l : Launch) (y : MethodName) (bytes : ByteArray) (maxL : Nat) (ret : Option FieldType) (rm : Room) (F : zm_L → List Value → zm_I → zm_R) : Prop :=
  ∀ (D : va_G) (cA : FieldType → ClassId) (h : Nat → Nat → Nat) (wl : zm_L) (sz : Nat) (av : List Value) (M : zm_I) (r : Option Value × zm_I), F wl av M = some r →
    Met l y (.code y bytes maxL ret :: zm_tbl) rm (zm_Pc D cA h wl sz av M) (zm_Q D cA h wl (va_A (zm_ws cA h wl M) sz) r) 0 0 (va_A (zm_ws cA h wl M) sz)
/-- a call that may be made from class own at pool number idx -/
def zm_callok (l : Launch) (R : Room) (own : String) (idx : Nat) (C : zm_C) : Prop :=
  ∃ (y : MethodName) (bytes : ByteArray) (maxL : Nat) (ret : Option FieldType) (rm : Room) (n : Nat), zm_Con l y bytes maxL ret rm C.2.2.2.2 ∧ rm.cells = 0 ∧ rm.slots = 0 ∧ (rm.frames + 1 ≤ R.frames ∧ 8 + (maxL + 11) + rm.locals ≤ R.locals) ∧
    Jvm.Cond.code y bytes maxL ret ∈ zm_tbl ∧ Jvm.Cond.methodLink own idx y ∈ zm_tbl ∧ Jvm.Cond.initialized y.cls ∈ zm_tbl ∧
    (y.cls ≠ "java/lang/invoke/MethodHandle" ∧ y.cls ≠ "java/lang/invoke/VarHandle" ∧ (parseMethodDescriptor y.desc).map (fun d => d.parameters.length) = some n) ∧
    match C.2.1 with
    | some ci => C.1 = n + 1 ∧ Jvm.Cond.instanceMethod y ∈ zm_tbl ∧ Jvm.Cond.selects y.cls y y ∈ zm_tbl ∧ ((∃ r, zm_cl[ci]? = some r ∧ r.1 = y.cls) ∨ (ci = 99 ∧ y.cls = RJ0))
    | none => C.1 = n ∧ Jvm.Cond.static y ∈ zm_tbl
def zm_fok (own : String) (idx ci f : Nat) : Prop := ∃ r, zm_cl[ci]? = some r ∧ f < r.2.2 ∧ (r.2.1 f).1 = r.1 ∧ Jvm.Cond.fieldLink own idx r.1 (r.2.1 f).2.1 (r.2.1 f).2.2.1 ∈ zm_tbl
def zm_cok (own : String) (idx : Nat) : Value → Prop
  | .int v => Jvm.Cond.constant own idx v ∈ zm_tbl
  | .long v => Jvm.Cond.constantLong own idx v ∈ zm_tbl
  | .retAddr i => own = RX8 ∧ ∃ tx, zm_strs[i]? = some (idx, tx)
  | _ => False
def zm_mok (R : Room) (own : String) (idx : Nat) (y : MethodName) : Prop := 1 ≤ R.frames ∧ 21 ≤ R.locals ∧ Jvm.Cond.methodLink own idx y ∈ zm_tbl
def zm_iok (R : Room) (own : String) (i : Instr) (a b : Nat) : Prop := match i with
  | .getfield idx => zm_fok own idx a b
  | .putfield idx => zm_fok own idx a b
  | .invokestatic idx => match a with
    | 0 => True
    | 1 => zm_mok R own idx Lib.Math.max.name
    | 2 => zm_mok R own idx Lib.Math.min.name
    | _ => zm_mok R own idx Lib.Math.abs.name
  | _ => True
/-- Math's own words stand in the tables -/
def zm_mathok : Prop := Jvm.Cond.initialized "java/lang/Math" ∈ zm_tbl ∧ (Jvm.Cond.static Lib.Math.max.name ∈ zm_tbl ∧ Jvm.Cond.code Lib.Math.max.name Lib.Math.max.code 2 (some .int) ∈ zm_tbl) ∧ (Jvm.Cond.static Lib.Math.min.name ∈ zm_tbl ∧ Jvm.Cond.code Lib.Math.min.name Lib.Math.min.code 2 (some .int) ∈ zm_tbl) ∧ (Jvm.Cond.static Lib.Math.abs.name ∈ zm_tbl ∧ Jvm.Cond.code Lib.Math.abs.name Lib.Math.abs.code 1 (some .int) ∈ zm_tbl)
def zm_sok (R : Room) (own : String) (cc : ByteArray) : List (Instr × Nat × Nat) → Nat → Prop
  | [], _ => True
  | (i, a, b) :: r, pc => zm_dec cc pc i = true ∧ zm_iok R own i a b ∧ zm_sok R own cc r (pc + zm_len i)
def zm_ok (l : Launch) (R : Room) (own : String) (cc : ByteArray) (T : zm_T) : Prop :=
  (∀ (pc : Nat) (b : List (Instr × Nat × Nat)), zm_look T.1 pc = some b → zm_sok R own cc b pc) ∧ (∀ (idx : Nat) (v : Value), zm_look T.2.1 idx = some v → zm_cok own idx v) ∧ ∀ (idx : Nat) (C : zm_C), zm_look T.2.2.1 idx = some C → zm_callok l R own idx C
/-- each class's words stand in the tables -/
def zm_cwok : Prop := ∀ (ci : Nat) (r : vw_C), zm_cl[ci]? = some r → (∀ w ∈ u_ws r.1 r.2.1 r.2.2, w ∈ zm_tbl) ∧ (∀ k, k < r.2.2 → parseFieldDescriptor (r.2.1 k).2.2.1 = some (zm_ty ci k)) ∧ (∀ a, a < r.2.2 → ∀ b, b < r.2.2 → a ≠ b → (r.2.1 a).2.1 ≠ (r.2.1 b).2.1) ∧ r.2.2 = zm_nf ci
/-- the script, where there is one -/
def zm_scr (h : Nat → Nat → Nat) (A : Nat → Prop) (s : State) (sc : Option (Nat × (Nat → Int32))) : Prop := ∀ x, sc = some x → va_X (h 1 100) x.1 x.2 s s.heap ∧ h 1 100 < s.heap.size ∧ ¬ A (h 1 100)
/-- what holds inside a method's body -/
def zm_B (p : Program) (s : State) (m : MethodId) (args : Array Value) (meth : Method) (c : Code) (own : String) (cc : ByteArray) (nL : Nat) (T : zm_T) (D : va_G) (cA : FieldType → ClassId) (h : Nat → Nat → Nat) (A : Nat → Prop) (R : Room) (c0 s0 : Nat) : Prop :=
  p.tables.exec = Jvm.exec ∧ c.code = cc ∧ c.maxLocals = nL ∧ s.vm.findClass own = some m.cls ∧ (∀ w ∈ zm_tbl, w.before args s = true) ∧ va_K D zm_cl (zm_tys cA) s ∧ meth.sig.returnType = T.2.2.2.1 ∧ meth.locks = false ∧ zm_Z (h 1) A s s.heap ∧ (c0 ≤ R.cells ∧ s0 ≤ R.slots) ∧ zm_scr h A s T.2.2.2.2
theorem zm_get1 {D : va_G} {cA : FieldType → ClassId} {h : Nat → Nat → Nat} {wl : zm_L} {M : zm_I} {H : Heap} {n : Nat} {d : zm_D × List Value} (hP : va_P D zm_cl (zm_ws cA h wl M) H) (hd : wl[n]? = some d) : va_P D zm_cl [(h 0 n, zm_e cA h M n d)] H := by
  intro k q hq
  cases k with
  | zero => cases hq; exact hP n _ (zm_ws_at hd)
  | succ k => simp at hq
variable {Q : State → Prop} {D : va_G} {cA : FieldType → ClassId} {h : Nat → Nat → Nat} {wl : zm_L} {A : Nat → Prop} {nL c0 s0 : Nat} {own : String} {cc : ByteArray} {T : zm_T} {pc : Nat} {ls : List (Option Value)} {st : List Value} {M : zm_I} {r : Option Value × zm_I} {k : zm_S → zm_R} {kn : zm_N}
theorem zm_i_gf (hcw : zm_cwok) (B : zm_B p s m args meth c own cc nL T D cA h A R c0 s0) {idx a b : Nat} (hd : decode cc pc = .ok (.getfield idx, 3)) (hf : zm_fok own idx a b) (hh : zm_gf kn wl a b ls st M = some r)
    (hn : ∀ ls' st' M', kn ls' st' M' = some r → zm_G p l e R s m args below meth c Q D cA h wl A nL c0 s0 (pc + 3, ls', st', M')) : zm_G p l e R s m args below meth c Q D cA h wl A nL c0 s0 (pc, ls, st, M) := by
  intro H locs la hl hP hS
  obtain ⟨hx, hb, hml, hown, hts, hK, hr, hlk, hZ, hcs, hsc⟩ := B
  unfold zm_gf at hh
  split at hh
  · next n t =>
    split at hh
    · next ci rs hw =>
      split at hh
      · next hc =>
        have hc := Nat.eq_of_beq_eq_true hc
        subst hc
        obtain ⟨⟨C, TT, N⟩, hcl, hbN, hdecl, hlink⟩ := hf
        obtain ⟨hin, hty, hnm, hN⟩ := hcw _ _ hcl
        dsimp only at hbN hdecl hlink hin hty hnm hN
        refine va_get (D := D) (ci := ci) (v := zm_cv h (zm_vA M n rs (zm_ty ci b) b)) (C := C) (T := TT) (N := N) hx hb hts hin hown hK (zm_get1 hP hw) 0 rfl hcl b hbN (hts _ hlink) (fun x hx9 => by rw [← hdecl]; exact hx9) (by rw [List.getElem?_map, List.getElem?_range (by rw [← hN]; exact hbN)]; rfl) hd ?_
        exact hn _ _ _ hh H locs la hl hP hS
      · cases hh
    · cases hh
  · cases hh
theorem zm_fin_o {ci f : Nat} {r : vw_C} (hcl : zm_cl[ci]? = some r) (h : zm_fin ci f = false) : (r.2.1 f).2.2.2 = false := by
  unfold zm_fin at h
  rw [hcl] at h
  exact h
theorem zm_i_pf (hcw : zm_cwok) (B : zm_B p s m args meth c own cc nL T D cA h A R c0 s0) (hD : va_D A (zm_ws cA h wl M)) {idx a b : Nat} (hd : decode cc pc = .ok (.putfield idx, 3)) (hf : zm_fok own idx a b) (hh : zm_pf kn wl a b ls st M = some r)
    (hn : ∀ ls' st' M', kn ls' st' M' = some r → zm_G p l e R s m args below meth c Q D cA h wl A nL c0 s0 (pc + 3, ls', st', M')) : zm_G p l e R s m args below meth c Q D cA h wl A nL c0 s0 (pc, ls, st, M) := by
  intro H locs la hl hP hS
  obtain ⟨hx, hb, hml, hown, hts, hK, hr, hlk, hZ, hcs, hsc⟩ := B
  have main : ∀ (n : Nat) (ci : Nat) (rs : List Value) (t : List Value) (v : Value) (M' : zm_I), wl[n]? = some (.inl ci, rs) → ci = a → zm_fin a b = false → narrow (zm_ty a b) (zm_cv h v) = zm_cv h v → fits (zm_ty a b) (zm_cv h v) = true →
      zm_vA M' n rs (zm_ty a b) b = v → (∀ g, g ≠ b → zm_vA M' n rs (zm_ty a g) g = zm_vA M n rs (zm_ty a g) g) → (∀ k, k ≠ n → M'.1 k = M.1 k ∧ M'.2 k = M.2 k) → kn ls t M' = some r →
      W p l e R s m args below meth c H locs c0 s0 Q (F0 m pc la ((v :: .ref n :: t).map (zm_cv h))) := by
    intro n ci rs t v M' hw hc hfin hnar hfit hv hg ho hk
    subst hc
    obtain ⟨⟨C, TT, N⟩, hcl, hbN, hdecl, hlink⟩ := hf
    obtain ⟨hin, hty, hnm, hN⟩ := hcw _ _ hcl
    dsimp only at hbN hdecl hlink hin hty hnm hN
    have hws := zm_ws_at (cA := cA) (h := h) (M := M) hw
    refine va_put (D := D) (ci := ci) (v := zm_cv h v) (C := C) (T := TT) (N := N) hx hb hts hin (zm_ty ci) hty hnm hown hK hP hD hS n hws hcl b hbN (hts _ hlink) (fun x hx9 => by rw [← hdecl]; exact hx9) (zm_fin_o hcl hfin) (hty b hbN) hnar hfit (by simp; rw [← hN]; exact hbN) hd (fun H1 locs1 hP1 hD1 hS1 => ?_)
    refine hn _ _ _ hk H1 locs1 la hl ?_ hS1
    dsimp only
    rw [← zm_ws_set (M := M) (M' := M') hw rfl ho]
    have he : zm_e cA h M' n (.inl ci, rs) = .inr (ci, ((List.range (zm_nf ci)).map (fun f => zm_cv h (zm_vA M n rs (zm_ty ci f) f))).set b (zm_cv h v)) := by
      simp only [zm_e]
      rw [zm_fset (by rw [← hN]; exact hbN) (by rw [hv]) hg]
    rw [he]
    exact hP1
  unfold zm_pf at hh
  split at hh
  · cases hh
  · next hfin =>
    split at hh
    · next x n t =>
      split at hh
      · next ci rs hw =>
        split at hh
        · next hc =>
          have hc := Nat.eq_of_beq_eq_true hc
          have ho : ∀ k, k ≠ n → zm_w M.1 n b x k = M.1 k ∧ M.2 k = M.2 k := fun k hk => ⟨zm_w_ne hk, rfl⟩
          have hv1 : zm_w M.1 n b x n b = x := by simp [zm_w]
          have hg1 : ∀ g, g ≠ b → zm_w M.1 n b x n g = M.1 n g := fun g hg => by simp [zm_w, hg]
          split at hh
          · next hty =>
            refine main n ci rs t (.int x) (zm_w M.1 n b x, M.2) hw hc hfin (by rw [hty]; rfl) (by rw [hty]; rfl) (by rw [hty]; simp [zm_vA, hv1]) (fun g hg => ?_) ho hh
            cases hq : zm_ty a g <;> simp [zm_vA, hg1 g hg]
          · next hty =>
            split at hh
            · next hx01 =>
              refine main n ci rs t (.int x) (zm_w M.1 n b x, M.2) hw hc hfin (by rw [hty]; rcases hx01 with rfl | rfl <;> rfl) (by rw [hty]; rcases hx01 with rfl | rfl <;> rfl) (by rw [hty]; simp [zm_vA, hv1]) (fun g hg => ?_) ho hh
              cases hq : zm_ty a g <;> simp [zm_vA, hg1 g hg]
            · cases hh
          · cases hh
        · cases hh
      · cases hh
    · next x n t =>
      split at hh
      · next ci rs hw =>
        split at hh
        · next hc =>
          have hc := Nat.eq_of_beq_eq_true hc
          have ho : ∀ k, k ≠ n → M.1 k = M.1 k ∧ zm_wl M.2 n b x k = M.2 k := fun k hk => ⟨rfl, zm_wl_ne hk⟩
          have hv1 : zm_wl M.2 n b x n b = x := by simp [zm_wl]
          have hg1 : ∀ g, g ≠ b → zm_wl M.2 n b x n g = M.2 n g := fun g hg => by simp [zm_wl, hg]
          split at hh
          · next hty =>
            refine main n ci rs t (.long x) (M.1, zm_wl M.2 n b x) hw hc hfin (by rw [hty]; rfl) (by rw [hty]; rfl) (by rw [hty]; simp [zm_vA, hv1]) (fun g hg => ?_) ho hh
            cases hq : zm_ty a g <;> simp [zm_vA, hg1 g hg]
          · cases hh
        · cases hh
      · cases hh
    · cases hh
theorem zm_rr_v {h : Nat → Nat → Nat} {v : Value} (hv : (∃ q, v = .ref q) ∨ v = .null) : va_rf (zm_rr h v) = zm_cv h v := by
  rcases hv with ⟨q, rfl⟩ | rfl <;> rfl
theorem zm_i_al (B : zm_B p s m args meth c own cc nL T D cA h A R c0 s0) {ct : Nat} {ins : Instr} (hi : (ct = 0 ∧ ins = .iaload) ∨ (ct = 1 ∧ ins = .laload) ∨ (ct = 2 ∧ ins = .baload) ∨ (ct = 3 ∧ ins = .aaload)) (hoc : zm_wok wl) (hd : decode cc pc = .ok (ins, 1)) (hh : zm_al kn T.2.2.2.2 wl ct ls st M = some r)
    (hn : ∀ ls' st' M', kn ls' st' M' = some r → zm_G p l e R s m args below meth c Q D cA h wl A nL c0 s0 (pc + 1, ls', st', M')) : zm_G p l e R s m args below meth c Q D cA h wl A nL c0 s0 (pc, ls, st, M) := by
  intro H locs la hl hP hS
  obtain ⟨hx, hb, hml, hown, hts, hK, hr, hlk, hZ, hcs, hsc⟩ := B
  unfold zm_al at hh
  split at hh
  · next i n t =>
    split at hh
    · next ty len rs hw =>
      have hP1 := zm_get1 hP hw
      split at hh
      · cases hh
      · next hin =>
        split at hh
        · split at hh
          · next hc =>
            have hc := Nat.eq_of_beq_eq_true hc
            subst hc
            rcases hi with ⟨-, rfl⟩ | ⟨hc, -⟩ | ⟨hc, -⟩ | ⟨hc, -⟩
            · exact va_iald hx hb hK hP1 0 0 rfl rfl hin hd (hn _ _ _ hh H locs la hl hP hS)
            all_goals cases hc
          · cases hh
        · split at hh
          · next hc =>
            have hc := Nat.eq_of_beq_eq_true hc
            subst hc
            rcases hi with ⟨hc, -⟩ | ⟨-, rfl⟩ | ⟨hc, -⟩ | ⟨hc, -⟩
            rotate_left
            · exact va_lald hx hb hK hP1 0 1 rfl rfl hin hd (hn _ _ _ hh H locs la hl hP hS)
            all_goals cases hc
          · cases hh
        · split at hh
          · next hc =>
            have hc := Nat.eq_of_beq_eq_true hc
            subst hc
            rcases hi with ⟨hc, -⟩ | ⟨hc, -⟩ | ⟨-, rfl⟩ | ⟨hc, -⟩
            · cases hc
            · cases hc
            · exact va_bald hx hb hK hP1 0 2 rfl rfl hin hd (hn _ _ _ hh H locs la hl hP hS)
            · cases hc
          · cases hh
        · split at hh
          · next hc =>
            have hc := Nat.eq_of_beq_eq_true hc
            subst hc
            rcases hi with ⟨hc, -⟩ | ⟨hc, -⟩ | ⟨-, rfl⟩ | ⟨hc, -⟩
            · cases hc
            · cases hc
            · exact va_zald hx hb hK hP1 0 3 rfl rfl hin hd (hn _ _ _ hh H locs la hl hP hS)
            · cases hc
          · cases hh
        · next C =>
          split at hh
          · next hc =>
            have hc := Nat.eq_of_beq_eq_true hc
            subst hc
            rcases hi with ⟨hc, -⟩ | ⟨hc, -⟩ | ⟨hc, -⟩ | ⟨-, rfl⟩
            · cases hc
            · cases hc
            · cases hc
            · have ht : ∃ t0 : Nat, (zm_tys cA)[t0]? = some (cA (FieldType.object C), FieldType.object C) := by
                rcases hoc _ _ _ _ hw with rfl | rfl | rfl
                · exact ⟨4, rfl⟩
                · exact ⟨5, rfl⟩
                · exact ⟨6, rfl⟩
              obtain ⟨t0, ht0⟩ := ht
              refine va_aldq hx hb hK hP1 0 t0 rfl ht0 hin hd ?_
              split at hh
              · next q hq =>
                dsimp only
                rw [hq]
                exact hn _ _ _ hh H locs la hl hP hS
              · next hq =>
                dsimp only
                rw [hq]
                exact hn _ _ _ hh H locs la hl hP hS
              · cases hh
          · cases hh
        · cases hh
    · cases hh
  · next i q t =>
    split at hh
    · next hq =>
      simp only [Bool.and_eq_true] at hq
      have hq1 := Nat.eq_of_beq_eq_true hq.1
      have hc := Nat.eq_of_beq_eq_true hq.2
      subst hq1 hc
      split at hh
      · next x hx9 =>
        obtain ⟨hX, hbl, hbA⟩ := hsc x hx9
        split at hh
        · cases hh
        · next hin =>
          rcases hi with ⟨-, rfl⟩ | ⟨hc, -⟩ | ⟨hc, -⟩ | ⟨hc, -⟩
          · exact va_sld hx hb hX hbl hbA hS hin hd (hn _ _ _ hh H locs la hl hP hS)
          all_goals cases hc
      · cases hh
    · cases hh
  · cases hh
theorem zm_i_as (B : zm_B p s m args meth c own cc nL T D cA h A R c0 s0) (hD : va_D A (zm_ws cA h wl M)) {ct : Nat} {ins : Instr} (hi : (ct = 0 ∧ ins = .iastore) ∨ (ct = 1 ∧ ins = .lastore) ∨ (ct = 2 ∧ ins = .bastore)) (hd : decode cc pc = .ok (ins, 1)) (hh : zm_as kn wl ct ls st M = some r)
    (hn : ∀ ls' st' M', kn ls' st' M' = some r → zm_G p l e R s m args below meth c Q D cA h wl A nL c0 s0 (pc + 1, ls', st', M')) : zm_G p l e R s m args below meth c Q D cA h wl A nL c0 s0 (pc, ls, st, M) := by
  intro H locs la hl hP hS
  obtain ⟨hx, hb, hml, hown, hts, hK, hr, hlk, hZ, hcs, hsc⟩ := B
  have hset : ∀ (n i : Nat) (x : Int32) (ty : FieldType) (len : Nat) (rs : List Value) (H1 : Heap), wl[n]? = some (Sum.inr (ty, len), rs) → (ty = .int ∨ ty = .byte ∨ ty = .boolean) → va_P D zm_cl ((zm_ws cA h wl M).set n (h 0 n, .inl (cA ty, len, .inl (upd (M.1 n) i x)))) H1 → va_P D zm_cl (zm_ws cA h wl (zm_w M.1 n i x, M.2)) H1 := by
    intro n i x ty len rs H1 hw hty hP1
    rw [← zm_ws_set (M := M) (M' := (zm_w M.1 n i x, M.2)) hw rfl (fun k hk => ⟨zm_w_ne hk, rfl⟩)]
    have he : zm_e cA h (zm_w M.1 n i x, M.2) n (Sum.inr (ty, len), rs) = .inl (cA ty, len, .inl (upd (M.1 n) i x)) := by
      rcases hty with rfl | rfl | rfl <;> simp only [zm_e, zm_row, zm_w_eq]
    rw [he]
    exact hP1
  unfold zm_as at hh
  split at hh
  · next x i n t =>
    split at hh
    · next ty len rs hw =>
      have hws := zm_ws_at (cA := cA) (h := h) (M := M) hw
      split at hh
      · cases hh
      · next hin =>
        split at hh
        · split at hh
          · next hc =>
            have hc := Nat.eq_of_beq_eq_true hc
            subst hc
            rcases hi with ⟨-, rfl⟩ | ⟨hc, -⟩ | ⟨hc, -⟩
            · exact va_iast hx hb hK hP hD hS n 0 hws rfl hin hd (fun H1 locs1 hP1 hD1 hS1 => hn _ _ _ hh H1 locs1 la hl (hset n _ x _ len rs H1 hw (Or.inl rfl) hP1) hS1)
            all_goals cases hc
          · cases hh
        · split at hh
          · next hc =>
            have hc := Nat.eq_of_beq_eq_true hc
            subst hc
            rcases hi with ⟨hc, -⟩ | ⟨hc, -⟩ | ⟨-, rfl⟩
            · cases hc
            · cases hc
            · exact va_bast hx hb hK hP hD hS n 2 hws rfl hin hd (fun H1 locs1 hP1 hD1 hS1 => hn _ _ _ hh H1 locs1 la hl (hset n _ _ _ len rs H1 hw (Or.inr (Or.inl rfl)) hP1) hS1)
          · cases hh
        · split at hh
          · next hc =>
            have hc := Nat.eq_of_beq_eq_true hc
            subst hc
            rcases hi with ⟨hc, -⟩ | ⟨hc, -⟩ | ⟨-, rfl⟩
            · cases hc
            · cases hc
            · exact va_zast hx hb hK hP hD hS n 3 hws rfl hin hd (fun H1 locs1 hP1 hD1 hS1 => hn _ _ _ hh H1 locs1 la hl (hset n _ _ _ len rs H1 hw (Or.inr (Or.inr rfl)) hP1) hS1)
          · cases hh
        · cases hh
    · cases hh
  · next x i n t =>
    split at hh
    · next ty len rs hw =>
      have hws := zm_ws_at (cA := cA) (h := h) (M := M) hw
      split at hh
      · cases hh
      · next hin =>
        split at hh
        · split at hh
          · next hc =>
            have hc := Nat.eq_of_beq_eq_true hc
            subst hc
            rcases hi with ⟨hc, -⟩ | ⟨-, rfl⟩ | ⟨hc, -⟩
            · cases hc
            · refine va_last hx hb hK hP hD hS n 1 hws rfl hin hd (fun H1 locs1 hP1 hD1 hS1 => hn _ _ _ hh H1 locs1 la hl ?_ hS1)
              dsimp only
              rw [← zm_ws_set (M := M) (M' := (M.1, zm_wl M.2 n i.toNatClampNeg x)) hw rfl (fun k hk => ⟨rfl, zm_wl_ne hk⟩)]
              have he : zm_e cA h (M.1, zm_wl M.2 n i.toNatClampNeg x) n (Sum.inr (.long, len), rs) = .inl (cA .long, len, .inr (.inl (vp_updL (M.2 n) i.toNatClampNeg x))) := by
                simp only [zm_e, zm_row, zm_wl_eq]
              rw [he]
              exact hP1
            · cases hc
          · cases hh
        · cases hh
    · cases hh
  · cases hh
theorem zm_i_aln (B : zm_B p s m args meth c own cc nL T D cA h A R c0 s0) (hd : decode cc pc = .ok (.arraylength, 1)) (hh : zm_aln kn T.2.2.2.2 wl ls st M = some r)
    (hn : ∀ ls' st' M', kn ls' st' M' = some r → zm_G p l e R s m args below meth c Q D cA h wl A nL c0 s0 (pc + 1, ls', st', M')) : zm_G p l e R s m args below meth c Q D cA h wl A nL c0 s0 (pc, ls, st, M) := by
  intro H locs la hl hP hS
  obtain ⟨hx, hb, hml, hown, hts, hK, hr, hlk, hZ, hcs, hsc⟩ := B
  unfold zm_aln at hh
  split at hh
  · next n t =>
    split at hh
    · next ty len rs hw =>
      split at hh
      · exact va_alen hx hb hK (zm_get1 hP hw) 0 0 rfl rfl rfl hd (hn _ _ _ hh H locs la hl hP hS)
      · exact va_alen hx hb hK (zm_get1 hP hw) 0 1 rfl rfl rfl hd (hn _ _ _ hh H locs la hl hP hS)
      · cases hh
    · cases hh
  · next q t =>
    split at hh
    · next hq =>
      have hq1 := Nat.eq_of_beq_eq_true hq
      subst hq1
      split at hh
      · next x hx9 =>
        obtain ⟨hX, hbl, hbA⟩ := hsc x hx9
        exact va_slen hx hb hX hbl hbA hS hd (hn _ _ _ hh H locs la hl hP hS)
      · cases hh
    · cases hh
  · cases hh
theorem zm_i_cst (B : zm_B p s m args meth c own cc nL T D cA h A R c0 s0) (hO : ∀ (idx : Nat) (v : Value), zm_look T.2.1 idx = some v → zm_cok own idx v) {ct idx len : Nat} {ins : Instr} (hi : (ct = 0 ∧ ins = .ldc idx ∧ len = 2) ∨ (ct = 1 ∧ ins = .ldc2_w idx ∧ len = 3) ∨ (ct = 2 ∧ ins = .ldc_w idx ∧ len = 3)) (hd : decode cc pc = .ok (ins, len)) (hh : zm_cst kn T ct idx ls st M = some r)
    (hn : ∀ ls' st' M', kn ls' st' M' = some r → zm_G p l e R s m args below meth c Q D cA h wl A nL c0 s0 (pc + len, ls', st', M')) : zm_G p l e R s m args below meth c Q D cA h wl A nL c0 s0 (pc, ls, st, M) := by
  intro H locs la hl hP hS
  obtain ⟨hx, hb, hml, hown, hts, hK, hr, hlk, hZ, hcs, hsc⟩ := B
  unfold zm_cst at hh
  split at hh
  · next v hv =>
    split at hh
    · next hc =>
      have hc := Nat.eq_of_beq_eq_true hc
      subst hc
      rcases hi with ⟨-, rfl, rfl⟩ | ⟨hc, -⟩ | ⟨hc, -⟩
      · exact lv_ldc hx hb hown (hts _ (hO _ _ hv)) hd (hn _ _ _ hh H locs la hl hP hS)
      · cases hc
      · cases hc
    · split at hh
      · next hc =>
        have hc := Nat.eq_of_beq_eq_true hc
        subst hc
        rcases hi with ⟨hc, -⟩ | ⟨hc, -⟩ | ⟨-, rfl, rfl⟩
        · cases hc
        · cases hc
        · exact lv_ldcw hx hb hown (hts _ (hO _ _ hv)) hd (hn _ _ _ hh H locs la hl hP hS)
      · cases hh
  · next v hv =>
    split at hh
    · next hc =>
      have hc := Nat.eq_of_beq_eq_true hc
      subst hc
      rcases hi with ⟨hc, -⟩ | ⟨-, rfl, rfl⟩ | ⟨hc, -⟩
      · cases hc
      · exact lv_ldc2 hx hb hown (hts _ (hO _ _ hv)) hd (hn _ _ _ hh H locs la hl hP hS)
      · cases hc
    · cases hh
  · next v hv =>
    split at hh
    · next hc =>
      have hc := Nat.eq_of_beq_eq_true hc
      subst hc
      rcases hi with ⟨-, rfl, rfl⟩ | ⟨hc, -⟩ | ⟨hc, -⟩
      · obtain ⟨rfl, tx, htx⟩ := hO _ _ hv
        exact va_ldcS hx hb hown (hZ.2 _ _ htx) hd (hn _ _ _ hh H locs la hl hP hS)
      · cases hc
      · cases hc
    · cases hh
  · cases hh
theorem zm_i_m (hma : zm_mathok) (B : zm_B p s m args meth c own cc nL T D cA h A R c0 s0) {idx a : Nat} (hd : decode cc pc = .ok (.invokestatic idx, 3)) (hio : zm_iok R own (.invokestatic idx) (a + 1) 0)
    (hh : (match a with
    | 0 => zm_m2 kn (fun x y => if x < y then y else x) ls st M
    | 1 => zm_m2 kn (fun x y => if y < x then y else x) ls st M
    | _ => zm_m1 kn (fun x => if 0 ≤ x then x else 0 - x) ls st M) = some r)
    (hn : ∀ ls' st' M', kn ls' st' M' = some r → zm_G p l e R s m args below meth c Q D cA h wl A nL c0 s0 (pc + 3, ls', st', M')) : zm_G p l e R s m args below meth c Q D cA h wl A nL c0 s0 (pc, ls, st, M) := by
  intro H locs la hl hP hS
  obtain ⟨hx, hb, hml, hown, hts, hK, hr, hlk, hZ, hcs, hsc⟩ := B
  obtain ⟨m0, ⟨m1, m2⟩, ⟨m3, m4⟩, m5, m6⟩ := hma
  have hls : c.maxLocals = la.size := by rw [hml, hl.2.1]
  match a, hio, hh with
  | 0, hio, hh =>
    obtain ⟨y, x, t, rfl, hsum, h2⟩ := zm_m2_o hh
    obtain ⟨q1, q2, q3⟩ : zm_mok R own idx Lib.Math.max.name := hio
    exact va_mmax hx hb hls hown (hts _ q3) (hts _ m1) (hts _ m0) (hts _ m2) q1 (by rw [zm_cat_map]; omega) hcs.1 hcs.2 hd (hn _ _ _ h2 H locs la hl hP hS)
  | 1, hio, hh =>
    obtain ⟨y, x, t, rfl, hsum, h2⟩ := zm_m2_o hh
    obtain ⟨q1, q2, q3⟩ : zm_mok R own idx Lib.Math.min.name := hio
    exact va_mmin hx hb hls hown (hts _ q3) (hts _ m3) (hts _ m0) (hts _ m4) q1 (by rw [zm_cat_map]; omega) hcs.1 hcs.2 hd (hn _ _ _ h2 H locs la hl hP hS)
  | a + 2, hio, hh =>
    obtain ⟨x, t, rfl, hsum, h2⟩ := zm_m1_o hh
    obtain ⟨q1, q2, q3⟩ : zm_mok R own idx Lib.Math.abs.name := hio
    exact va_mabs hx hb hls hown (hts _ q3) (hts _ m5) (hts _ m0) (hts _ m6) q1 (by rw [zm_cat_map]; omega) hcs.1 hcs.2 hd (hn _ _ _ h2 H locs la hl hP hS)
theorem zm_i_if1 (B : zm_B p s m args meth c own cc nL T D cA h A R c0 s0) {co : ClassFile.Cond} {off : Int} (hd : decode cc pc = .ok (.ifCond co off, 3)) (ht : (pc : Int) + off = (zm_tg pc off : Int)) (hh : zm_if1 k kn co pc off ls st M = some r)
    (hk : ∀ S, k S = some r → zm_G p l e R s m args below meth c Q D cA h wl A nL c0 s0 S) (hn : ∀ ls' st' M', kn ls' st' M' = some r → zm_G p l e R s m args below meth c Q D cA h wl A nL c0 s0 (pc + 3, ls', st', M')) : zm_G p l e R s m args below meth c Q D cA h wl A nL c0 s0 (pc, ls, st, M) := by
  intro H locs la hl hP hS
  obtain ⟨hx, hb, hml, hown, hts, hK, hr, hlk, hZ, hcs, hsc⟩ := B
  unfold zm_if1 at hh
  split at hh
  · next x t =>
    split at hh
    · exact lv_if_eq hx hb hd ht (fun q => hk (zm_tg pc off, ls, t, M) (by rw [if_pos q] at hh; exact hh) H locs la hl hP hS) (fun q => hn _ _ _ (by rw [if_neg q] at hh; exact hh) H locs la hl hP hS)
    · exact lv_if_ne hx hb hd ht (fun q => hk (zm_tg pc off, ls, t, M) (by rw [if_neg q] at hh; exact hh) H locs la hl hP hS) (fun q => hn _ _ _ (by rw [if_pos q] at hh; exact hh) H locs la hl hP hS)
    · exact lv_if_lt hx hb hd ht (fun q => hk (zm_tg pc off, ls, t, M) (by rw [if_pos q] at hh; exact hh) H locs la hl hP hS) (fun q => hn _ _ _ (by rw [if_neg q] at hh; exact hh) H locs la hl hP hS)
    · exact lv_if_ge hx hb hd ht (fun q => hk (zm_tg pc off, ls, t, M) (by rw [if_pos q] at hh; exact hh) H locs la hl hP hS) (fun q => hn _ _ _ (by rw [if_neg q] at hh; exact hh) H locs la hl hP hS)
    · exact lv_if_gt hx hb hd ht (fun q => hk (zm_tg pc off, ls, t, M) (by rw [if_pos q] at hh; exact hh) H locs la hl hP hS) (fun q => hn _ _ _ (by rw [if_neg q] at hh; exact hh) H locs la hl hP hS)
    · exact lv_if_le hx hb hd ht (fun q => hk (zm_tg pc off, ls, t, M) (by rw [if_pos q] at hh; exact hh) H locs la hl hP hS) (fun q => hn _ _ _ (by rw [if_neg q] at hh; exact hh) H locs la hl hP hS)
  · cases hh
theorem zm_i_if2 (B : zm_B p s m args meth c own cc nL T D cA h A R c0 s0) {co : ClassFile.Cond} {off : Int} (hd : decode cc pc = .ok (.if_icmp co off, 3)) (ht : (pc : Int) + off = (zm_tg pc off : Int)) (hh : zm_if2 k kn co pc off ls st M = some r)
    (hk : ∀ S, k S = some r → zm_G p l e R s m args below meth c Q D cA h wl A nL c0 s0 S) (hn : ∀ ls' st' M', kn ls' st' M' = some r → zm_G p l e R s m args below meth c Q D cA h wl A nL c0 s0 (pc + 3, ls', st', M')) : zm_G p l e R s m args below meth c Q D cA h wl A nL c0 s0 (pc, ls, st, M) := by
  intro H locs la hl hP hS
  obtain ⟨hx, hb, hml, hown, hts, hK, hr, hlk, hZ, hcs, hsc⟩ := B
  unfold zm_if2 at hh
  split at hh
  · next y x t =>
    split at hh
    · exact lv_icmp_eq hx hb hd ht (fun q => hk (zm_tg pc off, ls, t, M) (by rw [if_pos q] at hh; exact hh) H locs la hl hP hS) (fun q => hn _ _ _ (by rw [if_neg q] at hh; exact hh) H locs la hl hP hS)
    · exact lv_icmp_ne hx hb hd ht (fun q => hk (zm_tg pc off, ls, t, M) (by rw [if_neg q] at hh; exact hh) H locs la hl hP hS) (fun q => hn _ _ _ (by rw [if_pos q] at hh; exact hh) H locs la hl hP hS)
    · exact lv_icmp_lt hx hb hd ht (fun q => hk (zm_tg pc off, ls, t, M) (by rw [if_pos q] at hh; exact hh) H locs la hl hP hS) (fun q => hn _ _ _ (by rw [if_neg q] at hh; exact hh) H locs la hl hP hS)
    · exact lv_icmp_ge hx hb hd ht (fun q => hk (zm_tg pc off, ls, t, M) (by rw [if_pos q] at hh; exact hh) H locs la hl hP hS) (fun q => hn _ _ _ (by rw [if_neg q] at hh; exact hh) H locs la hl hP hS)
    · exact lv_icmp_gt hx hb hd ht (fun q => hk (zm_tg pc off, ls, t, M) (by rw [if_pos q] at hh; exact hh) H locs la hl hP hS) (fun q => hn _ _ _ (by rw [if_neg q] at hh; exact hh) H locs la hl hP hS)
    · exact lv_icmp_le hx hb hd ht (fun q => hk (zm_tg pc off, ls, t, M) (by rw [if_pos q] at hh; exact hh) H locs la hl hP hS) (fun q => hn _ _ _ (by rw [if_neg q] at hh; exact hh) H locs la hl hP hS)
  · cases hh
theorem zm_i_sw (B : zm_B p s m args meth c own cc nL T D cA h A R c0 s0) {d lo hi : Int} {os : Array Int} {len : Nat} (hd : decode cc pc = .ok (.tableswitch d lo hi os, len)) (ht : ∀ o ∈ zm_offs (.tableswitch d lo hi os), (pc : Int) + o = (zm_tg pc o : Int)) (hh : zm_sw k pc d lo hi os ls st M = some r)
    (hk : ∀ S, k S = some r → zm_G p l e R s m args below meth c Q D cA h wl A nL c0 s0 S) : zm_G p l e R s m args below meth c Q D cA h wl A nL c0 s0 (pc, ls, st, M) := by
  intro H locs la hl hP hS
  obtain ⟨hx, hb, hml, hown, hts, hK, hr, hlk, hZ, hcs, hsc⟩ := B
  unfold zm_sw at hh
  split at hh
  · next x t =>
    split at hh
    · next hq => exact lv_tableOut hx hb hd hq (ht d List.mem_cons_self) (hk _ hh H locs la hl hP hS)
    · next hq =>
      split at hh
      · next off ho =>
        have hm : off ∈ os.toList := by
          have := Array.mem_of_getElem? ho
          exact Array.mem_toList_iff.mpr this
        exact lv_tableIn hx hb hd (fun q => hq (Or.inl q)) (fun q => hq (Or.inr q)) ho (ht off (List.mem_cons_of_mem _ hm)) (hk _ hh H locs la hl hP hS)
      · cases hh
  · cases hh
end ZMS
