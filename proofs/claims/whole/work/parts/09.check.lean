/-! WHAT A TABLE OWES, as rows that a program decides -/
def zm_at (i : Nat) (w : Jvm.Cond) : Bool := match lw_tbl[i]? with
  | some v => decide (v = w) && goodWord v
  | none => false
theorem zm_at_ok {i : Nat} {w : Jvm.Cond} (h : zm_at i w = true) : w ∈ zm_tbl := by
  unfold zm_at at h
  split at h
  · next v hv =>
    simp only [Bool.and_eq_true, decide_eq_true_eq] at h
    rw [← h.1]
    exact List.mem_filter.mpr ⟨List.mem_of_getElem? hv, h.2⟩
  · cases h
def zm_fokB (own : String) (q : Nat × Nat × Nat × Nat) : Bool := match zm_cl[q.2.1]? with
  | some r => decide (q.2.2.1 < r.2.2) && decide ((r.2.1 q.2.2.1).1 = r.1) && zm_at q.2.2.2 (Jvm.Cond.fieldLink own q.1 r.1 (r.2.1 q.2.2.1).2.1 (r.2.1 q.2.2.1).2.2.1)
  | none => false
theorem zm_fokB_ok {own : String} {q : Nat × Nat × Nat × Nat} (h : zm_fokB own q = true) : zm_fok own q.1 q.2.1 q.2.2.1 := by
  unfold zm_fokB at h
  split at h
  · next r hr =>
    simp only [Bool.and_eq_true, decide_eq_true_eq] at h
    exact ⟨r, hr, h.1.1, h.1.2, zm_at_ok h.2⟩
  · cases h
def zm_anyF (fl : List (Nat × Nat × Nat × Nat)) (x a b : Nat) : Bool := fl.any (fun q => Nat.beq q.1 x && Nat.beq q.2.1 a && Nat.beq q.2.2.1 b)
def zm_mokB (R : Room) (own : String) (b idx : Nat) (y : MethodName) : Bool := Nat.ble 1 R.frames && Nat.ble 21 R.locals && zm_at b (Jvm.Cond.methodLink own idx y)
def zm_iokB (R : Room) (own : String) (fl : List (Nat × Nat × Nat × Nat)) (i : Instr) (a b : Nat) : Bool := match i with
  | .getfield x => zm_anyF fl x a b
  | .putfield x => zm_anyF fl x a b
  | .invokestatic x => match a with
    | 0 => true
    | 1 => zm_mokB R own b x Lib.Math.max.name
    | 2 => zm_mokB R own b x Lib.Math.min.name
    | _ => zm_mokB R own b x Lib.Math.abs.name
  | _ => true
theorem zm_mokB_ok {R : Room} {own : String} {b idx : Nat} {y : MethodName} (h : zm_mokB R own b idx y = true) : zm_mok R own idx y := by
  simp only [zm_mokB, Bool.and_eq_true, Nat.ble_eq] at h
  exact ⟨h.1.1, h.1.2, zm_at_ok h.2⟩
def zm_sokB (R : Room) (own : String) (cc : ByteArray) (fl : List (Nat × Nat × Nat × Nat)) : List (Instr × Nat × Nat) → Nat → Bool
  | [], _ => true
  | (i, a, b) :: r, pc => zm_dec cc pc i && zm_iokB R own fl i a b && zm_sokB R own cc fl r (pc + zm_len i)
theorem zm_anyF_ok {own : String} {fl : List (Nat × Nat × Nat × Nat)} (hf : fl.all (zm_fokB own) = true) {x a b : Nat} (h : zm_anyF fl x a b = true) : zm_fok own x a b := by
  obtain ⟨q, hq, h⟩ := List.any_eq_true.mp h
  simp only [Bool.and_eq_true] at h
  have h1 := Nat.eq_of_beq_eq_true h.1.1
  have h2 := Nat.eq_of_beq_eq_true h.1.2
  have h3 := Nat.eq_of_beq_eq_true h.2
  have := zm_fokB_ok (List.all_eq_true.mp hf q hq)
  rw [h1, h2, h3] at this
  exact this
theorem zm_sokB_ok {R : Room} {own : String} {cc : ByteArray} {fl : List (Nat × Nat × Nat × Nat)} (hf : fl.all (zm_fokB own) = true) : ∀ (b : List (Instr × Nat × Nat)) (pc : Nat), zm_sokB R own cc fl b pc = true → zm_sok R own cc b pc
  | [], _, _ => trivial
  | (i, a, b) :: r, pc, h => by
    simp only [zm_sokB, Bool.and_eq_true] at h
    refine ⟨h.1.1, ?_, zm_sokB_ok hf r _ h.2⟩
    have h2 := h.1.2
    cases i
    case getfield x => exact zm_anyF_ok hf h2
    case putfield x => exact zm_anyF_ok hf h2
    case invokestatic x =>
      match a, h2 with
      | 0, _ => exact trivial
      | 1, h2 => exact zm_mokB_ok h2
      | 2, h2 => exact zm_mokB_ok h2
      | a + 3, h2 => exact zm_mokB_ok h2
    all_goals exact trivial
theorem zm_look_mem {α : Type} : ∀ {L : List (Nat × α)} {n : Nat} {a : α}, zm_look L n = some a → (n, a) ∈ L
  | [], n, a, h => by cases h
  | (k, b) :: r, n, a, h => by
    unfold zm_look at h
    split at h
    · next hk =>
      cases h
      rw [Nat.eq_of_beq_eq_true hk]
      exact List.mem_cons_self
    · exact List.mem_cons_of_mem _ (zm_look_mem h)
theorem zm_ok1 {R : Room} {own : String} {cc : ByteArray} {B : List (Nat × List (Instr × Nat × Nat))} (fl : List (Nat × Nat × Nat × Nat)) (hf : fl.all (zm_fokB own) = true) (h : B.all (fun q => zm_sokB R own cc fl q.2 q.1) = true) : ∀ (pc : Nat) (b : List (Instr × Nat × Nat)), zm_look B pc = some b → zm_sok R own cc b pc := by
  intro pc b hb
  exact zm_sokB_ok hf b pc (List.all_eq_true.mp h _ (zm_look_mem hb))
def zm_cokB (own : String) (q : Nat × Value) (i : Nat) : Bool := match q.2 with
  | .int v => zm_at i (Jvm.Cond.constant own q.1 v)
  | .long v => zm_at i (Jvm.Cond.constantLong own q.1 v)
  | .retAddr k => decide (own = RX8) && (match zm_strs[k]? with
    | some p => Nat.beq p.1 q.1
    | none => false)
  | _ => false
def zm_cokL (own : String) : List (Nat × Value) → List Nat → Bool
  | [], _ => true
  | q :: r, i :: is => zm_cokB own q i && zm_cokL own r is
  | _ :: _, [] => false
theorem zm_ok2 {own : String} : ∀ {L : List (Nat × Value)} (is : List Nat), zm_cokL own L is = true → ∀ (idx : Nat) (v : Value), zm_look L idx = some v → zm_cok own idx v
  | [], _, _, idx, v, hv => by cases hv
  | q :: r, [], h, idx, v, hv => by cases h
  | (k, b) :: r, i :: is, h, idx, v, hv => by
    simp only [zm_cokL, Bool.and_eq_true] at h
    unfold zm_look at hv
    split at hv
    · next hk =>
      cases hv
      have hk := Nat.eq_of_beq_eq_true hk
      subst hk
      have h1 := h.1
      unfold zm_cokB at h1
      split at h1
      · next x hx => dsimp only at hx; rw [hx]; exact zm_at_ok h1
      · next x hx => dsimp only at hx; rw [hx]; exact zm_at_ok h1
      · next x hx =>
        simp only [Bool.and_eq_true, decide_eq_true_eq] at h1
        dsimp only at hx
        rw [hx]
        refine ⟨h1.1, ?_⟩
        have h2 := h1.2
        split at h2
        · next p hp => exact ⟨p.2, by rw [hp, ← Nat.eq_of_beq_eq_true h2]⟩
        · cases h2
      · cases h1
    · exact zm_ok2 is h.2 idx v hv
def zm_allP {α : Type} (P : Nat → α → Prop) : List (Nat × α) → Prop
  | [] => True
  | (k, a) :: r => P k a ∧ zm_allP P r
theorem zm_ok3 {α : Type} {P : Nat → α → Prop} : ∀ {L : List (Nat × α)}, zm_allP P L → ∀ (n : Nat) (a : α), zm_look L n = some a → P n a
  | [], _, n, a, h => by cases h
  | (k, b) :: r, hp, n, a, h => by
    unfold zm_look at h
    split at h
    · next hk =>
      cases h
      rw [Nat.eq_of_beq_eq_true hk]
      exact hp.1
    · exact zm_ok3 hp.2 n a h
/-- what may be called: its contract and its own words -/
def zm_cee (l : Launch) (y : MethodName) (bytes : ByteArray) (maxL : Nat) (ret : Option FieldType) (rm : Room) (n na : Nat) (rv : Option Nat) (F : zm_L → List Value → zm_I → zm_R) : Prop :=
  zm_Con l y bytes maxL ret rm F ∧ rm.cells = 0 ∧ rm.slots = 0 ∧ Jvm.Cond.code y bytes maxL ret ∈ zm_tbl ∧ Jvm.Cond.initialized y.cls ∈ zm_tbl ∧
    (y.cls ≠ "java/lang/invoke/MethodHandle" ∧ y.cls ≠ "java/lang/invoke/VarHandle" ∧ (parseMethodDescriptor y.desc).map (fun d => d.parameters.length) = some n) ∧
    match rv with
    | some ci => na = n + 1 ∧ Jvm.Cond.instanceMethod y ∈ zm_tbl ∧ Jvm.Cond.selects y.cls y y ∈ zm_tbl ∧ (∃ r, zm_cl[ci]? = some r ∧ r.1 = y.cls)
    | none => na = n ∧ Jvm.Cond.static y ∈ zm_tbl
theorem zm_callok_of {l : Launch} {y : MethodName} {bytes : ByteArray} {maxL : Nat} {ret : Option FieldType} {rm : Room} {n na : Nat} {rv : Option Nat} {F : zm_L → List Value → zm_I → zm_R} (h : zm_cee l y bytes maxL ret rm n na rv F) {R : Room} {own : String} {idx : Nat} (i : Nat) (hl : zm_at i (Jvm.Cond.methodLink own idx y) = true) {sm : Bool} {bl : List (Nat × Nat)} (hR : rm.frames + 1 ≤ R.frames ∧ 8 + (maxL + 11) + rm.locals ≤ R.locals) : zm_callok l R own idx (na, rv, sm, bl, F) := by
  obtain ⟨h1, h2, h3, h4, h5, h6, h7⟩ := h
  exact ⟨y, bytes, maxL, ret, rm, n, h1, h2, h3, hR, h4, zm_at_ok hl, h5, h6, h7⟩
