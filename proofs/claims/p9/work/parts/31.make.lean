/-! 31.make, 32.made, 33.ctor, 33a.law -/
section
/-! THE RUNS THAT MAKE CELLS, as a program; and that the machine does them -/
abbrev zn_S : Type := zm_S × zm_L × Nat × Nat
abbrev zn_F : Type := zm_L → List Value → zm_I → Option (zm_L × zm_I)
/-- a constructor: what it does, how many cells and slots it makes -/
abbrev zn_C : Type := zn_F × Nat × Nat
/-- code by places, constructors that are called, how many cells and slots may be made -/
abbrev zn_T : Type := List (Nat × Instr × Nat × Nat) × List (Nat × zn_C) × Nat × Nat
def zn_clV (N : Nat) : Value → Bool
  | .ref n => Nat.ble (n + 1) N
  | _ => true
def zn_clO (N : Nat) : Option Value → Bool
  | some v => zn_clV N v
  | none => true
def zn_cl (ls : List (Option Value)) (st : List Value) (wl : zm_L) : Bool := ls.all (zn_clO wl.length) && st.all (zn_clV wl.length) && wl.all (fun d => d.2.all (zn_clV wl.length))
def zn_next (wl : zm_L) (i : Instr) (a b pc : Nat) (ls : List (Option Value)) (st : List Value) (M : zm_I) : Option zm_S := match i with
  | .aload_n x => match ls[x.val]? with
    | some (some (.ref n)) => some (pc + 1, ls, .ref n :: st, M)
    | some (some .null) => some (pc + 1, ls, .null :: st, M)
    | _ => none
  | .iload_n x => match ls[x.val]? with
    | some (some (.int n)) => some (pc + 1, ls, .int n :: st, M)
    | _ => none
  | .istore_n x => match st with
    | .int y :: t => match Nat.ble (x.val + 1) ls.length with
      | true => some (pc + 1, (zm_clr ls x.val).set x.val (some (.int y)), t, M)
      | false => none
    | _ => none
  | .astore_n x => match st with
    | .ref y :: t => match Nat.ble (x.val + 1) ls.length with
      | true => some (pc + 1, (zm_clr ls x.val).set x.val (some (.ref y)), t, M)
      | false => none
    | .null :: t => match Nat.ble (x.val + 1) ls.length with
      | true => some (pc + 1, (zm_clr ls x.val).set x.val (some .null), t, M)
      | false => none
    | _ => none
  | .iconst n => some (pc + 1, ls, .int (Int32.ofInt n) :: st, M)
  | .bipush n => some (pc + 2, ls, .int (Int8.ofInt n).toInt32 :: st, M)
  | .sipush n => some (pc + 3, ls, .int (Int16.ofInt n).toInt32 :: st, M)
  | .dup => match st with
    | .ref x :: r => some (pc + 1, ls, .ref x :: .ref x :: r, M)
    | _ => none
  | .iinc x n => match ls[x]? with
    | some (some (.int y)) => some (pc + 3, (zm_clr ls x).set x (some (.int (y + Int32.ofInt n))), st, M)
    | _ => none
  | .goto off => some (zm_tg pc off, ls, st, M)
  | .if_icmp c off => match st with
    | .int y :: .int x :: r => match c with
      | .ge => if y ≤ x then some (zm_tg pc off, ls, r, M) else some (pc + 3, ls, r, M)
      | .gt => if y < x then some (zm_tg pc off, ls, r, M) else some (pc + 3, ls, r, M)
      | .lt => if x < y then some (zm_tg pc off, ls, r, M) else some (pc + 3, ls, r, M)
      | _ => none
    | _ => none
  | .ifCond c off => match st with
    | .int x :: r => match c with
      | .lt => if x < 0 then some (zm_tg pc off, ls, r, M) else some (pc + 3, ls, r, M)
      | _ => none
    | _ => none
  | .ifnonnull off => match st with
    | .ref _ :: r => some (zm_tg pc off, ls, r, M)
    | .null :: r => some (pc + 3, ls, r, M)
    | _ => none
  | .getfield _ => match st with
    | .ref n :: r => match wl[n]? with
      | some (.inl c, rs) => match Nat.beq c a with
        | true => some (pc + 3, ls, zm_vA M n rs (zm_ty a b) b :: r, M)
        | false => none
      | _ => none
    | _ => none
  | .putfield _ => match zm_fin a b with
    | true => none
    | false => match st with
      | .int x :: .ref n :: r => match wl[n]? with
        | some (.inl c, _) => match Nat.beq c a with
          | true => match zm_ty a b with
            | .int => some (pc + 3, ls, r, (zm_w M.1 n b x, M.2))
            | _ => none
          | false => none
        | _ => none
      | _ => none
  | .iastore => match st with
    | .int x :: .int i :: .ref n :: r => match wl[n]? with
      | some (.inr (.int, len), _) => if i < 0 ∨ len ≤ i.toNatClampNeg then none else some (pc + 1, ls, r, (zm_w M.1 n i.toNatClampNeg x, M.2))
      | _ => none
    | _ => none
  | .aaload => match st with
    | .int i :: .ref n :: r => match wl[n]? with
      | some (.inr (.object _, len), rs) => if i < 0 ∨ len ≤ i.toNatClampNeg then none else match rs.getD i.toNatClampNeg .null with
        | .ref q => some (pc + 1, ls, .ref q :: r, M)
        | .null => some (pc + 1, ls, .null :: r, M)
        | _ => none
      | _ => none
    | _ => none
  | _ => none
def zn_prim : FieldType → Bool
  | .int => true
  | .long => true
  | .byte => true
  | .boolean => true
  | _ => false
def zn_isR : FieldType → Bool
  | .array _ => true
  | .object _ => true
  | _ => false
def zn_okf (a : Nat) : Bool := (List.range (zm_nf a)).all (fun f => match zm_ty a f with
  | .float => false
  | .double => false
  | _ => true)
def zn_nm (a : Nat) : String := match zm_cl[a]? with
  | some r => r.1
  | none => ""
def zn_isA (a : Nat) : Bool := Nat.beq a 0 || Nat.beq a 2 || Nat.beq a 7
/-- putfield of a reference into a final field -/
def zn_pr (wl : zm_L) (a b pc : Nat) (ls : List (Option Value)) (st : List Value) (M : zm_I) : Option (zm_S × zm_L) := match st with
  | .ref v :: .ref n :: r => match wl[n]? with
    | some (.inl c, rs) => match Nat.beq c a && zm_fin a b && zn_isR (zm_ty a b) && Nat.ble (b + 1) rs.length with
      | true => some ((pc + 3, ls, r, M), wl.set n (.inl a, rs.set b (.ref v)))
      | false => none
    | _ => none
  | _ => none
def zn_as (wl : zm_L) (pc : Nat) (ls : List (Option Value)) (st : List Value) (M : zm_I) : Option (zm_S × zm_L) := match st with
  | .ref v :: .int i :: .ref n :: r => match wl[n]? with
    | some (.inr (.object C, len), rs) => match wl[v]? with
      | some (.inl ci, _) => if (i < 0 ∨ len ≤ i.toNatClampNeg) then none else match decide (zn_nm ci = C) && Nat.ble (ci + 1) 11 && Nat.ble (i.toNatClampNeg + 1) rs.length with
        | true => some ((pc + 1, ls, r, M), wl.set n (.inr (.object C, len), rs.set i.toNatClampNeg (.ref v)))
        | false => none
      | _ => none
    | _ => none
  | _ => none
def zn_ct (T : zn_T) (S : zn_S) (idx : Nat) : Option zn_S := match S.1.2.2.1 with
  | .ref n :: r => match zm_look T.2.1 idx with
    | some C => match Nat.ble (r.map fun v => v.category).sum 8 && zn_cl S.1.2.1 r S.2.1 && Nat.ble (S.2.2.1 + C.2.1) T.2.2.1 && Nat.ble (S.2.2.2 + C.2.2) T.2.2.2 with
      | true => match C.1 S.2.1 [.ref n] S.1.2.2.2 with
        | some q => match Nat.ble S.2.1.length q.1.length with
          | true => some ((S.1.1 + 3, S.1.2.1, r, q.2), q.1, S.2.2.1 + C.2.1, S.2.2.2 + C.2.2)
          | false => none
        | none => none
      | false => none
    | none => none
  | _ => none
def zn_step (T : zn_T) (S : zn_S) : Option zn_S := match zm_look T.1 S.1.1 with
  | none => none
  | some (i, a, b) => match i with
    | .new _ => match zn_cl S.1.2.1 S.1.2.2.1 S.2.1 && Nat.ble (S.2.2.1 + 1) T.2.2.1 && Nat.ble (S.2.2.2 + zm_nf a) T.2.2.2 && zn_okf a with
      | true => some ((S.1.1 + 3, S.1.2.1, .ref S.2.1.length :: S.1.2.2.1, S.1.2.2.2), S.2.1 ++ [(.inl a, List.replicate (zm_nf a) .null)], S.2.2.1 + 1, S.2.2.2 + zm_nf a)
      | false => none
    | .newarray t => match S.1.2.2.1 with
      | .int n :: r => if n < 0 then none else match zn_cl S.1.2.1 r S.2.1 && Nat.ble (S.2.2.1 + 1) T.2.2.1 && Nat.ble (S.2.2.2 + n.toNatClampNeg) T.2.2.2 && zn_prim (newarray.typeOf t) && Nat.ble n.toNatClampNeg 100000 with
        | true => some ((S.1.1 + 2, S.1.2.1, .ref S.2.1.length :: r, S.1.2.2.2), S.2.1 ++ [(.inr (newarray.typeOf t, n.toNatClampNeg), [])], S.2.2.1 + 1, S.2.2.2 + n.toNatClampNeg)
        | false => none
      | _ => none
    | .anewarray _ => match S.1.2.2.1 with
      | .int n :: r => if n < 0 then none else match zn_cl S.1.2.1 r S.2.1 && Nat.ble (S.2.2.1 + 1) T.2.2.1 && Nat.ble (S.2.2.2 + n.toNatClampNeg) T.2.2.2 && zn_isA a && Nat.ble n.toNatClampNeg 100000 with
        | true => some ((S.1.1 + 3, S.1.2.1, .ref S.2.1.length :: r, S.1.2.2.2), S.2.1 ++ [(.inr (.object (zn_nm a), n.toNatClampNeg), List.replicate n.toNatClampNeg .null)], S.2.2.1 + 1, S.2.2.2 + n.toNatClampNeg)
        | false => none
      | _ => none
    | .aastore => match zn_as S.2.1 S.1.1 S.1.2.1 S.1.2.2.1 S.1.2.2.2 with
      | some q => some (q.1, q.2, S.2.2)
      | none => none
    | .invokespecial idx => match a with
      | 0 => match S.1.2.2.1 with
        | .ref _ :: r => match Nat.ble (r.map fun v => v.category).sum 8 with
          | true => some ((S.1.1 + 3, S.1.2.1, r, S.1.2.2.2), S.2)
          | false => none
        | _ => none
      | _ => zn_ct T S idx
    | .putfield _ => match zn_pr S.2.1 a b S.1.1 S.1.2.1 S.1.2.2.1 S.1.2.2.2 with
      | some q => some (q.1, q.2, S.2.2)
      | none => match zn_next S.2.1 i a b S.1.1 S.1.2.1 S.1.2.2.1 S.1.2.2.2 with
        | some q => some (q, S.2)
        | none => none
    | i => match zn_next S.2.1 i a b S.1.1 S.1.2.1 S.1.2.2.1 S.1.2.2.2 with
      | some q => some (q, S.2)
      | none => none
def zn_go (T : zn_T) (stop : Nat) : Nat → zn_S → Option zn_S
  | 0, _ => none
  | n + 1, S => match Nat.beq S.1.1 stop with
    | true => some S
    | false => match zn_step T S with
      | some S1 => zn_go T stop n S1
      | none => none
/-- what a constructor does, by its table: places of its locals, of its return -/
def zn_run (T : zn_T) (nL stop fuel : Nat) : zn_F := fun wl av M => match Nat.ble (zm_sl av).length nL with
  | false => none
  | true => match zn_go T stop fuel ((0, zm_pad nL (zm_sl av), [], M), wl, 0, 0) with
    | some S => match S.1.2.2.1 with
      | [] => match Nat.beq S.2.2.1 T.2.2.1 && Nat.beq S.2.2.2 T.2.2.2 with
        | true => some (S.2.1, S.1.2.2.2)
        | false => none
      | _ => none
    | none => none
noncomputable def zn_k (S0 : zm_S) : zm_S → zm_R := fun S => @ite zm_R (S = S0) (Classical.propDecidable _) (some (none, S0.2.2.2)) none
theorem zn_k_self (S0 : zm_S) : zn_k S0 S0 = some (none, S0.2.2.2) := if_pos rfl
theorem zn_k_inv {S0 S : zm_S} {r : Option Value × zm_I} (h : zn_k S0 S = some r) : S = S0 := by
  unfold zn_k at h
  split at h
  · assumption
  · cases h
/-- nothing is written where no cell is yet -/
def zn_fr (wl : zm_L) (M : zm_I) : Prop := ∀ a, wl.length ≤ a → (∀ b, M.1 a b = 0) ∧ ∀ b, M.2 a b = 0
theorem zn_fr_w {wl : zm_L} {M : zm_I} {n i : Nat} {x : Int32} {d : zm_D × List Value} (hd : wl[n]? = some d) (h : zn_fr wl M) : zn_fr wl (zm_w M.1 n i x, M.2) := by
  intro a ha
  have hl := (List.getElem?_eq_some_iff.mp hd).1
  refine ⟨fun b => ?_, (h a ha).2⟩
  have hne : a ≠ n := by omega
  simp only [zm_w, hne, false_and, if_false]
  exact (h a ha).1 b
def zn_len : Instr → Nat
  | .new _ => 3
  | .newarray _ => 2
  | .anewarray _ => 3
  | i => zm_len i
def zn_dec (cc : ByteArray) (pc : Nat) (i : Instr) : Bool := match decode cc pc with
  | .ok (j, len) => decide (j = i) && (len == zn_len i) && (zm_offs i).all (fun o => decide (0 ≤ (pc : Int) + o))
  | _ => false
theorem zn_dec_o {cc : ByteArray} {pc : Nat} {i : Instr} (h : zn_dec cc pc i = true) : decode cc pc = .ok (i, zn_len i) := by
  unfold zn_dec at h
  split at h
  · next j len hd =>
    simp at h
    rw [hd, h.1.1, h.1.2]
  · cases h
theorem zn_dec_zm {cc : ByteArray} {pc : Nat} {i : Instr} (h : zn_dec cc pc i = true) (hl : zn_len i = zm_len i) : zm_dec cc pc i = true := by
  unfold zn_dec at h
  unfold zm_dec
  split at h
  · next j len hd =>
    rw [hd]
    simp only [Bool.and_eq_true, Bool.or_eq_true] at h ⊢
    rw [← hl]
    exact ⟨⟨h.1.1, Or.inl h.1.2⟩, h.2⟩
  · cases h
set_option maxHeartbeats 1000000 in
theorem zn_next_ok (T : zm_T) {wl : zm_L} {i : Instr} {a b pc : Nat} {ls : List (Option Value)} {st : List Value} {M : zm_I} {S1 : zm_S} (h : zn_next wl i a b pc ls st M = some S1) : zn_isRet i = false ∧ zn_len i = zm_len i ∧ (zn_fr wl M → zn_fr wl S1.2.2.2) ∧ zm_ins T wl (zn_k S1) (fun ls' st' M' => zn_k S1 (pc + zm_len i, ls', st', M')) i a b pc ls st M = some (none, S1.2.2.2) := by
  cases i
  case aload_n x =>
    simp only [zn_next] at h
    split at h
    · next n hx => cases h; exact ⟨rfl, rfl, id, by simp only [zm_ins, zm_ld, hx]; exact zn_k_self _⟩
    · next hx => cases h; exact ⟨rfl, rfl, id, by simp only [zm_ins, zm_ld, hx]; exact zn_k_self _⟩
    · cases h
  case iload_n x =>
    simp only [zn_next] at h
    split at h
    · next n hx => cases h; exact ⟨rfl, rfl, id, by simp only [zm_ins, zm_ld, hx]; exact zn_k_self _⟩
    · cases h
  case istore_n x =>
    simp only [zn_next] at h
    split at h
    · next y t =>
      split at h
      · next hx => cases h; exact ⟨rfl, rfl, id, by simp only [zm_ins, zm_st, hx]; exact zn_k_self _⟩
      · cases h
    · cases h
  case astore_n x =>
    simp only [zn_next] at h
    split at h
    · next y t =>
      split at h
      · next hx => cases h; exact ⟨rfl, rfl, id, by simp only [zm_ins, zm_st, hx]; exact zn_k_self _⟩
      · cases h
    · next t =>
      split at h
      · next hx => cases h; exact ⟨rfl, rfl, id, by simp only [zm_ins, zm_st, hx]; exact zn_k_self _⟩
      · cases h
    · cases h
  case iconst n => cases h; exact ⟨rfl, rfl, id, zn_k_self _⟩
  case bipush n => cases h; exact ⟨rfl, rfl, id, zn_k_self _⟩
  case sipush n => cases h; exact ⟨rfl, rfl, id, zn_k_self _⟩
  case goto off => cases h; exact ⟨rfl, rfl, id, zn_k_self _⟩
  case dup =>
    simp only [zn_next] at h
    split at h
    · cases h; exact ⟨rfl, rfl, id, by simp only [zm_ins, zm_stk]; exact zn_k_self _⟩
    · cases h
  case iinc x n =>
    simp only [zn_next] at h
    split at h
    · next y hx => cases h; exact ⟨rfl, rfl, id, by simp only [zm_ins, zm_stk, hx]; exact zn_k_self _⟩
    · cases h
  case ifnonnull off =>
    simp only [zn_next] at h
    split at h
    · cases h; exact ⟨rfl, rfl, id, by simp only [zm_ins, zm_stk]; exact zn_k_self _⟩
    · cases h; exact ⟨rfl, rfl, id, by simp only [zm_ins, zm_stk]; exact zn_k_self _⟩
    · cases h
  case if_icmp co off =>
    simp only [zn_next] at h
    split at h
    · next y x r =>
      cases co
      case ge =>
        simp only at h
        split at h
        · next hx => cases h; exact ⟨rfl, rfl, id, by simp only [zm_ins, zm_if2, if_pos hx]; exact zn_k_self _⟩
        · next hx => cases h; exact ⟨rfl, rfl, id, by simp only [zm_ins, zm_if2, if_neg hx]; exact zn_k_self _⟩
      case gt =>
        simp only at h
        split at h
        · next hx => cases h; exact ⟨rfl, rfl, id, by simp only [zm_ins, zm_if2, if_pos hx]; exact zn_k_self _⟩
        · next hx => cases h; exact ⟨rfl, rfl, id, by simp only [zm_ins, zm_if2, if_neg hx]; exact zn_k_self _⟩
      case lt =>
        simp only at h
        split at h
        · next hx => cases h; exact ⟨rfl, rfl, id, by simp only [zm_ins, zm_if2, if_pos hx]; exact zn_k_self _⟩
        · next hx => cases h; exact ⟨rfl, rfl, id, by simp only [zm_ins, zm_if2, if_neg hx]; exact zn_k_self _⟩
      all_goals (simp at h)
    · cases h
  case ifCond co off =>
    simp only [zn_next] at h
    split at h
    · next x r =>
      cases co
      case lt =>
        simp only at h
        split at h
        · next hx => cases h; exact ⟨rfl, rfl, id, by simp only [zm_ins, zm_if1, if_pos hx]; exact zn_k_self _⟩
        · next hx => cases h; exact ⟨rfl, rfl, id, by simp only [zm_ins, zm_if1, if_neg hx]; exact zn_k_self _⟩
      all_goals (simp at h)
    · cases h
  case getfield x =>
    simp only [zn_next] at h
    split at h
    · next n r =>
      split at h
      · next c rs hw =>
        split at h
        · next hc => cases h; exact ⟨rfl, rfl, id, by simp only [zm_ins, zm_gf, hw, hc]; exact zn_k_self _⟩
        · cases h
      · cases h
    · cases h
  case putfield x =>
    simp only [zn_next] at h
    split at h
    · cases h
    · next hf =>
      split at h
      · next x n r =>
        split at h
        · next c rs hw =>
          split at h
          · next hc =>
            split at h
            · next ht => cases h; exact ⟨rfl, rfl, zn_fr_w hw, by simp only [zm_ins, zm_pf, hf, hw, hc, ht]; exact zn_k_self _⟩
            · cases h
          · cases h
        · cases h
      · cases h
  case iastore =>
    simp only [zn_next] at h
    split at h
    · next x i n r =>
      split at h
      · next len rs hw =>
        split at h
        · cases h
        · next hi => cases h; exact ⟨rfl, rfl, zn_fr_w hw, by simp only [zm_ins, zm_as, hw, if_neg hi]; exact zn_k_self _⟩
      · cases h
    · cases h
  case aaload =>
    simp only [zn_next] at h
    split at h
    · next i n r =>
      split at h
      · next C len rs hw =>
        split at h
        · cases h
        · next hi =>
          split at h
          · next q hq => cases h; exact ⟨rfl, rfl, id, by simp only [zm_ins, zm_al, hw, if_neg hi, hq]; exact zn_k_self _⟩
          · next hq => cases h; exact ⟨rfl, rfl, id, by simp only [zm_ins, zm_al, hw, if_neg hi, hq]; exact zn_k_self _⟩
          · cases h
      · cases h
    · cases h
  all_goals (simp [zn_next] at h)
-- the handles taken on
def zn_ext (N : Nat) (h h1 : Nat → Nat → Nat) : Prop := (∀ n, n < N → h1 0 n = h 0 n) ∧ ∀ n, h1 1 n = h 1 n
theorem zn_ext_rf (N : Nat) (h : Nat → Nat → Nat) : zn_ext N h h := ⟨fun _ _ => rfl, fun _ => rfl⟩
theorem zn_ext_tr {N N1 : Nat} {h h1 h2 : Nat → Nat → Nat} (hl : N ≤ N1) (e1 : zn_ext N h h1) (e2 : zn_ext N1 h1 h2) : zn_ext N h h2 := ⟨fun n hn => (e2.1 n (Nat.lt_of_lt_of_le hn hl)).trans (e1.1 n hn), fun n => (e2.2 n).trans (e1.2 n)⟩
def zn_up (h : Nat → Nat → Nat) (n q : Nat) : Nat → Nat → Nat := fun a k => match a with
  | 0 => if k = n then q else h 0 k
  | a + 1 => h (a + 1) k
theorem zn_up_ext (h : Nat → Nat → Nat) (n q : Nat) : zn_ext n h (zn_up h n q) := ⟨fun k hk => by simp [zn_up, Nat.ne_of_lt hk], fun _ => rfl⟩
theorem zn_up_at (h : Nat → Nat → Nat) (n q : Nat) : zn_up h n q 0 n = q := by simp [zn_up]
theorem zn_cv {N : Nat} {h h1 : Nat → Nat → Nat} (hx : zn_ext N h h1) {v : Value} (hv : zn_clV N v = true) : zm_cv h1 v = zm_cv h v := by
  cases v with
  | ref n => simp only [zm_cv]; rw [hx.1 n (Nat.le_of_ble_eq_true hv)]
  | retAddr k => simp only [zm_cv]; rw [hx.2 k]
  | _ => rfl
theorem zn_rr {N : Nat} {h h1 : Nat → Nat → Nat} (hx : zn_ext N h h1) {v : Value} (hv : zn_clV N v = true) : zm_rr h1 v = zm_rr h v := by
  cases v with
  | ref n => simp only [zm_rr]; rw [hx.1 n (Nat.le_of_ble_eq_true hv)]
  | retAddr k => simp only [zm_rr]; rw [hx.2 k]
  | _ => rfl
theorem zn_getD {N : Nat} {rs : List Value} (h : rs.all (zn_clV N) = true) (k : Nat) : zn_clV N (rs.getD k .null) = true := by
  rw [List.getD_eq_getElem?_getD]
  cases hk : rs[k]? with
  | none => rfl
  | some v => exact List.all_eq_true.mp h v (List.mem_of_getElem? hk)
theorem zn_vA {N : Nat} {M : zm_I} {n : Nat} {rs : List Value} (h : rs.all (zn_clV N) = true) (ty : FieldType) (k : Nat) : zn_clV N (zm_vA M n rs ty k) = true := by
  cases ty <;> simp only [zm_vA] <;> first | exact zn_getD h k | rfl
theorem zn_e {cA : FieldType → ClassId} {N : Nat} {h h1 : Nat → Nat → Nat} (hx : zn_ext N h h1) {M : zm_I} {n : Nat} {d : zm_D × List Value} (hc : d.2.all (zn_clV N) = true) : zm_e cA h1 M n d = zm_e cA h M n d := by
  obtain ⟨ci | ⟨ty, len⟩, rs⟩ := d
  · have hv : ∀ f, zm_cv h1 (zm_vA M n rs (zm_ty ci f) f) = zm_cv h (zm_vA M n rs (zm_ty ci f) f) := fun f => zn_cv hx (zn_vA hc _ _)
    simp only [zm_e, hv]
  · have hr : zm_row h1 M n rs ty = zm_row h M n rs ty := by
      cases ty <;> simp only [zm_row]
      congr 4
      funext i
      exact zn_rr hx (zn_getD hc i)
    simp only [zm_e, hr]
theorem zn_ws_ext {cA : FieldType → ClassId} {h h1 : Nat → Nat → Nat} {wl : zm_L} {M : zm_I} (hx : zn_ext wl.length h h1) (hc : wl.all (fun d => d.2.all (zn_clV wl.length)) = true) : zm_ws cA h1 wl M = zm_ws cA h wl M := by
  apply List.ext_getElem?
  intro k
  rw [zm_ws_get, zm_ws_get]
  cases hk : wl[k]? with
  | none => rfl
  | some d =>
    have hl := (List.getElem?_eq_some_iff.mp hk).1
    simp only [Option.map_some]
    rw [hx.1 k hl, zn_e hx (List.all_eq_true.mp hc d (List.mem_of_getElem? hk))]
theorem zn_ws_push (cA : FieldType → ClassId) (h : Nat → Nat → Nat) (wl : zm_L) (M : zm_I) (d : zm_D × List Value) : zm_ws cA h (wl ++ [d]) M = zm_ws cA h wl M ++ [(h 0 wl.length, zm_e cA h M wl.length d)] := by
  simp [zm_ws, List.mapIdx_append]
theorem zn_ws_setd {cA : FieldType → ClassId} {h : Nat → Nat → Nat} {wl : zm_L} {M : zm_I} {n : Nat} {d d' : zm_D × List Value} (hd : wl[n]? = some d) : zm_ws cA h (wl.set n d') M = (zm_ws cA h wl M).set n (h 0 n, zm_e cA h M n d') := by
  apply List.ext_getElem?
  intro k
  have hl := (List.getElem?_eq_some_iff.mp hd).1
  rw [zm_ws_get, List.getElem?_set, List.getElem?_set, zm_ws_get]
  have hl2 : (zm_ws cA h wl M).length = wl.length := by simp [zm_ws]
  by_cases hk : n = k
  · subst hk
    simp [hl, hl2]
  · simp [hk]
theorem zn_lok {N : Nat} {h h1 : Nat → Nat → Nat} (hx : zn_ext N h h1) {nL : Nat} {ls : List (Option Value)} {la : Array Slot} (hl : zm_lok h nL ls la) (hc : ls.all (zn_clO N) = true) : zm_lok h1 nL ls la := by
  refine ⟨hl.1, hl.2.1, hl.2.2.1, fun k v hk => ?_⟩
  rw [zn_cv hx (List.all_eq_true.mp hc (some v) (List.mem_of_getElem? hk))]
  exact hl.2.2.2 k v hk
theorem zn_st {N : Nat} {h h1 : Nat → Nat → Nat} (hx : zn_ext N h h1) {st : List Value} (hc : st.all (zn_clV N) = true) : st.map (zm_cv h1) = st.map (zm_cv h) := by
  apply List.map_congr_left
  intro v hv
  exact zn_cv hx (List.all_eq_true.mp hc v hv)
theorem zn_fr_push {wl : zm_L} {M : zm_I} {d : zm_D × List Value} (h : zn_fr wl M) : zn_fr (wl ++ [d]) M := fun a ha => h a (by simp at ha; omega)
theorem zn_fr_set {wl : zm_L} {M : zm_I} {n : Nat} {d : zm_D × List Value} (h : zn_fr wl M) : zn_fr (wl.set n d) M := fun a ha => h a (by simpa using ha)
end
section
/-! THE MACHINE DOES THE RUNS THAT MAKE CELLS -/
section ZNS
variable {p : Program} {l : Launch} {e : Env} {R : Room} {s : State} {m : MethodId} {args : Array Value} {below : List Frame} {meth : Method} {c : Code}
/-- constructors of nest mates: the caller's class, the pool's number, the constructor -/
def zn_nest : List (String × Nat × MethodName) := [(RX9, 9, yX8_init), (RX9, 18, yX0_init), (RX9, 38, yX3_init), (RX3, 11, yX2_init), (RX9, 48, yX2_init), (RX9, 55, yX6_init), (RX1, 24, yX2_init), (RX9, 69, yX5_init), (RX9, 76, yX4_init), (RX9, 85, yX7_init)]
/-- words that are no word of zm_tbl: the array classes of the classes' own arrays, the nest mates' constructors -/
def zn_AO (U : State) : Prop := (va_AO RX0 U ∧ va_AO RX2 U ∧ va_AO RX7 U) ∧ ∀ q ∈ zn_nest, va_Nw (.methodLinkNest q.1 q.2.1 q.2.2 "WearingBench") U
theorem zn_AO_warm {s U : State} (hW : s.WarmedH U.vm) (h : zn_AO s) : zn_AO U := ⟨⟨va_AO.moved hW.alike h.1.1, va_AO.moved hW.alike h.1.2.1, va_AO.moved hW.alike h.1.2.2⟩, fun q hq => va_Nw.warmM hW (h.2 q hq)⟩
theorem zn_AO_same {u U : State} (hv : u.vm = U.vm) (h : zn_AO u) : zn_AO U := by
  have ha : u.vm.Alike U.vm := by rw [← hv]; exact Vm.Alike.refl u.vm
  exact ⟨⟨va_AO.moved ha h.1.1, va_AO.moved ha h.1.2.1, va_AO.moved ha h.1.2.2⟩, fun q hq => va_Nw.same rfl hv (h.2 q hq)⟩
def zn_G (p : Program) (l : Launch) (e : Env) (R : Room) (s : State) (m : MethodId) (args : Array Value) (below : List Frame) (meth : Method) (c : Code) (Q : State → Prop) (D : va_G) (cA : FieldType → ClassId) (A : Nat → Prop) (nL : Nat) (h : Nat → Nat → Nat) (S : zn_S) : Prop :=
  va_D A (zm_ws cA h S.2.1 S.1.2.2.2) → zn_fr S.2.1 S.1.2.2.2 → zm_wok S.2.1 → zm_G p l e R s m args below meth c Q D cA h S.2.1 A nL S.2.2.1 S.2.2.2 S.1
def zn_Pc (D : va_G) (cA : FieldType → ClassId) (h : Nat → Nat → Nat) (A : Nat → Prop) (wl : zm_L) (av : List Value) (M : zm_I) : Array Value → State → Prop := fun v U =>
  v = (av.map (zm_cv h)).toArray ∧ va_P D zm_cl (zm_ws cA h wl M) U.heap ∧ va_K D zm_cl (zm_tys cA) U ∧ va_D A (zm_ws cA h wl M) ∧ (∀ q, U.heap.size ≤ q → A q) ∧ zm_wok wl ∧ zn_fr wl M ∧ zm_Z (h 1) A U U.heap ∧ zn_AO U
def zn_Q (D : va_G) (cA : FieldType → ClassId) (h : Nat → Nat → Nat) (A : Nat → Prop) (N : Nat) (r : zm_L × zm_I) : Array Value → State → Outcome → State → Prop := fun _ st o t =>
  o = .returned none ∧ (∃ h1, zn_ext N h h1 ∧ va_P D zm_cl (zm_ws cA h1 r.1 r.2) t.heap ∧ va_D A (zm_ws cA h1 r.1 r.2) ∧ zm_wok r.1 ∧ zn_fr r.1 r.2) ∧ va_F A st t
def zn_Con (l : Launch) (y : MethodName) (bytes : ByteArray) (maxL : Nat) (rm : Room) (C : zn_C) : Prop :=
  ∀ (D : va_G) (cA : FieldType → ClassId) (h : Nat → Nat → Nat) (A : Nat → Prop) (wl : zm_L) (av : List Value) (M : zm_I) (r : zm_L × zm_I), C.1 wl av M = some r →
    Met l y (.code y bytes maxL none :: zm_tbl) rm (zn_Pc D cA h A wl av M) (zn_Q D cA h A wl.length r) C.2.1 C.2.2 A
def zn_callok (l : Launch) (R : Room) (own : String) (idx : Nat) (C : zn_C) : Prop :=
  ∃ (y : MethodName) (bytes : ByteArray) (maxL : Nat) (rm : Room), zn_Con l y bytes maxL rm C ∧ rm.cells = C.2.1 ∧ rm.slots = C.2.2 ∧ (rm.frames + 1 ≤ R.frames ∧ 8 + (maxL + 11) + rm.locals ≤ R.locals) ∧
    Jvm.Cond.code y bytes maxL none ∈ zm_tbl ∧ (Jvm.Cond.methodLink own idx y ∈ zm_tbl ∨ (own, idx, y) ∈ zn_nest) ∧ Jvm.Cond.initialized y.cls ∈ zm_tbl ∧ Jvm.Cond.instanceMethod y ∈ zm_tbl ∧ y.name = "<init>" ∧
    (y.cls ≠ "java/lang/invoke/MethodHandle" ∧ y.cls ≠ "java/lang/invoke/VarHandle" ∧ (parseMethodDescriptor y.desc).map (fun d => d.parameters.length) = some 0)
def zn_iok (R : Room) (own : String) (i : Instr) (a b : Nat) : Prop := match i with
  | .new idx => ∃ r, zm_cl[a]? = some r ∧ Jvm.Cond.classLink own idx r.1 ∈ zm_tbl ∧ Jvm.Cond.instantiable r.1 r.2.2 ∈ zm_tbl ∧ Jvm.Cond.initialized r.1 ∈ zm_tbl
  | .newarray t => Jvm.Cond.arrayClass (newarray.typeOf t) ∈ zm_tbl
  | .anewarray idx => ∃ r, zm_cl[a]? = some r ∧ Jvm.Cond.classLink own idx r.1 ∈ zm_tbl
  | .putfield idx => zm_fok own idx a b ∧ own = zn_nm a
  | .getfield idx => zm_fok own idx a b
  | .invokespecial idx => a = 0 → 1 ≤ R.frames ∧ 20 ≤ R.locals ∧ Jvm.Cond.methodLink own idx Lib.objectInit ∈ zm_tbl ∧ Jvm.Cond.instanceMethod Lib.objectInit ∈ zm_tbl ∧ Jvm.Cond.code Lib.objectInit ⟨#[0xb1]⟩ 1 none ∈ zm_tbl
  | _ => True
def zn_ok (l : Launch) (R : Room) (own : String) (cc : ByteArray) (T : zn_T) : Prop :=
  (∀ (pc : Nat) (x : Instr × Nat × Nat), zm_look T.1 pc = some x → zn_dec cc pc x.1 = true ∧ zn_iok R own x.1 x.2.1 x.2.2) ∧ (∀ (idx : Nat) (C : zn_C), zm_look T.2.1 idx = some C → zn_callok l R own idx C) ∧ T.2.2.1 ≤ R.cells ∧ T.2.2.2 ≤ R.slots
theorem zn_cA {D : va_G} {cA : FieldType → ClassId} {U : State} {cB : ClassId} {ty : FieldType} {k : Nat} (hk : (zm_tys cA)[k]? = some (cA ty, ty)) (hp : zn_isR ty = false ∨ ∃ C, ty = .object C) (hK : va_K D zm_cl (zm_tys cA ++ [(cB, ty)]) U) : cB = cA ty := by
  have hlen : (zm_tys cA).length = 7 := rfl
  have hlt : k < 7 := by rw [← hlen]; exact (List.getElem?_eq_some_iff.mp hk).1
  have h1 := (hK.2 k (cA ty, ty) (by rw [List.getElem?_append_left (by rw [hlen]; exact hlt)]; exact hk)).2
  have h2 := (hK.2 7 (cB, ty) (by rw [List.getElem?_append_right (by rw [hlen]; exact Nat.le_refl _), hlen]; rfl)).2
  rcases hp with hp | ⟨C, rfl⟩
  · cases ty <;> first | (cases hp; done) | (unfold va_RA at h1 h2; exact Option.some.inj (h2.symm.trans h1))
  · obtain ⟨_, _, -, -, -, g1⟩ := h1
    obtain ⟨_, _, -, -, -, g2⟩ := h2
    exact Option.some.inj (g2.symm.trans g1)
variable {Q : State → Prop} {D : va_G} {cA : FieldType → ClassId} {h : Nat → Nat → Nat} {g : Nat → Nat} {A : Nat → Prop} {nL : Nat} {own : String} {cc : ByteArray} {T0 : zm_T} {T : zn_T} {S S1 : zn_S}
/-- what holds inside a body that makes cells -/
def zn_B (p : Program) (s : State) (m : MethodId) (args : Array Value) (meth : Method) (c : Code) (own : String) (cc : ByteArray) (nL : Nat) (T0 : zm_T) (D : va_G) (cA : FieldType → ClassId) (g : Nat → Nat) (A : Nat → Prop) (R : Room) : Prop :=
  (∀ (h : Nat → Nat → Nat) (c0 s0 : Nat), (∀ n, h 1 n = g n) → c0 ≤ R.cells → s0 ≤ R.slots → zm_B p s m args meth c own cc nL T0 D cA h A R c0 s0) ∧ (∀ q, s.heap.size ≤ q → A q) ∧ zn_AO s
theorem zn_wok_push {wl : zm_L} {d : zm_D × List Value} (h : zm_wok wl) (hd : ∀ C len rs, d = (Sum.inr (FieldType.object C, len), rs) → C = RX0 ∨ C = RX2 ∨ C = RX7) : zm_wok (wl ++ [d]) := by
  intro n C len rs hn
  by_cases hl : n < wl.length
  · rw [List.getElem?_append_left hl] at hn
    exact h n C len rs hn
  · rw [List.getElem?_append_right (by omega)] at hn
    have hz : n - wl.length < 1 := (List.getElem?_eq_some_iff.mp hn).1
    rw [show n - wl.length = 0 by omega] at hn
    exact hd C len rs (Option.some.inj hn)
theorem zn_wok_set {wl : zm_L} {n : Nat} {d d' : zm_D × List Value} (h : zm_wok wl) (hd : wl[n]? = some d) (he : d'.1 = d.1) : zm_wok (wl.set n d') := by
  intro k C len rs hk
  rw [List.getElem?_set] at hk
  by_cases hkn : n = k
  · subst hkn
    rw [if_pos rfl, if_pos (List.getElem?_eq_some_iff.mp hd).1] at hk
    have := Option.some.inj hk
    obtain ⟨d1, d2⟩ := d
    rw [this] at he
    exact h n C len d2 (by rw [hd]; simp only at he; rw [he])
  · rw [if_neg hkn] at hk
    exact h k C len rs hk
/-- behind a making: the world with the new cell -/
theorem zn_made {wl : zm_L} {M : zm_I} {d : zm_D × List Value} {q : Nat} (hc : wl.all (fun d => d.2.all (zn_clV wl.length)) = true) (hd : d.2.all (zn_clV wl.length) = true) : zm_ws cA (zn_up h wl.length q) (wl ++ [d]) M = zm_ws cA h wl M ++ [(q, zm_e cA h M wl.length d)] := by
  rw [zn_ws_push, zn_up_at, zn_ws_ext (zn_up_ext h _ q) hc, zn_e (zn_up_ext h _ q) hd]
theorem zn_cl_o {ls : List (Option Value)} {st : List Value} {wl : zm_L} (hc : zn_cl ls st wl = true) : ls.all (zn_clO wl.length) = true ∧ st.all (zn_clV wl.length) = true ∧ wl.all (fun d => d.2.all (zn_clV wl.length)) = true := by
  simp only [zn_cl, Bool.and_eq_true] at hc
  exact ⟨hc.1.1, hc.1.2, hc.2⟩
theorem zn_rep (N k : Nat) : (List.replicate k Value.null).all (zn_clV N) = true := by
  apply List.all_eq_true.mpr
  intro v hv
  rw [(List.mem_replicate.mp hv).2]
  rfl
theorem zn_repD (k f : Nat) : (List.replicate k Value.null).getD f .null = .null := by
  rw [List.getD_eq_getElem?_getD, List.getElem?_replicate]
  split <;> rfl
theorem zn_s_new (B : zn_B p s m args meth c own cc nL T0 D cA g A R) (hok : zn_ok l R own cc T) (hg : ∀ n, h 1 n = g n) {idx a b : Nat} (hlk : zm_look T.1 S.1.1 = some (.new idx, a, b)) (hcl : zn_cl S.1.2.1 S.1.2.2.1 S.2.1 = true) (hc1 : S.2.2.1 + 1 ≤ T.2.2.1) (hs1 : S.2.2.2 + zm_nf a ≤ T.2.2.2) (hof : zn_okf a = true)
    (hk : ∀ h1, zn_ext S.2.1.length h h1 → zn_G p l e R s m args below meth c Q D cA A nL h1 ((S.1.1 + 3, S.1.2.1, .ref S.2.1.length :: S.1.2.2.1, S.1.2.2.2), S.2.1 ++ [(.inl a, List.replicate (zm_nf a) .null)], S.2.2.1 + 1, S.2.2.2 + zm_nf a)) : zn_G p l e R s m args below meth c Q D cA A nL h S := by
  obtain ⟨hdec, hio⟩ := hok.1 _ _ hlk
  obtain ⟨⟨C, TT, N⟩, hcla, hlink, hinst, hini⟩ := hio
  obtain ⟨hx, hb, hml, hown, hts, hK, hr, hlk2, hZ, hcs, hsc⟩ := B.1 h 0 0 hg (Nat.zero_le _) (Nat.zero_le _)
  obtain ⟨hin, hty, hnm, hN⟩ := zm_cwok_ok _ _ hcla
  dsimp only at hlink hinst hini hin hty hnm hN
  obtain ⟨cl1, cl2, cl3⟩ := zn_cl_o hcl
  intro hD hfr hwk H locs la hl hP hS
  obtain ⟨f1, f2⟩ := hfr S.2.1.length (Nat.le_refl _)
  refine va_new (D := D) (ci := a) (C := C) (T := TT) (N := N) (fs := (List.range (zm_nf a)).map (fun f => zm_cv h (zm_vA S.1.2.2.2 S.2.1.length (List.replicate (zm_nf a) .null) (zm_ty a f) f))) hx hb hts hin (zm_ty a) hty hown (hts _ hlink) (hts _ hinst) (hts _ hini) hK hP hD hS B.2.1 hcla (fun j hj => ?_) (Nat.le_trans hc1 hok.2.2.1) (by rw [hN]; exact Nat.le_trans hs1 hok.2.2.2) (zn_dec_o hdec) (fun q H1 hP1 hD1 hS1 => ?_)
  · rw [hN] at hj
    have hofj := List.all_eq_true.mp hof j (List.mem_range.mpr hj)
    unfold vp_V
    rw [List.getD_eq_getElem?_getD, List.getElem?_map, List.getElem?_range hj]
    simp only [Option.map_some, Option.getD_some]
    cases ht : zm_ty a j <;> rw [ht] at hofj <;> first | (cases hofj; done) | (simp only [zm_vA, zm_cv, defaultValue, f1, f2, zn_repD]; done) | (simp [zm_vA, zm_cv, defaultValue, f1, f2]; done)
  · have hx1 := zn_up_ext h S.2.1.length q
    have hw := zn_made (cA := cA) (h := h) (M := S.1.2.2.2) (d := (.inl a, List.replicate (zm_nf a) .null)) (q := q) cl3 (zn_rep _ _)
    have hG := hk _ hx1
    unfold zn_G at hG
    dsimp only at hG
    rw [hw] at hG
    have hG := hG hD1 (zn_fr_push hfr) (zn_wok_push hwk (fun C len rs h9 => by cases h9)) H1 locs la (zn_lok hx1 hl cl1)
    dsimp only at hG
    rw [hw] at hG
    have hG := hG hP1 hS1
    rw [List.map_cons, zn_st hx1 cl2] at hG
    rw [hN]
    simpa only [zm_cv, zn_up_at] using hG
theorem zn_ar_row {h : Nat → Nat → Nat} {M : zm_I} {n : Nat} {ty : FieldType} (hp : zn_prim ty = true) (f1 : ∀ b, M.1 n b = 0) (f2 : ∀ b, M.2 n b = 0) (len : Nat) (cB : ClassId) : vp_cell cB (len, zm_row h M n [] ty) = arrV cB len (fun _ => defaultValue ty) := by
  cases ty <;> first | (cases hp; done) | (simp only [zm_row]; (first | rw [vp_cell_i] | rw [vp_cell_l]); congr 1; funext j; simp [f1, f2, defaultValue])
theorem zn_tysP {ty : FieldType} (cA : FieldType → ClassId) (hp : zn_prim ty = true) : ∃ k : Nat, (zm_tys cA)[k]? = some (cA ty, ty) := by
  cases ty <;> first | (cases hp; done) | exact ⟨0, rfl⟩ | exact ⟨1, rfl⟩ | exact ⟨2, rfl⟩ | exact ⟨3, rfl⟩
theorem zn_primR {ty : FieldType} (hp : zn_prim ty = true) : zn_isR ty = false := by
  cases ty <;> first | rfl | cases hp
theorem zn_bytes {ty : FieldType} (hp : zn_prim ty = true) {n : Nat} (hn : n ≤ 100000) : n * componentBytes ty ≤ 536870912 := by
  have : componentBytes ty ≤ 8 := by cases ty <;> first | (cases hp; done) | decide
  calc n * componentBytes ty ≤ 100000 * 8 := Nat.mul_le_mul hn this
    _ ≤ 536870912 := by decide
theorem zn_s_newa (B : zn_B p s m args meth c own cc nL T0 D cA g A R) (hok : zn_ok l R own cc T) (hg : ∀ n, h 1 n = g n) {t : ArrayType} {a b : Nat} (hlk : zm_look T.1 S.1.1 = some (.newarray t, a, b)) {n : Int32} {r : List Value} (hst : S.1.2.2.1 = .int n :: r) (hn : ¬ n < 0) (hcl : zn_cl S.1.2.1 r S.2.1 = true) (hc1 : S.2.2.1 + 1 ≤ T.2.2.1) (hs1 : S.2.2.2 + n.toNatClampNeg ≤ T.2.2.2) (hp : zn_prim (newarray.typeOf t) = true) (hle : n.toNatClampNeg ≤ 100000)
    (hk : ∀ h1, zn_ext S.2.1.length h h1 → zn_G p l e R s m args below meth c Q D cA A nL h1 ((S.1.1 + 2, S.1.2.1, .ref S.2.1.length :: r, S.1.2.2.2), S.2.1 ++ [(.inr (newarray.typeOf t, n.toNatClampNeg), [])], S.2.2.1 + 1, S.2.2.2 + n.toNatClampNeg)) : zn_G p l e R s m args below meth c Q D cA A nL h S := by
  obtain ⟨hdec, hio⟩ := hok.1 _ _ hlk
  have hio : Jvm.Cond.arrayClass (newarray.typeOf t) ∈ zm_tbl := hio
  obtain ⟨hx, hb, hml, hown, hts, hK, hr, hlk2, hZ, hcs, hsc⟩ := B.1 h 0 0 hg (Nat.zero_le _) (Nat.zero_le _)
  obtain ⟨cl1, cl2, cl3⟩ := zn_cl_o hcl
  intro hD hfr hwk H locs la hl hP hS
  obtain ⟨f1, f2⟩ := hfr S.2.1.length (Nat.le_refl _)
  rw [hst, List.map_cons]
  refine va_newa (D := D) (atype := t) (ty := newarray.typeOf t) (a0 := (n.toNatClampNeg, zm_row h S.1.2.2.2 S.2.1.length [] (newarray.typeOf t))) hx hb (hts _ hio) rfl hK hP hD hS B.2.1 (fun cB => zn_ar_row hp f1 f2 _ cB) hn rfl (zn_bytes hp hle) (Nat.le_trans hc1 hok.2.2.1) (Nat.le_trans hs1 hok.2.2.2) (zn_dec_o hdec) (fun q cB H1 hK1 hP1 hD1 hS1 => ?_)
  obtain ⟨k, hkk⟩ := zn_tysP cA hp
  have hcB := zn_cA hkk (Or.inl (zn_primR hp)) hK1
  subst hcB
  have hx1 := zn_up_ext h S.2.1.length q
  have hw := zn_made (cA := cA) (h := h) (M := S.1.2.2.2) (d := (.inr (newarray.typeOf t, n.toNatClampNeg), [])) (q := q) cl3 rfl
  have hG := hk _ hx1
  unfold zn_G at hG
  dsimp only at hG
  rw [hw] at hG
  have hG := hG hD1 (zn_fr_push hfr) (zn_wok_push hwk (fun C len rs h9 => by
    have h8 := (Prod.mk.inj (Sum.inr.inj (Prod.mk.inj h9).1)).1
    rw [h8] at hp; cases hp)) H1 locs la (zn_lok hx1 hl cl1)
  dsimp only at hG
  rw [hw] at hG
  have hG := hG hP1 hS1
  rw [List.map_cons, zn_st hx1 cl2] at hG
  simpa only [zm_cv, zn_up_at] using hG
theorem zn_isA_o {a : Nat} (ha : zn_isA a = true) : (zn_nm a = RX0 ∨ zn_nm a = RX2 ∨ zn_nm a = RX7) ∧ ∀ cA : FieldType → ClassId, ∃ k : Nat, (zm_tys cA)[k]? = some (cA (.object (zn_nm a)), .object (zn_nm a)) := by
  simp only [zn_isA, Bool.or_eq_true] at ha
  rcases ha with (ha | ha) | ha <;> have := Nat.eq_of_beq_eq_true ha <;> subst this
  · exact ⟨Or.inl rfl, fun cA => ⟨4, rfl⟩⟩
  · exact ⟨Or.inr (Or.inl rfl), fun cA => ⟨5, rfl⟩⟩
  · exact ⟨Or.inr (Or.inr rfl), fun cA => ⟨6, rfl⟩⟩
theorem zn_AO_o {U : State} (h : zn_AO U) {C : String} (hc : C = RX0 ∨ C = RX2 ∨ C = RX7) : va_AO C U := by
  rcases hc with rfl | rfl | rfl
  · exact h.1.1
  · exact h.1.2.1
  · exact h.1.2.2
theorem zn_s_newq (B : zn_B p s m args meth c own cc nL T0 D cA g A R) (hok : zn_ok l R own cc T) (hg : ∀ n, h 1 n = g n) {idx a b : Nat} (hlk : zm_look T.1 S.1.1 = some (.anewarray idx, a, b)) {n : Int32} {r : List Value} (hst : S.1.2.2.1 = .int n :: r) (hn : ¬ n < 0) (hcl : zn_cl S.1.2.1 r S.2.1 = true) (hc1 : S.2.2.1 + 1 ≤ T.2.2.1) (hs1 : S.2.2.2 + n.toNatClampNeg ≤ T.2.2.2) (ha : zn_isA a = true) (hle : n.toNatClampNeg ≤ 100000)
    (hk : ∀ h1, zn_ext S.2.1.length h h1 → zn_G p l e R s m args below meth c Q D cA A nL h1 ((S.1.1 + 3, S.1.2.1, .ref S.2.1.length :: r, S.1.2.2.2), S.2.1 ++ [(.inr (.object (zn_nm a), n.toNatClampNeg), List.replicate n.toNatClampNeg .null)], S.2.2.1 + 1, S.2.2.2 + n.toNatClampNeg)) : zn_G p l e R s m args below meth c Q D cA A nL h S := by
  obtain ⟨hdec, hio⟩ := hok.1 _ _ hlk
  obtain ⟨rc, hcla, hlink⟩ := hio
  have hnm : zn_nm a = rc.1 := by unfold zn_nm; dsimp only at hcla; rw [hcla]
  obtain ⟨hx, hb, hml, hown, hts, hK, hr, hlk2, hZ, hcs, hsc⟩ := B.1 h 0 0 hg (Nat.zero_le _) (Nat.zero_le _)
  obtain ⟨cl1, cl2, cl3⟩ := zn_cl_o hcl
  obtain ⟨hC, hty⟩ := zn_isA_o ha
  intro hD hfr hwk H locs la hl hP hS
  rw [hst, List.map_cons]
  refine va_newq (D := D) (C := zn_nm a) hx hb hown (by rw [hnm]; exact hts _ hlink) (zn_AO_o B.2.2 hC) hK hP hD hS B.2.1 hn rfl (by omega) (Nat.le_trans hc1 hok.2.2.1) (Nat.le_trans hs1 hok.2.2.2) (zn_dec_o hdec) (fun q cB H1 hK1 hP1 hD1 hS1 => ?_)
  obtain ⟨k, hkk⟩ := hty cA
  have hcB := zn_cA hkk (Or.inr ⟨_, rfl⟩) hK1
  subst hcB
  have hx1 := zn_up_ext h S.2.1.length q
  have hw := zn_made (cA := cA) (h := h) (M := S.1.2.2.2) (d := (.inr (.object (zn_nm a), n.toNatClampNeg), List.replicate n.toNatClampNeg .null)) (q := q) cl3 (zn_rep _ _)
  have he : zm_e cA h S.1.2.2.2 S.2.1.length (.inr (.object (zn_nm a), n.toNatClampNeg), List.replicate n.toNatClampNeg .null) = .inl (cA (.object (zn_nm a)), n.toNatClampNeg, .inr (.inr (.inr (.inr (fun _ => none))))) := by
    simp only [zm_e, zm_row, zn_repD, zm_rr]
  rw [he] at hw
  have hG := hk _ hx1
  unfold zn_G at hG
  dsimp only at hG
  rw [hw] at hG
  have hG := hG hD1 (zn_fr_push hfr) (zn_wok_push hwk (fun C len rs h9 => by
    have h8 := (Prod.mk.inj (Sum.inr.inj (Prod.mk.inj h9).1)).1
    cases h8
    exact hC)) H1 locs la (zn_lok hx1 hl cl1)
  dsimp only at hG
  rw [hw] at hG
  have hG := hG hP1 hS1
  rw [List.map_cons, zn_st hx1 cl2] at hG
  simpa only [zm_cv, zn_up_at] using hG
theorem zn_fsetR {h : Nat → Nat → Nat} {M : zm_I} {n ci f : Nat} {rs : List Value} {v : Value} (hf : f < zm_nf ci) (hr : zn_isR (zm_ty ci f) = true) (hl : f < rs.length) :
    (List.range (zm_nf ci)).map (fun g => zm_cv h (zm_vA M n (rs.set f v) (zm_ty ci g) g)) = ((List.range (zm_nf ci)).map (fun g => zm_cv h (zm_vA M n rs (zm_ty ci g) g))).set f (zm_cv h v) := by
  apply List.ext_getElem?
  intro k
  rw [List.getElem?_set, List.getElem?_map, List.getElem?_map]
  by_cases hk : f = k
  · subst hk
    have e1 : (rs.set f v).getD f .null = v := by rw [List.getD_eq_getElem?_getD, List.getElem?_set_self hl]; rfl
    have e2 : zm_vA M n (rs.set f v) (zm_ty ci f) f = v := by
      cases ht : zm_ty ci f <;> rw [ht] at hr <;> first | (cases hr; done) | exact e1
    simp [hf, e2]
  · rw [if_neg hk]
    have e1 : (rs.set f v).getD k .null = rs.getD k .null := by rw [List.getD_eq_getElem?_getD, List.getElem?_set_ne hk, ← List.getD_eq_getElem?_getD]
    have e2 : zm_vA M n (rs.set f v) (zm_ty ci k) k = zm_vA M n rs (zm_ty ci k) k := by
      cases ht : zm_ty ci k <;> simp only [zm_vA] <;> first | rfl | exact e1
    by_cases hk2 : k < zm_nf ci
    · simp [hk2, e2]
    · simp [hk2]
theorem zn_pr_ok (B : zn_B p s m args meth c own cc nL T0 D cA g A R) (hin2 : meth.name = "<init>") (hok : zn_ok l R own cc T) (hg : ∀ n, h 1 n = g n) {idx a b : Nat} (hlk : zm_look T.1 S.1.1 = some (.putfield idx, a, b)) {q : zm_S × zm_L} (hh : zn_pr S.2.1 a b S.1.1 S.1.2.1 S.1.2.2.1 S.1.2.2.2 = some q)
    (hk : ∀ h1, zn_ext S.2.1.length h h1 → zn_G p l e R s m args below meth c Q D cA A nL h1 (q.1, q.2, S.2.2)) : zn_G p l e R s m args below meth c Q D cA A nL h S := by
  obtain ⟨hdec, hio⟩ := hok.1 _ _ hlk
  obtain ⟨⟨⟨C, TT, N⟩, hcl, hbN, hdecl, hlink⟩, hownn⟩ := hio
  obtain ⟨hx, hb, hml, hown, hts, hK, hr, hlk2, hZ, hcs, hsc⟩ := B.1 h 0 0 hg (Nat.zero_le _) (Nat.zero_le _)
  obtain ⟨hin, hty, hnm, hN⟩ := zm_cwok_ok _ _ hcl
  have hown2 : own = C := by dsimp only at hcl; rw [hownn]; unfold zn_nm; rw [hcl]
  dsimp only at hbN hdecl hlink hin hty hnm hN
  unfold zn_pr at hh
  split at hh
  · next v n r hst =>
    split at hh
    · next cx rs hw =>
      split at hh
      · next hcond =>
        simp only [Bool.and_eq_true] at hcond
        obtain ⟨⟨⟨hc, hfin⟩, hisr⟩, hble⟩ := hcond
        have hc := Nat.eq_of_beq_eq_true hc
        subst hc
        cases hh
        intro hD hfr hwk H locs la hl hP hS
        rw [hst, List.map_cons, List.map_cons]
        have hws := zm_ws_at (cA := cA) (h := h) (M := S.1.2.2.2) hw
        have hfin2 : (TT b).2.2.2 = true := by
          unfold zm_fin at hfin; rw [hcl] at hfin; exact hfin
        refine va_putF (D := D) (ci := cx) (v := .ref (h 0 v)) (C := C) (T := TT) (N := N) (ty := zm_ty cx b) hx hb hts hin (zm_ty cx) hty hnm hown hK hP hD hS n hws hcl b hbN (hts _ hlink) (fun x hx9 => by rw [← hdecl]; exact hx9) hfin2 hin2 (by rw [hdecl, hown2]) (hty b hbN) (by cases ht : zm_ty cx b <;> rw [ht] at hisr <;> first | (cases hisr; done) | rfl) (by cases ht : zm_ty cx b <;> rw [ht] at hisr <;> first | (cases hisr; done) | rfl) (by simp; rw [← hN]; exact hbN) (zn_dec_o hdec) (fun H1 locs1 hP1 hD1 hS1 => ?_)
        have he : zm_e cA h S.1.2.2.2 n (.inl cx, rs.set b (.ref v)) = .inr (cx, ((List.range (zm_nf cx)).map (fun f => zm_cv h (zm_vA S.1.2.2.2 n rs (zm_ty cx f) f))).set b (.ref (h 0 v))) := by
          simp only [zm_e]
          rw [zn_fsetR (by rw [← hN]; exact hbN) hisr (Nat.le_of_ble_eq_true hble)]
          rfl
        have hw2 := zn_ws_setd (cA := cA) (h := h) (M := S.1.2.2.2) (d' := (.inl cx, rs.set b (.ref v))) hw
        rw [he] at hw2
        have hG := hk h (zn_ext_rf _ _)
        unfold zn_G at hG
        dsimp only at hG
        rw [hw2] at hG
        have hG := hG hD1 (zn_fr_set hfr) (zn_wok_set hwk hw rfl) H1 locs1 la hl
        dsimp only at hG
        rw [hw2] at hG
        exact hG hP1 hS1
      · cases hh
    · cases hh
  · cases hh
theorem zn_as_ok (B : zn_B p s m args meth c own cc nL T0 D cA g A R) (hok : zn_ok l R own cc T) (hg : ∀ n, h 1 n = g n) {a b : Nat} (hlk : zm_look T.1 S.1.1 = some (.aastore, a, b)) {q : zm_S × zm_L} (hh : zn_as S.2.1 S.1.1 S.1.2.1 S.1.2.2.1 S.1.2.2.2 = some q)
    (hk : ∀ h1, zn_ext S.2.1.length h h1 → zn_G p l e R s m args below meth c Q D cA A nL h1 (q.1, q.2, S.2.2)) : zn_G p l e R s m args below meth c Q D cA A nL h S := by
  obtain ⟨hdec, hio⟩ := hok.1 _ _ hlk
  obtain ⟨hx, hb, hml, hown, hts, hK, hr, hlk2, hZ, hcs, hsc⟩ := B.1 h 0 0 hg (Nat.zero_le _) (Nat.zero_le _)
  unfold zn_as at hh
  split at hh
  · next v i n r hst =>
    split at hh
    · next C len rs hw =>
      split at hh
      · next ci vs hwv =>
        split at hh
        · cases hh
        · next hi =>
          split at hh
          · next hcond =>
            simp only [Bool.and_eq_true, decide_eq_true_eq] at hcond
            obtain ⟨⟨hnm, hci⟩, hble⟩ := hcond
            have hci := Nat.le_of_ble_eq_true hci
            have hlt : i.toNatClampNeg < rs.length := Nat.le_of_ble_eq_true hble
            cases hh
            have hrc : ∃ rc, zm_cl[ci]? = some rc ∧ rc.1 = C := by
              have hlen : zm_cl.length = 11 := rfl
              refine ⟨zm_cl[ci], List.getElem?_eq_getElem (by rw [hlen]; omega), ?_⟩
              rw [← hnm]; unfold zn_nm; rw [List.getElem?_eq_getElem (by rw [hlen]; omega)]
            obtain ⟨rc, hrc, hrC⟩ := hrc
            intro hD hfr hwk H locs la hl hP hS
            have hC := hwk n C len rs hw
            have htk : ∃ k : Nat, (zm_tys cA)[k]? = some (cA (.object rc.1), .object rc.1) := by
              rw [hrC]
              rcases hC with rfl | rfl | rfl
              · exact ⟨4, rfl⟩
              · exact ⟨5, rfl⟩
              · exact ⟨6, rfl⟩
            obtain ⟨t0, ht0⟩ := htk
            subst hrC
            rw [hst, List.map_cons, List.map_cons, List.map_cons]
            have hws := zm_ws_at (cA := cA) (h := h) (M := S.1.2.2.2) hw
            have hwsv := zm_ws_at (cA := cA) (h := h) (M := S.1.2.2.2) hwv
            refine va_astq (D := D) (r := rc) (n := len) (v := h 0 v) (f := fun i => zm_rr h (rs.getD i .null)) hx hb hK hP hD hS n t0 v ci hws ht0 hwsv hrc (show vp_in i len from hi) (zn_dec_o hdec) (fun H1 locs1 hP1 hD1 hS1 => ?_)
            have he : zm_e cA h S.1.2.2.2 n (.inr (.object rc.1, len), rs.set i.toNatClampNeg (.ref v)) = .inl (cA (.object rc.1), len, .inr (.inr (.inr (.inr (va_up (fun i => zm_rr h (rs.getD i .null)) i.toNatClampNeg (some (h 0 v))))))) := by
              simp only [zm_e, zm_row]
              congr 7
              funext j
              by_cases hj : j = i.toNatClampNeg
              · subst hj
                rw [va_up_self, List.getD_eq_getElem?_getD, List.getElem?_set_self hlt]
                rfl
              · rw [va_up_ne _ _ hj, List.getD_eq_getElem?_getD, List.getElem?_set_ne (Ne.symm hj), ← List.getD_eq_getElem?_getD]
            have hw2 := zn_ws_setd (cA := cA) (h := h) (M := S.1.2.2.2) (d' := (.inr (.object rc.1, len), rs.set i.toNatClampNeg (.ref v))) hw
            rw [he] at hw2
            have hG := hk h (zn_ext_rf _ _)
            unfold zn_G at hG
            dsimp only at hG
            rw [hw2] at hG
            have hG := hG hD1 (zn_fr_set hfr) (zn_wok_set hwk hw rfl) H1 locs1 la hl
            dsimp only at hG
            rw [hw2] at hG
            exact hG hP1 hS1
          · cases hh
      · cases hh
    · cases hh
  · cases hh
end ZNS
end
section
/-! CONSTRUCTORS: calls, runs, contracts -/
section ZNR
variable {p : Program} {l : Launch} {e : Env} {R : Room} {s : State} {m : MethodId} {args : Array Value} {below : List Frame} {meth : Method} {c : Code}
variable {Q : State → Prop} {D : va_G} {cA : FieldType → ClassId} {h : Nat → Nat → Nat} {g : Nat → Nat} {A : Nat → Prop} {nL : Nat} {own : String} {cc : ByteArray} {T0 : zm_T} {T : zn_T} {S S1 : zn_S}
theorem zn_oi_ok (B : zn_B p s m args meth c own cc nL T0 D cA g A R) (hok : zn_ok l R own cc T) (hg : ∀ n, h 1 n = g n) {idx b : Nat} (hlk : zm_look T.1 S.1.1 = some (.invokespecial idx, 0, b)) {n : Nat} {r : List Value} (hst : S.1.2.2.1 = .ref n :: r) (hsum : (r.map fun v => v.category).sum ≤ 8)
    (hk : zn_G p l e R s m args below meth c Q D cA A nL h ((S.1.1 + 3, S.1.2.1, r, S.1.2.2.2), S.2)) : zn_G p l e R s m args below meth c Q D cA A nL h S := by
  obtain ⟨hdec, hio⟩ := hok.1 _ _ hlk
  obtain ⟨hR1, hR2, hlink, hinst, hcode⟩ := hio rfl
  obtain ⟨hx, hb, hml, hown, hts, hK, hr, hlk2, hZ, hcs, hsc⟩ := B.1 h 0 0 hg (Nat.zero_le _) (Nat.zero_le _)
  intro hD hfr hwk H locs la hl hP hS
  rw [hst, List.map_cons]
  refine W.objInit hx hb hown (hts _ hlink) (hts _ hinst) (hts _ hcode) rfl (by rw [hml]; exact hl.2.1) rfl (zn_dec_o hdec) hR1 (Nat.le_trans (Nat.add_le_add_right (lv_room (by rw [zm_cat_map]; exact hsum)) 12) hR2) ?_
  exact hk hD hfr hwk H locs la hl hP hS
theorem zn_blind {wl : zm_L} {av : List Value} {M : zm_I} : FrameBlind (zn_Pc D cA h A wl av M) := by
  intro a U gf mk q
  obtain ⟨q0, qP, qK, qD, qA, qw, qf, ⟨⟨adV, qz, qz3, qz4⟩, qr⟩, qo⟩ := q
  exact ⟨q0, qP, va_K.moved (u := U) (U := U.calling gf mk a) (Vm.Alike.refl U.vm) qK, qD, qA, qw, qf, ⟨⟨adV, vk_S.moved (u := U) (U := U.calling gf mk a) (Vm.Alike.refl U.vm) qz, va_Z.moved (u := U) (U := U.calling gf mk a) (Vm.Alike.refl U.vm) qz3, va_Zq.moved (u := U) (U := U.calling gf mk a) (Vm.Alike.refl U.vm) qz4⟩, fun i x hx => (qr i x hx).same (U := U.calling gf mk a) rfl⟩, zn_AO_same (u := U) (U := U.calling gf mk a) rfl qo⟩
theorem zn_ct_ok (B : zn_B p s m args meth c own cc nL T0 D cA g A R) (hok : zn_ok l R own cc T) (hg : ∀ n, h 1 n = g n) {idx a b : Nat} (hlk : zm_look T.1 S.1.1 = some (.invokespecial idx, a, b)) (hh : zn_ct T S idx = some S1)
    (hk : ∀ h1, zn_ext S.2.1.length h h1 → zn_G p l e R s m args below meth c Q D cA A nL h1 S1) : zn_G p l e R s m args below meth c Q D cA A nL h S := by
  obtain ⟨hdec, -⟩ := hok.1 _ _ hlk
  unfold zn_ct at hh
  split at hh
  · next n r hst =>
    split at hh
    · next C hC =>
      split at hh
      · next hcond =>
        simp only [Bool.and_eq_true] at hcond
        obtain ⟨⟨⟨hsum, hcl⟩, hc1⟩, hs1⟩ := hcond
        have hsum := Nat.le_of_ble_eq_true hsum
        have hc1 := Nat.le_of_ble_eq_true hc1
        have hs1 := Nat.le_of_ble_eq_true hs1
        split at hh
        · next q hq =>
          split at hh
          · next hle =>
            cases hh
            obtain ⟨hx, hb, hml, hown, hts, hK, hr, hlk2, hZ, hcs, hsc⟩ := B.1 h 0 0 hg (Nat.zero_le _) (Nat.zero_le _)
            obtain ⟨cl1, cl2, cl3⟩ := zn_cl_o hcl
            obtain ⟨y, bytes, maxL, rm, hcon, hrc, hrs, hRR, hcode, hlink, hini, hinst, hy1, hyd⟩ := hok.2.1 _ _ hC
            intro hD hfr hwk H locs la hl hP hS
            have hM := hcon D cA h A S.2.1 [.ref n] S.1.2.2.2 q hq
            have hG : GoodIn zm_tbl (Jvm.Cond.code y bytes maxL none :: zm_tbl) := by
              intro w hw
              rcases List.mem_cons.mp hw with rfl | hw
              · exact zm_good _ hcode
              · exact zm_good _ hw
            rw [hst, List.map_cons]
            have hpre : PreS s H (zn_Pc D cA h A S.2.1 [.ref n] S.1.2.2.2) [.ref (h 0 n)] := ⟨zn_blind, fun U hU hW => ⟨rfl, by rw [hU]; exact hP, va_K.moved hW.alike hK, hD, fun q9 h9 => B.2.1 q9 (Nat.le_trans hS.1 (by rw [hU] at h9; exact h9)), hwk, hfr, by rw [hU]; exact zm_Z_go hZ hS hW (fun _ z => z), zn_AO_warm hW B.2.2⟩⟩
            have hrun : va_Run p l e R s m args below meth c H locs S.2.2.1 S.2.2.2 C.2.1 C.2.2 (F0 m S.1.1 la (.ref (h 0 n) :: r.map (zm_cv h))) (r.map (zm_cv h)) (zn_Q D cA h A S.2.1.length q [Value.ref (h 0 n)].toArray) A := by
              rcases hlink with hlink | hlink
              · exact va_runI (b := h 0 n) (As := []) ⟨hx, hb, hml, hown, hts⟩ hM (cwI 0 hts hG rfl hrc hrs (hts _ hini) (hts _ hlink) (hts _ hinst) hy1 hyd hRR) hpre rfl rfl hl.2.1 rfl (lv_room (by rw [zm_cat_map]; exact hsum)) (zn_dec_o hdec) ⟨Nat.le_trans hc1 hok.2.2.1, Nat.le_trans hs1 hok.2.2.2⟩
              · exact va_runIN (b := h 0 n) (As := []) ⟨hx, hb, hml, hown, hts⟩ hM ⟨va_cnB 0 hts hG rfl hrc hrs (B.2.2.2 _ hlink) (hts _ hini) hyd hRR, hy1, hts _ hinst⟩ hpre rfl rfl hl.2.1 rfl (lv_room (by rw [zm_cat_map]; exact hsum)) (zn_dec_o hdec) ⟨Nat.le_trans hc1 hok.2.2.1, Nat.le_trans hs1 hok.2.2.2⟩
            intro Tn hT X
            obtain ⟨v, st₀, t, T', L, h0, X', hL, e1, e2, ⟨hv, ⟨h1, hx1, hP1, hD1, hwk1, hfr1⟩, hz, hkk⟩, stp⟩ := hrun Tn hT X
            cases hv
            rw [h0] at hz hkk
            have hW := hk h1 hx1 hD1 hfr1 hwk1 T'.heap (locs ++ L) la (zn_lok hx1 hl cl1) (by rw [e1]; exact hP1)
              ⟨Nat.le_trans hS.1 (by rw [e1]; exact hz), fun q9 g1 g2 => by rw [e1, hkk q9 (Nat.lt_of_lt_of_le g1 hS.1) g2]; exact hS.2.1 q9 g1 g2, fun q9 hq9 => by
                rcases List.mem_append.mp hq9 with h9 | h9
                · exact hS.2.2 q9 h9
                · exact hL q9 h9⟩
            dsimp only at hW
            rw [zn_st hx1 cl2] at hW
            obtain ⟨t2, a1, b1⟩ := hW T' rfl X'
            exact ⟨t2, stp t2 a1, b1⟩
          · cases hh
        · cases hh
      · cases hh
    · cases hh
  · cases hh
theorem zn_ord_ok (B : zn_B p s m args meth c own cc nL T0 D cA g A R) (hT0 : T0.2.1 = [] ∧ T0.2.2.1 = []) (hok : zn_ok l R own cc T) (hg : ∀ n, h 1 n = g n) (hc0 : S.2.2.1 ≤ T.2.2.1) (hs0 : S.2.2.2 ≤ T.2.2.2) {i : Instr} {a b : Nat} (hlk : zm_look T.1 S.1.1 = some (i, a, b)) {q : zm_S} (hh : zn_next S.2.1 i a b S.1.1 S.1.2.1 S.1.2.2.1 S.1.2.2.2 = some q)
    (hk : zn_G p l e R s m args below meth c Q D cA A nL h (q, S.2)) : zn_G p l e R s m args below meth c Q D cA A nL h S := by
  obtain ⟨hdec, hio⟩ := hok.1 _ _ hlk
  obtain ⟨h1, h2, h3, h4⟩ := zn_next_ok T0 hh
  intro hD hfr hwk
  have hB := B.1 h S.2.2.1 S.2.2.2 hg (Nat.le_trans hc0 hok.2.2.1) (Nat.le_trans hs0 hok.2.2.2)
  have hio2 : zm_iok R own i a b := by
    cases i <;> first | exact trivial | exact hio | exact hio.1 | (simp [zn_next] at hh; done)
  have hend : ∀ S', zn_k q S' = some (none, q.2.2.2) → zm_G p l e R s m args below meth c Q D cA h S.2.1 A nL S.2.2.1 S.2.2.2 S' := fun S' hS' => by
    have := zn_k_inv hS'
    subst this
    exact hk (zm_D_any hD) (h3 hfr) hwk
  exact zn_i zm_cwok_ok zm_mathok_ok hB (fun idx v hv => by rw [hT0.1] at hv; cases hv) (fun idx C hC => by rw [hT0.2] at hC; cases hC) hD B.2.1 hwk (zn_dec_zm hdec h2) hio2 h1 h4 hend (fun ls' st' M' h' => hend _ h')
/-- one step -/
theorem zn_step_ok (B : zn_B p s m args meth c own cc nL T0 D cA g A R) (hin2 : meth.name = "<init>" ∨ ∀ pc idx a b, zm_look T.1 pc ≠ some (.putfield idx, a, b)) (hT0 : T0.2.1 = [] ∧ T0.2.2.1 = []) (hok : zn_ok l R own cc T) (hg : ∀ n, h 1 n = g n) (hc0 : S.2.2.1 ≤ T.2.2.1) (hs0 : S.2.2.2 ≤ T.2.2.2) (hh : zn_step T S = some S1) :
    (S.2.1.length ≤ S1.2.1.length ∧ S1.2.2.1 ≤ T.2.2.1 ∧ S1.2.2.2 ≤ T.2.2.2) ∧ ((∀ h1, zn_ext S.2.1.length h h1 → zn_G p l e R s m args below meth c Q D cA A nL h1 S1) → zn_G p l e R s m args below meth c Q D cA A nL h S) := by
  unfold zn_step at hh
  split at hh
  · cases hh
  · next i a b hlk =>
    have ord : ∀ {S1 : zn_S}, (match zn_next S.2.1 i a b S.1.1 S.1.2.1 S.1.2.2.1 S.1.2.2.2 with
      | some q => some (q, S.2)
      | none => none) = some S1 → (S.2.1.length ≤ S1.2.1.length ∧ S1.2.2.1 ≤ T.2.2.1 ∧ S1.2.2.2 ≤ T.2.2.2) ∧ ((∀ h1, zn_ext S.2.1.length h h1 → zn_G p l e R s m args below meth c Q D cA A nL h1 S1) → zn_G p l e R s m args below meth c Q D cA A nL h S) := by
      intro S1 hh
      split at hh
      · next q hq => cases hh; exact ⟨⟨Nat.le_refl _, hc0, hs0⟩, fun hk => zn_ord_ok B hT0 hok hg hc0 hs0 hlk hq (hk h (zn_ext_rf _ _))⟩
      · cases hh
    cases i
    case new idx =>
      simp only at hh
      split at hh
      · next hcond =>
        simp only [Bool.and_eq_true] at hcond
        obtain ⟨⟨⟨hcl, hc1⟩, hs1⟩, hof⟩ := hcond
        cases hh
        exact ⟨⟨by simp, Nat.le_of_ble_eq_true hc1, Nat.le_of_ble_eq_true hs1⟩, fun hk => zn_s_new B hok hg hlk hcl (Nat.le_of_ble_eq_true hc1) (Nat.le_of_ble_eq_true hs1) hof hk⟩
      · cases hh
    case newarray t =>
      simp only at hh
      split at hh
      · next n r hst =>
        split at hh
        · cases hh
        · next hn =>
          split at hh
          · next hcond =>
            simp only [Bool.and_eq_true] at hcond
            obtain ⟨⟨⟨⟨hcl, hc1⟩, hs1⟩, hp⟩, hle⟩ := hcond
            cases hh
            exact ⟨⟨by simp, Nat.le_of_ble_eq_true hc1, Nat.le_of_ble_eq_true hs1⟩, fun hk => zn_s_newa B hok hg hlk hst hn hcl (Nat.le_of_ble_eq_true hc1) (Nat.le_of_ble_eq_true hs1) hp (Nat.le_of_ble_eq_true hle) hk⟩
          · cases hh
      · cases hh
    case anewarray idx =>
      simp only at hh
      split at hh
      · next n r hst =>
        split at hh
        · cases hh
        · next hn =>
          split at hh
          · next hcond =>
            simp only [Bool.and_eq_true] at hcond
            obtain ⟨⟨⟨⟨hcl, hc1⟩, hs1⟩, hp⟩, hle⟩ := hcond
            cases hh
            exact ⟨⟨by simp, Nat.le_of_ble_eq_true hc1, Nat.le_of_ble_eq_true hs1⟩, fun hk => zn_s_newq B hok hg hlk hst hn hcl (Nat.le_of_ble_eq_true hc1) (Nat.le_of_ble_eq_true hs1) hp (Nat.le_of_ble_eq_true hle) hk⟩
          · cases hh
      · cases hh
    case aastore =>
      simp only at hh
      split at hh
      · next q hq =>
        cases hh
        refine ⟨⟨?_, hc0, hs0⟩, fun hk => zn_as_ok B hok hg hlk hq hk⟩
        unfold zn_as at hq
        repeat' split at hq
        all_goals first | (cases hq; done) | (cases hq; simp)
      · cases hh
    case invokespecial idx =>
      match a, hlk, hh with
      | 0, hlk, hh =>
        simp only at hh
        split at hh
        · next n r hst =>
          split at hh
          · next hsum =>
            cases hh
            exact ⟨⟨Nat.le_refl _, hc0, hs0⟩, fun hk => zn_oi_ok B hok hg hlk hst (Nat.le_of_ble_eq_true hsum) (hk h (zn_ext_rf _ _))⟩
          · cases hh
        · cases hh
      | a + 1, hlk, hh =>
        simp only at hh
        refine ⟨?_, fun hk => zn_ct_ok B hok hg hlk hh hk⟩
        unfold zn_ct at hh
        split at hh
        · split at hh
          · split at hh
            · next hcond =>
              simp only [Bool.and_eq_true] at hcond
              split at hh
              · split at hh
                · next hle => cases hh; exact ⟨Nat.le_of_ble_eq_true hle, Nat.le_of_ble_eq_true hcond.1.2, Nat.le_of_ble_eq_true hcond.2⟩
                · cases hh
              · cases hh
            · cases hh
          · cases hh
        · cases hh
    case putfield idx =>
      simp only at hh
      split at hh
      · next q hq =>
        cases hh
        rcases hin2 with hin2 | hin2
        · refine ⟨⟨?_, hc0, hs0⟩, fun hk => zn_pr_ok B hin2 hok hg hlk hq hk⟩
          unfold zn_pr at hq
          repeat' split at hq
          all_goals first | (cases hq; done) | (cases hq; simp)
        · exact absurd hlk (hin2 _ _ _ _)
      · exact ord hh
    all_goals exact ord hh
theorem zn_go_ok (B : zn_B p s m args meth c own cc nL T0 D cA g A R) (hin2 : meth.name = "<init>" ∨ ∀ pc idx a b, zm_look T.1 pc ≠ some (.putfield idx, a, b)) (hT0 : T0.2.1 = [] ∧ T0.2.2.1 = []) (hok : zn_ok l R own cc T) {stop : Nat} : ∀ (n : Nat) (h : Nat → Nat → Nat) (S S1 : zn_S), (∀ n, h 1 n = g n) → S.2.2.1 ≤ T.2.2.1 → S.2.2.2 ≤ T.2.2.2 → zn_go T stop n S = some S1 → (S1.1.1 = stop ∧ S.2.1.length ≤ S1.2.1.length ∧ S1.2.2.1 ≤ T.2.2.1 ∧ S1.2.2.2 ≤ T.2.2.2) ∧ ((∀ h1, zn_ext S.2.1.length h h1 → zn_G p l e R s m args below meth c Q D cA A nL h1 S1) → zn_G p l e R s m args below meth c Q D cA A nL h S)
  | 0, h, S, S1, _, _, _, hh => by cases hh
  | n + 1, h, S, S1, hg, hc0, hs0, hh => by
    unfold zn_go at hh
    split at hh
    · next hb => cases hh; exact ⟨⟨Nat.eq_of_beq_eq_true hb, Nat.le_refl _, hc0, hs0⟩, fun hk => hk h (zn_ext_rf _ _)⟩
    · split at hh
      · next S2 hS2 =>
        have st := fun h' (hg' : ∀ n, h' 1 n = g n) => zn_step_ok (l := l) (e := e) (below := below) (Q := Q) (h := h') B hin2 hT0 hok hg' hc0 hs0 hS2
        obtain ⟨⟨hlen, hc2, hs2⟩, hcont⟩ := st h hg
        have ih := zn_go_ok B hin2 hT0 hok n h S2 S1 hg hc2 hs2 hh
        refine ⟨⟨ih.1.1, Nat.le_trans hlen ih.1.2.1, ih.1.2.2⟩, fun hk => hcont fun h2 hx2 => ?_⟩
        have hg2 : ∀ n, h2 1 n = g n := fun n => (hx2.2 n).trans (hg n)
        exact (zn_go_ok B hin2 hT0 hok n h2 S2 S1 hg2 hc2 hs2 hh).2 fun h3 hx3 => hk h3 (zn_ext_tr hlen hx2 hx3)
      · cases hh
end ZNR
/-- A CONSTRUCTOR: its table is right, so it does what its table's run says -/
theorem zn_con {l : Launch} {y : MethodName} {cc : ByteArray} {nL stop fuel : Nat} {T : zn_T} {rm : Room} (hy : plainName y.cls = true) (hyn : y.name = "<init>") (hok : zn_ok l rm y.cls cc T) (hst : decode cc stop = .ok (.return_, 1)) : zn_Con l y cc nL rm (zn_run T nL stop fuel, T.2.2.1, T.2.2.2) := by
  intro D cA h A wl av M r hF
  dsimp only at hF ⊢
  unfold zn_run at hF
  split at hF
  · cases hF
  · next hlen =>
    have hlen := Nat.le_of_ble_eq_true hlen
    split at hF
    · next S hgo =>
      split at hF
      · next hemp =>
        split at hF
        · next hcnt =>
          cases hF
          simp only [Bool.and_eq_true] at hcnt
          have hcc := Nat.eq_of_beq_eq_true hcnt.1
          have hss := Nat.eq_of_beq_eq_true hcnt.2
          refine Met.ofW (cc := cc) (maxL := nL) (ret := none) hy rfl ?_
          intro p e s m args below meth c s₁ B hml hv
          obtain ⟨rfl, hP, hK, hD, hA, hw, hfr, hZ, hAO⟩ := hv
          have hts := atoms_spec (ws := Jvm.Cond.code y cc nL none :: zm_tbl) B.pre
          have hown : s.vm.findClass y.cls = some m.cls := findClass_of_methodNamed B.named
          have hin2 : meth.name = "<init>" := (name_of_methodNamed B.named B.method).1.trans hyn
          have hB : zn_B p s m (av.map (zm_cv h)).toArray meth c y.cls cc nL ([], [], [], none, none) D cA (h 1) A rm := ⟨fun h' c0 s0 hg hc0 hs0 => ⟨B.exec, B.bytes, hml, hown, fun w hw9 => hts w (List.mem_cons_of_mem _ hw9), hK, B.returns, B.notSynchronized, by rw [show h' 1 = h 1 from funext hg]; exact hZ, ⟨hc0, hs0⟩, fun x hx9 => by cases hx9⟩, hA, hAO⟩
          rw [lg_entry_eq]
          have hle : (lg_sl (av.map (zm_cv h))).length ≤ nL := by rw [zm_sl_lg, List.length_map]; exact hlen
          have hl := lv_entry (av.map (zm_cv h)) (n := nL) hle
          have hgo2 := zn_go_ok (l := l) (e := e) (below := below) (Q := MQ below (zn_Q D cA h A wl.length (S.2.1, S.1.2.2.2)) (av.map (zm_cv h)).toArray s T.2.2.1 T.2.2.2 A) hB (Or.inl hin2) ⟨rfl, rfl⟩ hok fuel h _ S (fun _ => rfl) (Nat.zero_le _) (Nat.zero_le _) hgo
          refine hgo2.2 (fun h1 hx1 => ?_) hD hfr hw s.heap [] _ ⟨zm_pad_len _ _, hl.1, hl.2.1, fun k v hk => ?_⟩ hP va_S.rf
          · intro hD1 hfr1 hw1 H locs la hl1 hP1 hS1
            rw [hemp, hgo2.1.1, hcc, hss]
            exact W.vret B.exec B.bytes B.returns (fun t ht hW => ⟨rfl, ⟨h1, hx1, by rw [ht]; exact hP1, hD1, hw1, hfr1⟩, hS1.F ht⟩) hS1.2.2 hst B.notSynchronized
          · have hk := zm_pad_get _ _ _ _ hk
            have hlt : k < (zm_sl av).length := (List.getElem?_eq_some_iff.mp hk).1
            rw [List.getElem?_toArray, List.getElem?_append_left (by rw [zm_sl_lg, List.length_map]; exact hlt), zm_sl_lg, List.getElem?_map, hk]
            rfl
        · cases hF
      · cases hF
    · cases hF
end
section
/-! THE LAW, its words (out of the skeleton) -/
def R_law : String := "WearingBenchLaw"
def lw_P (b : Addr) (xs : List Int32) (args : Array Value) (s : State) : Prop := args = #[.ref b] ∧ s.IntsAt b xs ∧ xs.length ≤ 3072 ∧ (Jvm.Cond.and given_1 narrow_1).before args s = true
def lw_Q (_ : Array Value) (s : State) (o : Outcome) (t : State) : Prop := o = .returned (some (.int 1)) ∧ Framed s o t [] 600000 7302250
def lw_Z (below : List Frame) (a : Array Value) (s : State) : State → Prop := fun t => ∃ o, t.status = .running ∧ Ended t below o ∧ lw_Q a s o t
/-- the law's own end, with 1 on the stack, nothing written that was there before, its room as the claim has it -/
theorem lw_ret {p : Program} {l : Launch} {e : Env} {s : State} {m : MethodId} {below : List Frame} {meth : Method} {c : Code} {b : Nat} (hx : p.tables.exec = Jvm.exec) (hb : c.code = code) (hr : meth.sig.returnType = ret) (hlocks : meth.locks = false) {pc : Nat} {H : Heap} {ls : Array Slot} (hdg : decode code pc = .ok (.ireturn, 1)) : W p l e room_1 s m #[Value.ref b] below meth c H [] 600000 7302250 (lw_Z below #[Value.ref b] s) (F0 m pc ls [.int 1]) := by
  intro T hT X
  obtain ⟨fs, hret, hrun, hended, hW, hframe⟩ := X.leave (v := some (.int 1)) (hlocks := hlocks) (fun h => by rw [hr] at h; cases h)
  have hmeth' : T.vm.method? m = some meth := X.method'
  refine ⟨T.setFrames fs, ?_, .returned (some (.int 1)), hrun, hended, rfl, ⟨_, rfl⟩, hW, hframe⟩
  jvm_step X.here [X.here.top, hx, hb, hdg, hmeth', hr, ret, narrow_b1]
  (try refine ⟨rfl, ?_⟩); (try refine ⟨rfl, ?_⟩)
  first | (intro acts; rw [hret _ acts rfl rfl rfl]) | rw [hret _ _ rfl rfl rfl]
  exact Steps.refl _
/-- what holds at the law's entry: the machine, the code, the tables' words (any of lw_tbl by 'hts w (by decide +kernel)'), the script of L ints xs at the cell b, what the Statement gives of the start (any of its parts by flat_of_before) -/
def lw_At (p : Program) (s : State) (m : MethodId) (meth : Method) (c : Code) (b L : Nat) (xs : Nat → Int32) : Prop :=
  p.tables.exec = Jvm.exec ∧ c.code = code ∧ meth.sig.returnType = ret ∧ c.maxLocals = 4 ∧ s.vm.findClass R_law = some m.cls ∧ (∀ w ∈ lw_tbl, w.before #[Value.ref b] s = true) ∧ va_X b L xs s s.heap ∧ b < s.heap.size ∧ meth.locks = false ∧ (Jvm.Cond.and given_1 narrow_1).before #[Value.ref b] s = true
end
