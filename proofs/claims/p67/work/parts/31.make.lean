/-! THE RUNS THAT MAKE CELLS, as a program; and that the machine does them -/
abbrev zn_S : Type := zm_S × zm_L × Nat × Nat
abbrev zn_F : Type := zm_L → List Value → zm_I → Option (zm_L × zm_I)
/-- a constructor: what it does, how many cells and slots it makes -/
abbrev zn_C : Type := zn_F × Nat × Nat
/-- code by places, constructors that are called, how many cells and slots may be made -/
abbrev zn_T : Type := List (Nat × Instr × Nat × Nat) × List (Nat × zn_C) × Nat × Nat
def zn_clV (N : Nat) : Value → Bool
  | .ref n => Nat.ble (n + 1) N
  | _ => true
def zn_clO (N : Nat) : Option Value → Bool
  | some v => zn_clV N v
  | none => true
def zn_cl (ls : List (Option Value)) (st : List Value) (wl : zm_L) : Bool := ls.all (zn_clO wl.length) && st.all (zn_clV wl.length) && wl.all (fun d => d.2.all (zn_clV wl.length))
def zn_next (wl : zm_L) (i : Instr) (a b pc : Nat) (ls : List (Option Value)) (st : List Value) (M : zm_I) : Option zm_S := match i with
  | .aload_n x => match ls[x.val]? with
    | some (some (.ref n)) => some (pc + 1, ls, .ref n :: st, M)
    | some (some .null) => some (pc + 1, ls, .null :: st, M)
    | _ => none
  | .iload_n x => match ls[x.val]? with
    | some (some (.int n)) => some (pc + 1, ls, .int n :: st, M)
    | _ => none
  | .istore_n x => match st with
    | .int y :: t => match Nat.ble (x.val + 1) ls.length with
      | true => some (pc + 1, (zm_clr ls x.val).set x.val (some (.int y)), t, M)
      | false => none
    | _ => none
  | .astore_n x => match st with
    | .ref y :: t => match Nat.ble (x.val + 1) ls.length with
      | true => some (pc + 1, (zm_clr ls x.val).set x.val (some (.ref y)), t, M)
      | false => none
    | .null :: t => match Nat.ble (x.val + 1) ls.length with
      | true => some (pc + 1, (zm_clr ls x.val).set x.val (some .null), t, M)
      | false => none
    | _ => none
  | .iconst n => some (pc + 1, ls, .int (Int32.ofInt n) :: st, M)
  | .bipush n => some (pc + 2, ls, .int (Int8.ofInt n).toInt32 :: st, M)
  | .sipush n => some (pc + 3, ls, .int (Int16.ofInt n).toInt32 :: st, M)
  | .dup => match st with
    | .ref x :: r => some (pc + 1, ls, .ref x :: .ref x :: r, M)
    | _ => none
  | .iinc x n => match ls[x]? with
    | some (some (.int y)) => some (pc + 3, (zm_clr ls x).set x (some (.int (y + Int32.ofInt n))), st, M)
    | _ => none
  | .goto off => some (zm_tg pc off, ls, st, M)
  | .if_icmp c off => match st with
    | .int y :: .int x :: r => match c with
      | .ge => if y ≤ x then some (zm_tg pc off, ls, r, M) else some (pc + 3, ls, r, M)
      | .gt => if y < x then some (zm_tg pc off, ls, r, M) else some (pc + 3, ls, r, M)
      | .lt => if x < y then some (zm_tg pc off, ls, r, M) else some (pc + 3, ls, r, M)
      | _ => none
    | _ => none
  | .ifCond c off => match st with
    | .int x :: r => match c with
      | .lt => if x < 0 then some (zm_tg pc off, ls, r, M) else some (pc + 3, ls, r, M)
      | _ => none
    | _ => none
  | .ifnonnull off => match st with
    | .ref _ :: r => some (zm_tg pc off, ls, r, M)
    | .null :: r => some (pc + 3, ls, r, M)
    | _ => none
  | .getfield _ => match st with
    | .ref n :: r => match wl[n]? with
      | some (.inl c, rs) => match Nat.beq c a with
        | true => some (pc + 3, ls, zm_vA M n rs (zm_ty a b) b :: r, M)
        | false => none
      | _ => none
    | _ => none
  | .putfield _ => match zm_fin a b with
    | true => none
    | false => match st with
      | .int x :: .ref n :: r => match wl[n]? with
        | some (.inl c, _) => match Nat.beq c a with
          | true => match zm_ty a b with
            | .int => some (pc + 3, ls, r, (zm_w M.1 n b x, M.2))
            | _ => none
          | false => none
        | _ => none
      | _ => none
  | .iastore => match st with
    | .int x :: .int i :: .ref n :: r => match wl[n]? with
      | some (.inr (.int, len), _) => if i < 0 ∨ len ≤ i.toNatClampNeg then none else some (pc + 1, ls, r, (zm_w M.1 n i.toNatClampNeg x, M.2))
      | _ => none
    | _ => none
  | .aaload => match st with
    | .int i :: .ref n :: r => match wl[n]? with
      | some (.inr (.object _, len), rs) => if i < 0 ∨ len ≤ i.toNatClampNeg then none else match rs.getD i.toNatClampNeg .null with
        | .ref q => some (pc + 1, ls, .ref q :: r, M)
        | .null => some (pc + 1, ls, .null :: r, M)
        | _ => none
      | _ => none
    | _ => none
  | _ => none
def zn_prim : FieldType → Bool
  | .int => true
  | .long => true
  | .byte => true
  | .boolean => true
  | _ => false
def zn_isR : FieldType → Bool
  | .array _ => true
  | .object _ => true
  | _ => false
def zn_okf (a : Nat) : Bool := (List.range (zm_nf a)).all (fun f => match zm_ty a f with
  | .float => false
  | .double => false
  | _ => true)
def zn_nm (a : Nat) : String := match zm_cl[a]? with
  | some r => r.1
  | none => ""
def zn_isA (a : Nat) : Bool := Nat.beq a 0 || Nat.beq a 2 || Nat.beq a 7
/-- putfield of a reference into a final field -/
def zn_pr (wl : zm_L) (a b pc : Nat) (ls : List (Option Value)) (st : List Value) (M : zm_I) : Option (zm_S × zm_L) := match st with
  | .ref v :: .ref n :: r => match wl[n]? with
    | some (.inl c, rs) => match Nat.beq c a && zm_fin a b && zn_isR (zm_ty a b) && Nat.ble (b + 1) rs.length with
      | true => some ((pc + 3, ls, r, M), wl.set n (.inl a, rs.set b (.ref v)))
      | false => none
    | _ => none
  | _ => none
def zn_as (wl : zm_L) (pc : Nat) (ls : List (Option Value)) (st : List Value) (M : zm_I) : Option (zm_S × zm_L) := match st with
  | .ref v :: .int i :: .ref n :: r => match wl[n]? with
    | some (.inr (.object C, len), rs) => match wl[v]? with
      | some (.inl ci, _) => if (i < 0 ∨ len ≤ i.toNatClampNeg) then none else match decide (zn_nm ci = C) && Nat.ble (ci + 1) 11 && Nat.ble (i.toNatClampNeg + 1) rs.length with
        | true => some ((pc + 1, ls, r, M), wl.set n (.inr (.object C, len), rs.set i.toNatClampNeg (.ref v)))
        | false => none
      | _ => none
    | _ => none
  | _ => none
def zn_ct (T : zn_T) (S : zn_S) (idx : Nat) : Option zn_S := match S.1.2.2.1 with
  | .ref n :: r => match zm_look T.2.1 idx with
    | some C => match Nat.ble (r.map fun v => v.category).sum 8 && zn_cl S.1.2.1 r S.2.1 && Nat.ble (S.2.2.1 + C.2.1) T.2.2.1 && Nat.ble (S.2.2.2 + C.2.2) T.2.2.2 with
      | true => match C.1 S.2.1 [.ref n] S.1.2.2.2 with
        | some q => match Nat.ble S.2.1.length q.1.length with
          | true => some ((S.1.1 + 3, S.1.2.1, r, q.2), q.1, S.2.2.1 + C.2.1, S.2.2.2 + C.2.2)
          | false => none
        | none => none
      | false => none
    | none => none
  | _ => none
def zn_step (T : zn_T) (S : zn_S) : Option zn_S := match zm_look T.1 S.1.1 with
  | none => none
  | some (i, a, b) => match i with
    | .new _ => match zn_cl S.1.2.1 S.1.2.2.1 S.2.1 && Nat.ble (S.2.2.1 + 1) T.2.2.1 && Nat.ble (S.2.2.2 + zm_nf a) T.2.2.2 && zn_okf a with
      | true => some ((S.1.1 + 3, S.1.2.1, .ref S.2.1.length :: S.1.2.2.1, S.1.2.2.2), S.2.1 ++ [(.inl a, List.replicate (zm_nf a) .null)], S.2.2.1 + 1, S.2.2.2 + zm_nf a)
      | false => none
    | .newarray t => match S.1.2.2.1 with
      | .int n :: r => if n < 0 then none else match zn_cl S.1.2.1 r S.2.1 && Nat.ble (S.2.2.1 + 1) T.2.2.1 && Nat.ble (S.2.2.2 + n.toNatClampNeg) T.2.2.2 && zn_prim (newarray.typeOf t) && Nat.ble n.toNatClampNeg 100000 with
        | true => some ((S.1.1 + 2, S.1.2.1, .ref S.2.1.length :: r, S.1.2.2.2), S.2.1 ++ [(.inr (newarray.typeOf t, n.toNatClampNeg), [])], S.2.2.1 + 1, S.2.2.2 + n.toNatClampNeg)
        | false => none
      | _ => none
    | .anewarray _ => match S.1.2.2.1 with
      | .int n :: r => if n < 0 then none else match zn_cl S.1.2.1 r S.2.1 && Nat.ble (S.2.2.1 + 1) T.2.2.1 && Nat.ble (S.2.2.2 + n.toNatClampNeg) T.2.2.2 && zn_isA a && Nat.ble n.toNatClampNeg 100000 with
        | true => some ((S.1.1 + 3, S.1.2.1, .ref S.2.1.length :: r, S.1.2.2.2), S.2.1 ++ [(.inr (.object (zn_nm a), n.toNatClampNeg), List.replicate n.toNatClampNeg .null)], S.2.2.1 + 1, S.2.2.2 + n.toNatClampNeg)
        | false => none
      | _ => none
    | .aastore => match zn_as S.2.1 S.1.1 S.1.2.1 S.1.2.2.1 S.1.2.2.2 with
      | some q => some (q.1, q.2, S.2.2)
      | none => none
    | .invokespecial idx => match a with
      | 0 => match S.1.2.2.1 with
        | .ref _ :: r => match Nat.ble (r.map fun v => v.category).sum 8 with
          | true => some ((S.1.1 + 3, S.1.2.1, r, S.1.2.2.2), S.2)
          | false => none
        | _ => none
      | _ => zn_ct T S idx
    | .putfield _ => match zn_pr S.2.1 a b S.1.1 S.1.2.1 S.1.2.2.1 S.1.2.2.2 with
      | some q => some (q.1, q.2, S.2.2)
      | none => match zn_next S.2.1 i a b S.1.1 S.1.2.1 S.1.2.2.1 S.1.2.2.2 with
        | some q => some (q, S.2)
        | none => none
    | i => match zn_next S.2.1 i a b S.1.1 S.1.2.1 S.1.2.2.1 S.1.2.2.2 with
      | some q => some (q, S.2)
      | none => none
def zn_go (T : zn_T) (stop : Nat) : Nat → zn_S → Option zn_S
  | 0, _ => none
  | n + 1, S => match Nat.beq S.1.1 stop with
    | true => some S
    | false => match zn_step T S with
      | some S1 => zn_go T stop n S1
      | none => none
/-- what a constructor does, by its table: places of its locals, of its return -/
def zn_run (T : zn_T) (nL stop fuel : Nat) : zn_F := fun wl av M => match Nat.ble (zm_sl av).length nL with
  | false => none
  | true => match zn_go T stop fuel ((0, zm_pad nL (zm_sl av), [], M), wl, 0, 0) with
    | some S => match S.1.2.2.1 with
      | [] => match Nat.beq S.2.2.1 T.2.2.1 && Nat.beq S.2.2.2 T.2.2.2 with
        | true => some (S.2.1, S.1.2.2.2)
        | false => none
      | _ => none
    | none => none
noncomputable def zn_k (S0 : zm_S) : zm_S → zm_R := fun S => @ite zm_R (S = S0) (Classical.propDecidable _) (some (none, S0.2.2.2)) none
theorem zn_k_self (S0 : zm_S) : zn_k S0 S0 = some (none, S0.2.2.2) := if_pos rfl
theorem zn_k_inv {S0 S : zm_S} {r : Option Value × zm_I} (h : zn_k S0 S = some r) : S = S0 := by
  unfold zn_k at h
  split at h
  · assumption
  · cases h
/-- nothing is written where no cell is yet -/
def zn_fr (wl : zm_L) (M : zm_I) : Prop := ∀ a, wl.length ≤ a → (∀ b, M.1 a b = 0) ∧ ∀ b, M.2 a b = 0
theorem zn_fr_w {wl : zm_L} {M : zm_I} {n i : Nat} {x : Int32} {d : zm_D × List Value} (hd : wl[n]? = some d) (h : zn_fr wl M) : zn_fr wl (zm_w M.1 n i x, M.2) := by
  intro a ha
  have hl := (List.getElem?_eq_some_iff.mp hd).1
  refine ⟨fun b => ?_, (h a ha).2⟩
  have hne : a ≠ n := by omega
  simp only [zm_w, hne, false_and, if_false]
  exact (h a ha).1 b
def zn_len : Instr → Nat
  | .new _ => 3
  | .newarray _ => 2
  | .anewarray _ => 3
  | i => zm_len i
def zn_dec (cc : ByteArray) (pc : Nat) (i : Instr) : Bool := match decode cc pc with
  | .ok (j, len) => decide (j = i) && (len == zn_len i) && (zm_offs i).all (fun o => decide (0 ≤ (pc : Int) + o))
  | _ => false
theorem zn_dec_o {cc : ByteArray} {pc : Nat} {i : Instr} (h : zn_dec cc pc i = true) : decode cc pc = .ok (i, zn_len i) := by
  unfold zn_dec at h
  split at h
  · next j len hd =>
    simp at h
    rw [hd, h.1.1, h.1.2]
  · cases h
theorem zn_dec_zm {cc : ByteArray} {pc : Nat} {i : Instr} (h : zn_dec cc pc i = true) (hl : zn_len i = zm_len i) : zm_dec cc pc i = true := by
  unfold zn_dec at h
  unfold zm_dec
  split at h
  · next j len hd =>
    rw [hd]
    simp only [Bool.and_eq_true, Bool.or_eq_true] at h ⊢
    rw [← hl]
    exact ⟨⟨h.1.1, Or.inl h.1.2⟩, h.2⟩
  · cases h
set_option maxHeartbeats 1000000 in
theorem zn_next_ok (T : zm_T) {wl : zm_L} {i : Instr} {a b pc : Nat} {ls : List (Option Value)} {st : List Value} {M : zm_I} {S1 : zm_S} (h : zn_next wl i a b pc ls st M = some S1) : zn_isRet i = false ∧ zn_len i = zm_len i ∧ (zn_fr wl M → zn_fr wl S1.2.2.2) ∧ zm_ins T wl (zn_k S1) (fun ls' st' M' => zn_k S1 (pc + zm_len i, ls', st', M')) i a b pc ls st M = some (none, S1.2.2.2) := by
  cases i
  case aload_n x =>
    simp only [zn_next] at h
    split at h
    · next n hx => cases h; exact ⟨rfl, rfl, id, by simp only [zm_ins, zm_ld, hx]; exact zn_k_self _⟩
    · next hx => cases h; exact ⟨rfl, rfl, id, by simp only [zm_ins, zm_ld, hx]; exact zn_k_self _⟩
    · cases h
  case iload_n x =>
    simp only [zn_next] at h
    split at h
    · next n hx => cases h; exact ⟨rfl, rfl, id, by simp only [zm_ins, zm_ld, hx]; exact zn_k_self _⟩
    · cases h
  case istore_n x =>
    simp only [zn_next] at h
    split at h
    · next y t =>
      split at h
      · next hx => cases h; exact ⟨rfl, rfl, id, by simp only [zm_ins, zm_st, hx]; exact zn_k_self _⟩
      · cases h
    · cases h
  case astore_n x =>
    simp only [zn_next] at h
    split at h
    · next y t =>
      split at h
      · next hx => cases h; exact ⟨rfl, rfl, id, by simp only [zm_ins, zm_st, hx]; exact zn_k_self _⟩
      · cases h
    · next t =>
      split at h
      · next hx => cases h; exact ⟨rfl, rfl, id, by simp only [zm_ins, zm_st, hx]; exact zn_k_self _⟩
      · cases h
    · cases h
  case iconst n => cases h; exact ⟨rfl, rfl, id, zn_k_self _⟩
  case bipush n => cases h; exact ⟨rfl, rfl, id, zn_k_self _⟩
  case sipush n => cases h; exact ⟨rfl, rfl, id, zn_k_self _⟩
  case goto off => cases h; exact ⟨rfl, rfl, id, zn_k_self _⟩
  case dup =>
    simp only [zn_next] at h
    split at h
    · cases h; exact ⟨rfl, rfl, id, by simp only [zm_ins, zm_stk]; exact zn_k_self _⟩
    · cases h
  case iinc x n =>
    simp only [zn_next] at h
    split at h
    · next y hx => cases h; exact ⟨rfl, rfl, id, by simp only [zm_ins, zm_stk, hx]; exact zn_k_self _⟩
    · cases h
  case ifnonnull off =>
    simp only [zn_next] at h
    split at h
    · cases h; exact ⟨rfl, rfl, id, by simp only [zm_ins, zm_stk]; exact zn_k_self _⟩
    · cases h; exact ⟨rfl, rfl, id, by simp only [zm_ins, zm_stk]; exact zn_k_self _⟩
    · cases h
  case if_icmp co off =>
    simp only [zn_next] at h
    split at h
    · next y x r =>
      cases co
      case ge =>
        simp only at h
        split at h
        · next hx => cases h; exact ⟨rfl, rfl, id, by simp only [zm_ins, zm_if2, if_pos hx]; exact zn_k_self _⟩
        · next hx => cases h; exact ⟨rfl, rfl, id, by simp only [zm_ins, zm_if2, if_neg hx]; exact zn_k_self _⟩
      case gt =>
        simp only at h
        split at h
        · next hx => cases h; exact ⟨rfl, rfl, id, by simp only [zm_ins, zm_if2, if_pos hx]; exact zn_k_self _⟩
        · next hx => cases h; exact ⟨rfl, rfl, id, by simp only [zm_ins, zm_if2, if_neg hx]; exact zn_k_self _⟩
      case lt =>
        simp only at h
        split at h
        · next hx => cases h; exact ⟨rfl, rfl, id, by simp only [zm_ins, zm_if2, if_pos hx]; exact zn_k_self _⟩
        · next hx => cases h; exact ⟨rfl, rfl, id, by simp only [zm_ins, zm_if2, if_neg hx]; exact zn_k_self _⟩
      all_goals (simp at h)
    · cases h
  case ifCond co off =>
    simp only [zn_next] at h
    split at h
    · next x r =>
      cases co
      case lt =>
        simp only at h
        split at h
        · next hx => cases h; exact ⟨rfl, rfl, id, by simp only [zm_ins, zm_if1, if_pos hx]; exact zn_k_self _⟩
        · next hx => cases h; exact ⟨rfl, rfl, id, by simp only [zm_ins, zm_if1, if_neg hx]; exact zn_k_self _⟩
      all_goals (simp at h)
    · cases h
  case getfield x =>
    simp only [zn_next] at h
    split at h
    · next n r =>
      split at h
      · next c rs hw =>
        split at h
        · next hc => cases h; exact ⟨rfl, rfl, id, by simp only [zm_ins, zm_gf, hw, hc]; exact zn_k_self _⟩
        · cases h
      · cases h
    · cases h
  case putfield x =>
    simp only [zn_next] at h
    split at h
    · cases h
    · next hf =>
      split at h
      · next x n r =>
        split at h
        · next c rs hw =>
          split at h
          · next hc =>
            split at h
            · next ht => cases h; exact ⟨rfl, rfl, zn_fr_w hw, by simp only [zm_ins, zm_pf, hf, hw, hc, ht]; exact zn_k_self _⟩
            · cases h
          · cases h
        · cases h
      · cases h
  case iastore =>
    simp only [zn_next] at h
    split at h
    · next x i n r =>
      split at h
      · next len rs hw =>
        split at h
        · cases h
        · next hi => cases h; exact ⟨rfl, rfl, zn_fr_w hw, by simp only [zm_ins, zm_as, hw, if_neg hi]; exact zn_k_self _⟩
      · cases h
    · cases h
  case aaload =>
    simp only [zn_next] at h
    split at h
    · next i n r =>
      split at h
      · next C len rs hw =>
        split at h
        · cases h
        · next hi =>
          split at h
          · next q hq => cases h; exact ⟨rfl, rfl, id, by simp only [zm_ins, zm_al, hw, if_neg hi, hq]; exact zn_k_self _⟩
          · next hq => cases h; exact ⟨rfl, rfl, id, by simp only [zm_ins, zm_al, hw, if_neg hi, hq]; exact zn_k_self _⟩
          · cases h
      · cases h
    · cases h
  all_goals (simp [zn_next] at h)
-- the handles taken on
def zn_ext (N : Nat) (h h1 : Nat → Nat → Nat) : Prop := (∀ n, n < N → h1 0 n = h 0 n) ∧ ∀ n, h1 1 n = h 1 n
theorem zn_ext_rf (N : Nat) (h : Nat → Nat → Nat) : zn_ext N h h := ⟨fun _ _ => rfl, fun _ => rfl⟩
theorem zn_ext_tr {N N1 : Nat} {h h1 h2 : Nat → Nat → Nat} (hl : N ≤ N1) (e1 : zn_ext N h h1) (e2 : zn_ext N1 h1 h2) : zn_ext N h h2 := ⟨fun n hn => (e2.1 n (Nat.lt_of_lt_of_le hn hl)).trans (e1.1 n hn), fun n => (e2.2 n).trans (e1.2 n)⟩
def zn_up (h : Nat → Nat → Nat) (n q : Nat) : Nat → Nat → Nat := fun a k => match a with
  | 0 => if k = n then q else h 0 k
  | a + 1 => h (a + 1) k
theorem zn_up_ext (h : Nat → Nat → Nat) (n q : Nat) : zn_ext n h (zn_up h n q) := ⟨fun k hk => by simp [zn_up, Nat.ne_of_lt hk], fun _ => rfl⟩
theorem zn_up_at (h : Nat → Nat → Nat) (n q : Nat) : zn_up h n q 0 n = q := by simp [zn_up]
theorem zn_cv {N : Nat} {h h1 : Nat → Nat → Nat} (hx : zn_ext N h h1) {v : Value} (hv : zn_clV N v = true) : zm_cv h1 v = zm_cv h v := by
  cases v with
  | ref n => simp only [zm_cv]; rw [hx.1 n (Nat.le_of_ble_eq_true hv)]
  | retAddr k => simp only [zm_cv]; rw [hx.2 k]
  | _ => rfl
theorem zn_rr {N : Nat} {h h1 : Nat → Nat → Nat} (hx : zn_ext N h h1) {v : Value} (hv : zn_clV N v = true) : zm_rr h1 v = zm_rr h v := by
  cases v with
  | ref n => simp only [zm_rr]; rw [hx.1 n (Nat.le_of_ble_eq_true hv)]
  | retAddr k => simp only [zm_rr]; rw [hx.2 k]
  | _ => rfl
theorem zn_getD {N : Nat} {rs : List Value} (h : rs.all (zn_clV N) = true) (k : Nat) : zn_clV N (rs.getD k .null) = true := by
  rw [List.getD_eq_getElem?_getD]
  cases hk : rs[k]? with
  | none => rfl
  | some v => exact List.all_eq_true.mp h v (List.mem_of_getElem? hk)
theorem zn_vA {N : Nat} {M : zm_I} {n : Nat} {rs : List Value} (h : rs.all (zn_clV N) = true) (ty : FieldType) (k : Nat) : zn_clV N (zm_vA M n rs ty k) = true := by
  cases ty <;> simp only [zm_vA] <;> first | exact zn_getD h k | rfl
theorem zn_e {cA : FieldType → ClassId} {N : Nat} {h h1 : Nat → Nat → Nat} (hx : zn_ext N h h1) {M : zm_I} {n : Nat} {d : zm_D × List Value} (hc : d.2.all (zn_clV N) = true) : zm_e cA h1 M n d = zm_e cA h M n d := by
  obtain ⟨ci | ⟨ty, len⟩, rs⟩ := d
  · have hv : ∀ f, zm_cv h1 (zm_vA M n rs (zm_ty ci f) f) = zm_cv h (zm_vA M n rs (zm_ty ci f) f) := fun f => zn_cv hx (zn_vA hc _ _)
    simp only [zm_e, hv]
  · have hr : zm_row h1 M n rs ty = zm_row h M n rs ty := by
      cases ty <;> simp only [zm_row]
      congr 4
      funext i
      exact zn_rr hx (zn_getD hc i)
    simp only [zm_e, hr]
theorem zn_ws_ext {cA : FieldType → ClassId} {h h1 : Nat → Nat → Nat} {wl : zm_L} {M : zm_I} (hx : zn_ext wl.length h h1) (hc : wl.all (fun d => d.2.all (zn_clV wl.length)) = true) : zm_ws cA h1 wl M = zm_ws cA h wl M := by
  apply List.ext_getElem?
  intro k
  rw [zm_ws_get, zm_ws_get]
  cases hk : wl[k]? with
  | none => rfl
  | some d =>
    have hl := (List.getElem?_eq_some_iff.mp hk).1
    simp only [Option.map_some]
    rw [hx.1 k hl, zn_e hx (List.all_eq_true.mp hc d (List.mem_of_getElem? hk))]
theorem zn_ws_push (cA : FieldType → ClassId) (h : Nat → Nat → Nat) (wl : zm_L) (M : zm_I) (d : zm_D × List Value) : zm_ws cA h (wl ++ [d]) M = zm_ws cA h wl M ++ [(h 0 wl.length, zm_e cA h M wl.length d)] := by
  simp [zm_ws, List.mapIdx_append]
theorem zn_ws_setd {cA : FieldType → ClassId} {h : Nat → Nat → Nat} {wl : zm_L} {M : zm_I} {n : Nat} {d d' : zm_D × List Value} (hd : wl[n]? = some d) : zm_ws cA h (wl.set n d') M = (zm_ws cA h wl M).set n (h 0 n, zm_e cA h M n d') := by
  apply List.ext_getElem?
  intro k
  have hl := (List.getElem?_eq_some_iff.mp hd).1
  rw [zm_ws_get, List.getElem?_set, List.getElem?_set, zm_ws_get]
  have hl2 : (zm_ws cA h wl M).length = wl.length := by simp [zm_ws]
  by_cases hk : n = k
  · subst hk
    simp [hl, hl2]
  · simp [hk]
theorem zn_lok {N : Nat} {h h1 : Nat → Nat → Nat} (hx : zn_ext N h h1) {nL : Nat} {ls : List (Option Value)} {la : Array Slot} (hl : zm_lok h nL ls la) (hc : ls.all (zn_clO N) = true) : zm_lok h1 nL ls la := by
  refine ⟨hl.1, hl.2.1, hl.2.2.1, fun k v hk => ?_⟩
  rw [zn_cv hx (List.all_eq_true.mp hc (some v) (List.mem_of_getElem? hk))]
  exact hl.2.2.2 k v hk
theorem zn_st {N : Nat} {h h1 : Nat → Nat → Nat} (hx : zn_ext N h h1) {st : List Value} (hc : st.all (zn_clV N) = true) : st.map (zm_cv h1) = st.map (zm_cv h) := by
  apply List.map_congr_left
  intro v hv
  exact zn_cv hx (List.all_eq_true.mp hc v hv)
theorem zn_fr_push {wl : zm_L} {M : zm_I} {d : zm_D × List Value} (h : zn_fr wl M) : zn_fr (wl ++ [d]) M := fun a ha => h a (by simp at ha; omega)
theorem zn_fr_set {wl : zm_L} {M : zm_I} {n : Nat} {d : zm_D × List Value} (h : zn_fr wl M) : zn_fr (wl.set n d) M := fun a ha => h a (by simpa using ha)
