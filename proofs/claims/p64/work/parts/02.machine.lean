/-! THE MACHINE OF ROWS: a method's bytecode run over handles (numbers of cells), pure; proved once against the real machine. -/
abbrev zm_cl : List vw_C := [(RX0, TX0, 17), (RX1, TX1, 5), (RX2, TX2, 10), (RX3, TX3, 4), (RX4, TX4, 3), (RX5, TX5, 3), (RX6, TX6, 7), (RX7, TX7, 3), (RX8, TX8, 7), (RX9, TX9, 13), (RX10, TX10, 53)]
def zm_ty (ci f : Nat) : FieldType := match ci with
  | 0 => tyX0 f
  | 1 => tyX1 f
  | 2 => tyX2 f
  | 3 => tyX3 f
  | 4 => tyX4 f
  | 5 => tyX5 f
  | 6 => tyX6 f
  | 7 => tyX7 f
  | 8 => tyX8 f
  | 9 => tyX9 f
  | _ => tyX10 f
def zm_nf (ci : Nat) : Nat := match ci with
  | 0 => 17
  | 1 => 5
  | 2 => 10
  | 3 => 4
  | 4 => 3
  | 5 => 3
  | 6 => 7
  | 7 => 3
  | 8 => 7
  | 9 => 13
  | _ => 53
def zm_tbl : List Jvm.Cond := lw_tbl.filter goodWord
theorem zm_good : GoodIn zm_tbl zm_tbl := fun w hw => ⟨hw, good_of_word (List.mem_filter.mp hw).2⟩
abbrev zm_D : Type := Nat ⊕ (FieldType × Nat)
abbrev zm_L : Type := List (zm_D × List Value)
abbrev zm_I : Type := (Nat → Nat → Int32) × (Nat → Nat → Int64)
abbrev zm_R : Type := Option (Option Value × zm_I)
abbrev zm_S : Type := Nat × List (Option Value) × List Value × zm_I
/-- arguments, the receiver's class, whether in the caller's own space, the blocks (argument's place, size), what it does -/
abbrev zm_C : Type := Nat × Option Nat × Bool × List (Nat × Nat) × (zm_L → List Value → zm_I → zm_R)
/-- code by stretches (each instruction with its field's class and number), constants, calls, what is returned; the script, for the law alone -/
abbrev zm_T : Type := List (Nat × List (Instr × Nat × Nat)) × List (Nat × Value) × List (Nat × zm_C) × Option FieldType × Option (Nat × (Nat → Int32))
abbrev zm_N : Type := List (Option Value) → List Value → zm_I → zm_R
def zm_look {α : Type} : List (Nat × α) → Nat → Option α
  | [], _ => none
  | (k, a) :: r, n => match Nat.beq n k with
    | true => some a
    | false => zm_look r n
def zm_cv (h : Nat → Nat → Nat) : Value → Value
  | .ref n => .ref (h 0 n)
  | .retAddr k => .ref (h 1 k)
  | v => v
def zm_vA (M : zm_I) (n : Nat) (rs : List Value) (ty : FieldType) (k : Nat) : Value := match ty with
  | .long => .long (M.2 n k)
  | .array _ => rs.getD k .null
  | .object _ => rs.getD k .null
  | _ => .int (M.1 n k)
def zm_rr (h : Nat → Nat → Nat) (v : Value) : Option Nat := match v with
  | .ref n => some (h 0 n)
  | .retAddr k => some (h 1 k)
  | _ => none
def zm_row (h : Nat → Nat → Nat) (M : zm_I) (n : Nat) (rs : List Value) (ty : FieldType) : (Nat → Int32) ⊕ (Nat → Int64) ⊕ (Nat → UInt32) ⊕ (Nat → UInt64) ⊕ (Nat → Option Nat) := match ty with
  | .long => .inr (.inl (M.2 n))
  | .object _ => .inr (.inr (.inr (.inr (fun i => zm_rr h (rs.getD i .null)))))
  | _ => .inl (M.1 n)
def zm_e (cA : FieldType → ClassId) (h : Nat → Nat → Nat) (M : zm_I) (n : Nat) (d : zm_D × List Value) : va_E := match d.1 with
  | .inl ci => .inr (ci, (List.range (zm_nf ci)).map (fun f => zm_cv h (zm_vA M n d.2 (zm_ty ci f) f)))
  | .inr (ty, len) => .inl (cA ty, len, zm_row h M n d.2 ty)
def zm_ws (cA : FieldType → ClassId) (h : Nat → Nat → Nat) (wl : zm_L) (M : zm_I) : va_W := wl.mapIdx (fun n d => (h 0 n, zm_e cA h M n d))
def zm_tys (cA : FieldType → ClassId) : List (ClassId × FieldType) := [(cA .int, .int), (cA .long, .long), (cA .byte, .byte), (cA .boolean, .boolean), (cA (.object RX0), .object RX0), (cA (.object RX2), .object RX2), (cA (.object RX7), .object RX7)]
-- memory written
def zm_w (I : Nat → Nat → Int32) (n i : Nat) (x : Int32) : Nat → Nat → Int32 := fun a b => if a = n ∧ b = i then x else I a b
def zm_wl (J : Nat → Nat → Int64) (n i : Nat) (x : Int64) : Nat → Nat → Int64 := fun a b => if a = n ∧ b = i then x else J a b
-- locals
def zm_clr (ls : List (Option Value)) : Nat → List (Option Value)
  | 0 => ls
  | j + 1 => match ls[j]? with
    | some (some (.long _)) => ls.set j none
    | some (some (.double _)) => ls.set j none
    | _ => ls
def zm_len : Instr → Nat
  | .iload _ => 2
  | .lload _ => 2
  | .aload _ => 2
  | .istore _ => 2
  | .lstore _ => 2
  | .astore _ => 2
  | .bipush _ => 2
  | .ldc _ => 2
  | .sipush _ => 3
  | .ldc_w _ => 3
  | .ldc2_w _ => 3
  | .iinc _ _ => 3
  | .if_icmp _ _ => 3
  | .ifCond _ _ => 3
  | .goto _ => 3
  | .getfield _ => 3
  | .putfield _ => 3
  | .ifnull _ => 3
  | .ifnonnull _ => 3
  | .invokevirtual _ => 3
  | .invokestatic _ => 3
  | .invokespecial _ => 3
  | _ => 1
def zm_isSw : Instr → Bool
  | .tableswitch _ _ _ _ => true
  | _ => false
def zm_offs : Instr → List Int
  | .if_icmp _ o => [o]
  | .ifCond _ o => [o]
  | .goto o => [o]
  | .ifnull o => [o]
  | .ifnonnull o => [o]
  | .tableswitch d _ _ os => d :: os.toList
  | _ => []
def zm_dec (cc : ByteArray) (pc : Nat) (i : Instr) : Bool := match decode cc pc with
  | .ok (j, len) => decide (j = i) && (len == zm_len i || zm_isSw i) && (zm_offs i).all (fun o => decide (0 ≤ (pc : Int) + o))
  | _ => false
def zm_tg (pc : Nat) (off : Int) : Nat := ((pc : Int) + off).toNat
-- the blocks of a call
def zm_fw : List (Nat × Nat) → Nat → Nat
  | [], k => k
  | (n, z) :: bs, k => if k < z then n + k else zm_fw bs (k - z)
def zm_iv : List (Nat × Nat) → Nat → Nat
  | [], n => n
  | (a, z) :: bs, n => if a ≤ n ∧ n < a + z then n - a else z + zm_iv bs n
def zm_in : List (Nat × Nat) → Nat → Bool
  | [], _ => false
  | (a, z) :: bs, n => (Nat.ble a n && Nat.ble (n + 1) (a + z)) || zm_in bs n
def zm_tot : List (Nat × Nat) → Nat
  | [] => 0
  | (_, z) :: bs => z + zm_tot bs
def zm_apart (a z : Nat) : List (Nat × Nat) → Bool
  | [] => true
  | (b, y) :: bs => (Nat.ble (a + z) b || Nat.ble (b + y) a) && zm_apart a z bs
def zm_dis : List (Nat × Nat) → Bool
  | [] => true
  | (a, z) :: bs => zm_apart a z bs && zm_dis bs
def zm_bound (N : Nat) : List (Nat × Nat) → Bool
  | [] => true
  | (a, z) :: bs => Nat.ble (a + z) N && zm_bound N bs
def zm_hr (h : Nat → Nat → Nat) (bs : List (Nat × Nat)) : Nat → Nat → Nat := fun a n => match a with
  | 0 => h 0 (zm_fw bs n)
  | a + 1 => h (a + 1) n
def zm_tr (bs : List (Nat × Nat)) : Value → Value
  | .ref n => .ref (zm_iv bs n)
  | v => v
def zm_bk (bs : List (Nat × Nat)) : Value → Value
  | .ref n => .ref (zm_fw bs n)
  | v => v
def zm_blocks (as : List Value) : List (Nat × Nat) → Option (List (Nat × Nat))
  | [] => some []
  | (q, z) :: r => match as[q]? with
    | some (.ref n) => match zm_blocks as r with
      | some bs => some ((n, z) :: bs)
      | none => none
    | _ => none
def zm_sub (bs : List (Nat × Nat)) (wl : zm_L) : zm_L := (List.range (zm_tot bs)).map (fun k => match wl[zm_fw bs k]? with
  | some d => (d.1, d.2.map (zm_tr bs))
  | none => (.inl 0, []))
def zm_mrg (bs : List (Nat × Nat)) (M N : zm_I) : zm_I := (fun n i => match zm_in bs n with
  | true => N.1 (zm_iv bs n) i
  | false => M.1 n i, fun n i => match zm_in bs n with
  | true => N.2 (zm_iv bs n) i
  | false => M.2 n i)
def zm_isO (wl : zm_L) (ci : Nat) : Value → Bool
  | .ref n => match wl[n]? with
    | some (.inl c, _) => Nat.beq c ci
    | _ => false
  | .retAddr k => Nat.beq ci 99 && Nat.ble (k + 1) 13
  | _ => false
def zm_recv (wl : zm_L) (as : List Value) : Option Nat → Bool
  | none => true
  | some ci => match as with
    | v :: _ => zm_isO wl ci v
    | [] => false
def zm_app (C : zm_C) (wl : zm_L) (as : List Value) (M : zm_I) (k : Option Value → zm_I → zm_R) : zm_R := match zm_recv wl as C.2.1 with
  | false => none
  | true => match C.2.2.1 with
    | true => match C.2.2.2.2 wl as M with
      | some (v, N) => k v N
      | none => none
    | false => match zm_blocks as C.2.2.2.1 with
      | none => none
      | some bs => match zm_dis bs && zm_bound wl.length bs with
        | false => none
        | true => match C.2.2.2.2 (zm_sub bs wl) (as.map (zm_tr bs)) (fun n => M.1 (zm_fw bs n), fun n => M.2 (zm_fw bs n)) with
          | some (v, N) => k (v.map (zm_bk bs)) (zm_mrg bs M N)
          | none => none
-- the instructions, by kinds
def zm_ld (kn : zm_N) (ct i : Nat) (ls : List (Option Value)) (st : List Value) (M : zm_I) : zm_R := match ls[i]? with
  | some (some (.int x)) => match Nat.beq ct 0 with
    | true => kn ls (.int x :: st) M
    | false => none
  | some (some (.long x)) => match Nat.beq ct 1 with
    | true => kn ls (.long x :: st) M
    | false => none
  | some (some (.ref x)) => match Nat.beq ct 2 with
    | true => kn ls (.ref x :: st) M
    | false => none
  | some (some .null) => match Nat.beq ct 2 with
    | true => kn ls (.null :: st) M
    | false => none
  | some (some (.retAddr x)) => match Nat.beq ct 2 with
    | true => kn ls (.retAddr x :: st) M
    | false => none
  | _ => none
def zm_st (kn : zm_N) (ct i : Nat) (ls : List (Option Value)) (st : List Value) (M : zm_I) : zm_R := match st with
  | .int x :: r => match Nat.beq ct 0 && Nat.ble (i + 1) ls.length with
    | true => kn ((zm_clr ls i).set i (some (.int x))) r M
    | false => none
  | .long x :: r => match Nat.beq ct 1 && Nat.ble (i + 2) ls.length with
    | true => kn (((zm_clr ls i).set i (some (.long x))).set (i + 1) none) r M
    | false => none
  | .ref x :: r => match Nat.beq ct 2 && Nat.ble (i + 1) ls.length with
    | true => kn ((zm_clr ls i).set i (some (.ref x))) r M
    | false => none
  | .null :: r => match Nat.beq ct 2 && Nat.ble (i + 1) ls.length with
    | true => kn ((zm_clr ls i).set i (some .null)) r M
    | false => none
  | _ => none
def zm_b2 (kn : zm_N) (f : Int32 → Int32 → Int32) (ls : List (Option Value)) (st : List Value) (M : zm_I) : zm_R := match st with
  | .int y :: .int x :: r => kn ls (.int (f x y) :: r) M
  | _ => none
def zm_b2z (kn : zm_N) (f : Int32 → Int32 → Int32) (ls : List (Option Value)) (st : List Value) (M : zm_I) : zm_R := match st with
  | .int y :: .int x :: r => if y = 0 then none else kn ls (.int (f x y) :: r) M
  | _ => none
def zm_l2 (kn : zm_N) (f : Int64 → Int64 → Int64) (ls : List (Option Value)) (st : List Value) (M : zm_I) : zm_R := match st with
  | .long y :: .long x :: r => kn ls (.long (f x y) :: r) M
  | _ => none
def zm_l2z (kn : zm_N) (f : Int64 → Int64 → Int64) (ls : List (Option Value)) (st : List Value) (M : zm_I) : zm_R := match st with
  | .long y :: .long x :: r => if y = 0 then none else kn ls (.long (f x y) :: r) M
  | _ => none
def zm_ls (kn : zm_N) (f : Int64 → Int32 → Int64) (ls : List (Option Value)) (st : List Value) (M : zm_I) : zm_R := match st with
  | .int y :: .long x :: r => kn ls (.long (f x y) :: r) M
  | _ => none
def zm_u (kn : zm_N) (f : Int32 → Int32) (ls : List (Option Value)) (st : List Value) (M : zm_I) : zm_R := match st with
  | .int x :: r => kn ls (.int (f x) :: r) M
  | _ => none
def zm_m2 (kn : zm_N) (f : Int32 → Int32 → Int32) (ls : List (Option Value)) (st : List Value) (M : zm_I) : zm_R := match st with
  | .int y :: .int x :: r => match Nat.ble (r.map fun v => v.category).sum 8 with
    | true => kn ls (.int (f x y) :: r) M
    | false => none
  | _ => none
def zm_m1 (kn : zm_N) (f : Int32 → Int32) (ls : List (Option Value)) (st : List Value) (M : zm_I) : zm_R := match st with
  | .int x :: r => match Nat.ble (r.map fun v => v.category).sum 8 with
    | true => kn ls (.int (f x) :: r) M
    | false => none
  | _ => none
def zm_if1 (k : zm_S → zm_R) (kn : zm_N) (c : ClassFile.Cond) (pc : Nat) (off : Int) (ls : List (Option Value)) (st : List Value) (M : zm_I) : zm_R := match st with
  | .int x :: r => match c with
    | .eq => if x = 0 then k (zm_tg pc off, ls, r, M) else kn ls r M
    | .ne => if x = 0 then kn ls r M else k (zm_tg pc off, ls, r, M)
    | .lt => if x < 0 then k (zm_tg pc off, ls, r, M) else kn ls r M
    | .ge => if 0 ≤ x then k (zm_tg pc off, ls, r, M) else kn ls r M
    | .gt => if 0 < x then k (zm_tg pc off, ls, r, M) else kn ls r M
    | .le => if x ≤ 0 then k (zm_tg pc off, ls, r, M) else kn ls r M
  | _ => none
def zm_if2 (k : zm_S → zm_R) (kn : zm_N) (c : ClassFile.Cond) (pc : Nat) (off : Int) (ls : List (Option Value)) (st : List Value) (M : zm_I) : zm_R := match st with
  | .int y :: .int x :: r => match c with
    | .eq => if x = y then k (zm_tg pc off, ls, r, M) else kn ls r M
    | .ne => if x = y then kn ls r M else k (zm_tg pc off, ls, r, M)
    | .lt => if x < y then k (zm_tg pc off, ls, r, M) else kn ls r M
    | .ge => if y ≤ x then k (zm_tg pc off, ls, r, M) else kn ls r M
    | .gt => if y < x then k (zm_tg pc off, ls, r, M) else kn ls r M
    | .le => if x ≤ y then k (zm_tg pc off, ls, r, M) else kn ls r M
  | _ => none
def zm_sw (k : zm_S → zm_R) (pc : Nat) (d lo hi : Int) (os : Array Int) (ls : List (Option Value)) (st : List Value) (M : zm_I) : zm_R := match st with
  | .int x :: r => if x.toInt < lo ∨ hi < x.toInt then k (zm_tg pc d, ls, r, M) else match os[(x.toInt - lo).toNat]? with
    | some off => k (zm_tg pc off, ls, r, M)
    | none => none
  | _ => none
def zm_gf (kn : zm_N) (wl : zm_L) (ci f : Nat) (ls : List (Option Value)) (st : List Value) (M : zm_I) : zm_R := match st with
  | .ref n :: r => match wl[n]? with
    | some (.inl c, rs) => match Nat.beq c ci with
      | true => kn ls (zm_vA M n rs (zm_ty ci f) f :: r) M
      | false => none
    | _ => none
  | _ => none
def zm_fin (ci f : Nat) : Bool := match zm_cl[ci]? with
  | some r => (r.2.1 f).2.2.2
  | none => true
def zm_pf (kn : zm_N) (wl : zm_L) (ci f : Nat) (ls : List (Option Value)) (st : List Value) (M : zm_I) : zm_R := match zm_fin ci f with
  | true => none
  | false => match st with
    | .int x :: .ref n :: r => match wl[n]? with
      | some (.inl c, _) => match Nat.beq c ci with
        | true => match zm_ty ci f with
          | .int => kn ls r (zm_w M.1 n f x, M.2)
          | .boolean => if x = 0 ∨ x = 1 then kn ls r (zm_w M.1 n f x, M.2) else none
          | _ => none
        | false => none
      | _ => none
    | .long x :: .ref n :: r => match wl[n]? with
      | some (.inl c, _) => match Nat.beq c ci with
        | true => match zm_ty ci f with
          | .long => kn ls r (M.1, zm_wl M.2 n f x)
          | _ => none
        | false => none
      | _ => none
    | _ => none
def zm_al (kn : zm_N) (sc : Option (Nat × (Nat → Int32))) (wl : zm_L) (ct : Nat) (ls : List (Option Value)) (st : List Value) (M : zm_I) : zm_R := match st with
  | .int i :: .ref n :: r => match wl[n]? with
    | some (.inr (ty, len), rs) => if i < 0 ∨ len ≤ i.toNatClampNeg then none else match ty with
      | .int => match Nat.beq ct 0 with
        | true => kn ls (.int (M.1 n i.toNatClampNeg) :: r) M
        | false => none
      | .long => match Nat.beq ct 1 with
        | true => kn ls (.long (M.2 n i.toNatClampNeg) :: r) M
        | false => none
      | .byte => match Nat.beq ct 2 with
        | true => kn ls (.int (M.1 n i.toNatClampNeg) :: r) M
        | false => none
      | .boolean => match Nat.beq ct 2 with
        | true => kn ls (.int (M.1 n i.toNatClampNeg) :: r) M
        | false => none
      | .object _ => match Nat.beq ct 3 with
        | true => match rs.getD i.toNatClampNeg .null with
          | .ref q => kn ls (.ref q :: r) M
          | .null => kn ls (.null :: r) M
          | _ => none
        | false => none
      | _ => none
    | _ => none
  | .int i :: .retAddr q :: r => match Nat.beq q 100 && Nat.beq ct 0 with
    | true => match sc with
      | some x => if i < 0 ∨ x.1 ≤ i.toNatClampNeg then none else kn ls (.int (x.2 i.toNatClampNeg) :: r) M
      | none => none
    | false => none
  | _ => none
def zm_as (kn : zm_N) (wl : zm_L) (ct : Nat) (ls : List (Option Value)) (st : List Value) (M : zm_I) : zm_R := match st with
  | .int x :: .int i :: .ref n :: r => match wl[n]? with
    | some (.inr (ty, len), _) => if i < 0 ∨ len ≤ i.toNatClampNeg then none else match ty with
      | .int => match Nat.beq ct 0 with
        | true => kn ls r (zm_w M.1 n i.toNatClampNeg x, M.2)
        | false => none
      | .byte => match Nat.beq ct 2 with
        | true => kn ls r (zm_w M.1 n i.toNatClampNeg (vp_nar .byte x), M.2)
        | false => none
      | .boolean => match Nat.beq ct 2 with
        | true => kn ls r (zm_w M.1 n i.toNatClampNeg (vp_nar .boolean x), M.2)
        | false => none
      | _ => none
    | _ => none
  | .long x :: .int i :: .ref n :: r => match wl[n]? with
    | some (.inr (ty, len), _) => if i < 0 ∨ len ≤ i.toNatClampNeg then none else match ty with
      | .long => match Nat.beq ct 1 with
        | true => kn ls r (M.1, zm_wl M.2 n i.toNatClampNeg x)
        | false => none
      | _ => none
    | _ => none
  | _ => none
def zm_aln (kn : zm_N) (sc : Option (Nat × (Nat → Int32))) (wl : zm_L) (ls : List (Option Value)) (st : List Value) (M : zm_I) : zm_R := match st with
  | .ref n :: r => match wl[n]? with
    | some (.inr (ty, len), _) => match ty with
      | .int => kn ls (.int (Int32.ofNat len) :: r) M
      | .long => kn ls (.int (Int32.ofNat len) :: r) M
      | _ => none
    | _ => none
  | .retAddr q :: r => match Nat.beq q 100 with
    | true => match sc with
      | some x => kn ls (.int (Int32.ofNat x.1) :: r) M
      | none => none
    | false => none
  | _ => none
def zm_cst (kn : zm_N) (T : zm_T) (ct idx : Nat) (ls : List (Option Value)) (st : List Value) (M : zm_I) : zm_R := match zm_look T.2.1 idx with
  | some (.int v) => match Nat.beq ct 0 with
    | true => kn ls (.int v :: st) M
    | false => match Nat.beq ct 2 with
      | true => kn ls (.int v :: st) M
      | false => none
  | some (.long v) => match Nat.beq ct 1 with
    | true => kn ls (.long v :: st) M
    | false => none
  | some (.retAddr v) => match Nat.beq ct 0 with
    | true => kn ls (.retAddr v :: st) M
    | false => none
  | _ => none
def zm_cl3 (kn : zm_N) (T : zm_T) (wl : zm_L) (ct idx : Nat) (ls : List (Option Value)) (st : List Value) (M : zm_I) : zm_R := match zm_look T.2.2.1 idx with
  | some C => match Nat.ble C.1 st.length && Nat.ble ((st.drop C.1).map fun v => v.category).sum 8 && (match C.2.1 with
    | some _ => Nat.beq ct 0
    | none => Nat.beq ct 1) with
    | true => zm_app C wl (st.take C.1).reverse M (fun v N => kn ls (v.toList ++ st.drop C.1) N)
    | false => none
  | none => none
def zm_ret (T : zm_T) (ct : Nat) (st : List Value) (M : zm_I) : zm_R := match st with
  | [] => match T.2.2.2.1 with
    | none => match Nat.beq ct 3 with
      | true => some (none, M)
      | false => none
    | _ => none
  | [.int x] => match Nat.beq ct 0 with
    | false => none
    | true => match T.2.2.2.1 with
      | some .int => some (some (.int x), M)
      | some .boolean => if x = 0 ∨ x = 1 then some (some (.int x), M) else none
      | _ => none
  | [.long x] => match Nat.beq ct 1 with
    | false => none
    | true => match T.2.2.2.1 with
      | some .long => some (some (.long x), M)
      | _ => none
  | [.ref x] => match Nat.beq ct 2 with
    | false => none
    | true => match T.2.2.2.1 with
      | some (.object _) => some (some (.ref x), M)
      | _ => none
  | [.null] => match Nat.beq ct 2 with
    | false => none
    | true => match T.2.2.2.1 with
      | some (.object _) => some (some .null, M)
      | _ => none
  | _ => none
def zm_stk (k : zm_S → zm_R) (kn : zm_N) (i : Instr) (pc : Nat) (ls : List (Option Value)) (st : List Value) (M : zm_I) : zm_R := match i with
  | .i2l => match st with
    | .int x :: r => kn ls (.long x.toInt64 :: r) M
    | _ => none
  | .l2i => match st with
    | .long x :: r => kn ls (.int x.toInt32 :: r) M
    | _ => none
  | .lcmp => match st with
    | .long y :: .long x :: r => kn ls (.int (lg_cmp x y) :: r) M
    | _ => none
  | .dup => match st with
    | .int x :: r => kn ls (.int x :: .int x :: r) M
    | .ref x :: r => kn ls (.ref x :: .ref x :: r) M
    | _ => none
  | .dup2 => match st with
    | .int x :: .ref y :: r => kn ls (.int x :: .ref y :: .int x :: .ref y :: r) M
    | .long x :: r => kn ls (.long x :: .long x :: r) M
    | _ => none
  | .pop => match st with
    | .int _ :: r => kn ls r M
    | _ => none
  | .ifnull off => match st with
    | .null :: r => k (zm_tg pc off, ls, r, M)
    | .ref _ :: r => kn ls r M
    | _ => none
  | .ifnonnull off => match st with
    | .ref _ :: r => k (zm_tg pc off, ls, r, M)
    | .null :: r => kn ls r M
    | _ => none
  | .iinc i n => match ls[i]? with
    | some (some (.int x)) => kn ((zm_clr ls i).set i (some (.int (x + Int32.ofInt n)))) st M
    | _ => none
  | _ => none
def zm_ins (T : zm_T) (wl : zm_L) (k : zm_S → zm_R) (kn : zm_N) (i : Instr) (a b pc : Nat) (ls : List (Option Value)) (st : List Value) (M : zm_I) : zm_R := match i with
  | .iload_n x => zm_ld kn 0 x.val ls st M
  | .iload x => zm_ld kn 0 x ls st M
  | .lload_n x => zm_ld kn 1 x.val ls st M
  | .lload x => zm_ld kn 1 x ls st M
  | .aload_n x => zm_ld kn 2 x.val ls st M
  | .aload x => zm_ld kn 2 x ls st M
  | .istore_n x => zm_st kn 0 x.val ls st M
  | .istore x => zm_st kn 0 x ls st M
  | .lstore_n x => zm_st kn 1 x.val ls st M
  | .lstore x => zm_st kn 1 x ls st M
  | .astore_n x => zm_st kn 2 x.val ls st M
  | .astore x => zm_st kn 2 x ls st M
  | .iconst n => kn ls (.int (Int32.ofInt n) :: st) M
  | .bipush n => kn ls (.int (Int8.ofInt n).toInt32 :: st) M
  | .sipush n => kn ls (.int (Int16.ofInt n).toInt32 :: st) M
  | .lconst n => kn ls (.long (Int64.ofNat n.val) :: st) M
  | .aconst_null => kn ls (.null :: st) M
  | .ldc x => zm_cst kn T 0 x ls st M
  | .ldc_w x => zm_cst kn T 2 x ls st M
  | .ldc2_w x => zm_cst kn T 1 x ls st M
  | .iadd => zm_b2 kn (fun x y => x + y) ls st M
  | .isub => zm_b2 kn (fun x y => x - y) ls st M
  | .imul => zm_b2 kn (fun x y => x * y) ls st M
  | .iand => zm_b2 kn (fun x y => x &&& y) ls st M
  | .ior => zm_b2 kn (fun x y => x ||| y) ls st M
  | .ixor => zm_b2 kn (fun x y => x ^^^ y) ls st M
  | .ishl => zm_b2 kn (fun x y => x <<< (y &&& 31)) ls st M
  | .ishr => zm_b2 kn (fun x y => x >>> (y &&& 31)) ls st M
  | .iushr => zm_b2 kn (fun x y => (x.toUInt32 >>> (y.toUInt32 &&& Int32.toUInt32 31)).toInt32) ls st M
  | .idiv => zm_b2z kn (fun x y => x / y) ls st M
  | .irem => zm_b2z kn (fun x y => x - x / y * y) ls st M
  | .ineg => zm_u kn (fun x => -x) ls st M
  | .i2b => zm_u kn (fun x => x.toInt8.toInt32) ls st M
  | .i2s => zm_u kn (fun x => x.toInt16.toInt32) ls st M
  | .ladd => zm_l2 kn (fun x y => x + y) ls st M
  | .lsub => zm_l2 kn (fun x y => x - y) ls st M
  | .lmul => zm_l2 kn (fun x y => x * y) ls st M
  | .land => zm_l2 kn (fun x y => x &&& y) ls st M
  | .lor => zm_l2 kn (fun x y => x ||| y) ls st M
  | .ldiv => zm_l2z kn (fun x y => x / y) ls st M
  | .lrem => zm_l2z kn (fun x y => x - x / y * y) ls st M
  | .lshl => zm_ls kn (fun x y => x <<< (y.toInt64 &&& 63)) ls st M
  | .lshr => zm_ls kn (fun x y => x >>> (y.toInt64 &&& 63)) ls st M
  | .lushr => zm_ls kn (fun x y => (x.toUInt64 >>> (y.toInt64.toUInt64 &&& Int64.toUInt64 63)).toInt64) ls st M
  | .ifCond c off => zm_if1 k kn c pc off ls st M
  | .if_icmp c off => zm_if2 k kn c pc off ls st M
  | .goto off => k (zm_tg pc off, ls, st, M)
  | .tableswitch d lo hi os => zm_sw k pc d lo hi os ls st M
  | .getfield x => zm_gf kn wl a b ls st M
  | .putfield x => zm_pf kn wl a b ls st M
  | .iaload => zm_al kn T.2.2.2.2 wl 0 ls st M
  | .laload => zm_al kn T.2.2.2.2 wl 1 ls st M
  | .baload => zm_al kn T.2.2.2.2 wl 2 ls st M
  | .aaload => zm_al kn T.2.2.2.2 wl 3 ls st M
  | .iastore => zm_as kn wl 0 ls st M
  | .lastore => zm_as kn wl 1 ls st M
  | .bastore => zm_as kn wl 2 ls st M
  | .arraylength => zm_aln kn T.2.2.2.2 wl ls st M
  | .invokevirtual x => zm_cl3 kn T wl 0 x ls st M
  | .invokestatic x => match a with
    | 0 => zm_cl3 kn T wl 1 x ls st M
    | 1 => zm_m2 kn (fun x y => if x < y then y else x) ls st M
    | 2 => zm_m2 kn (fun x y => if y < x then y else x) ls st M
    | _ => zm_m1 kn (fun x => if 0 ≤ x then x else 0 - x) ls st M
  | .ireturn => zm_ret T 0 st M
  | .lreturn => zm_ret T 1 st M
  | .areturn => zm_ret T 2 st M
  | .return_ => zm_ret T 3 st M
  | i => zm_stk k kn i pc ls st M
def zm_seq (T : zm_T) (wl : zm_L) (k : zm_S → zm_R) : List (Instr × Nat × Nat) → Nat → zm_N
  | [], pc => fun ls st M => k (pc, ls, st, M)
  | (i, a, b) :: r, pc => fun ls st M => zm_ins T wl k (zm_seq T wl k r (pc + zm_len i)) i a b pc ls st M
def zm_step (T : zm_T) (wl : zm_L) (k : zm_S → zm_R) (S : zm_S) : zm_R := match zm_look T.1 S.1 with
  | some c => zm_seq T wl k c S.1 S.2.1 S.2.2.1 S.2.2.2
  | none => none
def zm_run (T : zm_T) (wl : zm_L) : Nat → zm_S → zm_R
  | 0 => fun _ => none
  | n + 1 => zm_step T wl (zm_run T wl n)
def zm_sl : List Value → List (Option Value)
  | [] => []
  | v :: r => match v with
    | .long x => some (.long x) :: none :: zm_sl r
    | .double x => some (.double x) :: none :: zm_sl r
    | v => some v :: zm_sl r
def zm_pad : Nat → List (Option Value) → List (Option Value)
  | 0, _ => []
  | n + 1, [] => none :: zm_pad n []
  | n + 1, v :: r => v :: zm_pad n r
def zm_F (V : zm_T → zm_L → zm_S → zm_R) (T : zm_T) (nL : Nat) (wl : zm_L) (as : List Value) (M : zm_I) : zm_R := match Nat.ble (zm_sl as).length nL with
  | true => V T wl (0, zm_pad nL (zm_sl as), [], M)
  | false => none
