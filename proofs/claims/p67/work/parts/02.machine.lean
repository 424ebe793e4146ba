/-! 02.machine, 03.sound, 04.step, 05.call, 06.all, 07.value -/
section
/-! THE MACHINE OF ROWS: a method's bytecode run over handles (numbers of cells), pure; proved once against the real machine. -/
abbrev zm_cl : List vw_C := [(RX0, TX0, 17), (RX1, TX1, 5), (RX2, TX2, 10), (RX3, TX3, 4), (RX4, TX4, 3), (RX5, TX5, 3), (RX6, TX6, 7), (RX7, TX7, 3), (RX8, TX8, 7), (RX9, TX9, 13), (RX10, TX10, 53)]
def zm_ty (ci f : Nat) : FieldType := match ci with
  | 0 => tyX0 f
  | 1 => tyX1 f
  | 2 => tyX2 f
  | 3 => tyX3 f
  | 4 => tyX4 f
  | 5 => tyX5 f
  | 6 => tyX6 f
  | 7 => tyX7 f
  | 8 => tyX8 f
  | 9 => tyX9 f
  | _ => tyX10 f
def zm_nf (ci : Nat) : Nat := match ci with
  | 0 => 17
  | 1 => 5
  | 2 => 10
  | 3 => 4
  | 4 => 3
  | 5 => 3
  | 6 => 7
  | 7 => 3
  | 8 => 7
  | 9 => 13
  | _ => 53
def zm_tbl : List Jvm.Cond := lw_tbl.filter goodWord
theorem zm_good : GoodIn zm_tbl zm_tbl := fun w hw => ⟨hw, good_of_word (List.mem_filter.mp hw).2⟩
abbrev zm_D : Type := Nat ⊕ (FieldType × Nat)
abbrev zm_L : Type := List (zm_D × List Value)
abbrev zm_I : Type := (Nat → Nat → Int32) × (Nat → Nat → Int64)
abbrev zm_R : Type := Option (Option Value × zm_I)
abbrev zm_S : Type := Nat × List (Option Value) × List Value × zm_I
/-- arguments, the receiver's class, whether in the caller's own space, the blocks (argument's place, size), what it does -/
abbrev zm_C : Type := Nat × Option Nat × Bool × List (Nat × Nat) × (zm_L → List Value → zm_I → zm_R)
/-- code by stretches (each instruction with its field's class and number), constants, calls, what is returned; the script, for the law alone -/
abbrev zm_T : Type := List (Nat × List (Instr × Nat × Nat)) × List (Nat × Value) × List (Nat × zm_C) × Option FieldType × Option (Nat × (Nat → Int32))
abbrev zm_N : Type := List (Option Value) → List Value → zm_I → zm_R
def zm_look {α : Type} : List (Nat × α) → Nat → Option α
  | [], _ => none
  | (k, a) :: r, n => match Nat.beq n k with
    | true => some a
    | false => zm_look r n
def zm_cv (h : Nat → Nat → Nat) : Value → Value
  | .ref n => .ref (h 0 n)
  | .retAddr k => .ref (h 1 k)
  | v => v
def zm_vA (M : zm_I) (n : Nat) (rs : List Value) (ty : FieldType) (k : Nat) : Value := match ty with
  | .long => .long (M.2 n k)
  | .array _ => rs.getD k .null
  | .object _ => rs.getD k .null
  | _ => .int (M.1 n k)
def zm_rr (h : Nat → Nat → Nat) (v : Value) : Option Nat := match v with
  | .ref n => some (h 0 n)
  | .retAddr k => some (h 1 k)
  | _ => none
def zm_row (h : Nat → Nat → Nat) (M : zm_I) (n : Nat) (rs : List Value) (ty : FieldType) : (Nat → Int32) ⊕ (Nat → Int64) ⊕ (Nat → UInt32) ⊕ (Nat → UInt64) ⊕ (Nat → Option Nat) := match ty with
  | .long => .inr (.inl (M.2 n))
  | .object _ => .inr (.inr (.inr (.inr (fun i => zm_rr h (rs.getD i .null)))))
  | _ => .inl (M.1 n)
def zm_e (cA : FieldType → ClassId) (h : Nat → Nat → Nat) (M : zm_I) (n : Nat) (d : zm_D × List Value) : va_E := match d.1 with
  | .inl ci => .inr (ci, (List.range (zm_nf ci)).map (fun f => zm_cv h (zm_vA M n d.2 (zm_ty ci f) f)))
  | .inr (ty, len) => .inl (cA ty, len, zm_row h M n d.2 ty)
def zm_ws (cA : FieldType → ClassId) (h : Nat → Nat → Nat) (wl : zm_L) (M : zm_I) : va_W := wl.mapIdx (fun n d => (h 0 n, zm_e cA h M n d))
def zm_tys (cA : FieldType → ClassId) : List (ClassId × FieldType) := [(cA .int, .int), (cA .long, .long), (cA .byte, .byte), (cA .boolean, .boolean), (cA (.object RX0), .object RX0), (cA (.object RX2), .object RX2), (cA (.object RX7), .object RX7)]
-- memory written
def zm_w (I : Nat → Nat → Int32) (n i : Nat) (x : Int32) : Nat → Nat → Int32 := fun a b => if a = n ∧ b = i then x else I a b
def zm_wl (J : Nat → Nat → Int64) (n i : Nat) (x : Int64) : Nat → Nat → Int64 := fun a b => if a = n ∧ b = i then x else J a b
-- locals
def zm_clr (ls : List (Option Value)) : Nat → List (Option Value)
  | 0 => ls
  | j + 1 => match ls[j]? with
    | some (some (.long _)) => ls.set j none
    | some (some (.double _)) => ls.set j none
    | _ => ls
def zm_len : Instr → Nat
  | .iload _ => 2
  | .lload _ => 2
  | .aload _ => 2
  | .istore _ => 2
  | .lstore _ => 2
  | .astore _ => 2
  | .bipush _ => 2
  | .ldc _ => 2
  | .sipush _ => 3
  | .ldc_w _ => 3
  | .ldc2_w _ => 3
  | .iinc _ _ => 3
  | .if_icmp _ _ => 3
  | .ifCond _ _ => 3
  | .goto _ => 3
  | .getfield _ => 3
  | .putfield _ => 3
  | .ifnull _ => 3
  | .ifnonnull _ => 3
  | .invokevirtual _ => 3
  | .invokestatic _ => 3
  | .invokespecial _ => 3
  | _ => 1
def zm_isSw : Instr → Bool
  | .tableswitch _ _ _ _ => true
  | _ => false
def zm_offs : Instr → List Int
  | .if_icmp _ o => [o]
  | .ifCond _ o => [o]
  | .goto o => [o]
  | .ifnull o => [o]
  | .ifnonnull o => [o]
  | .tableswitch d _ _ os => d :: os.toList
  | _ => []
def zm_dec (cc : ByteArray) (pc : Nat) (i : Instr) : Bool := match decode cc pc with
  | .ok (j, len) => decide (j = i) && (len == zm_len i || zm_isSw i) && (zm_offs i).all (fun o => decide (0 ≤ (pc : Int) + o))
  | _ => false
def zm_tg (pc : Nat) (off : Int) : Nat := ((pc : Int) + off).toNat
-- the blocks of a call
def zm_fw : List (Nat × Nat) → Nat → Nat
  | [], k => k
  | (n, z) :: bs, k => if k < z then n + k else zm_fw bs (k - z)
def zm_iv : List (Nat × Nat) → Nat → Nat
  | [], n => n
  | (a, z) :: bs, n => if a ≤ n ∧ n < a + z then n - a else z + zm_iv bs n
def zm_in : List (Nat × Nat) → Nat → Bool
  | [], _ => false
  | (a, z) :: bs, n => (Nat.ble a n && Nat.ble (n + 1) (a + z)) || zm_in bs n
def zm_tot : List (Nat × Nat) → Nat
  | [] => 0
  | (_, z) :: bs => z + zm_tot bs
def zm_apart (a z : Nat) : List (Nat × Nat) → Bool
  | [] => true
  | (b, y) :: bs => (Nat.ble (a + z) b || Nat.ble (b + y) a) && zm_apart a z bs
def zm_dis : List (Nat × Nat) → Bool
  | [] => true
  | (a, z) :: bs => zm_apart a z bs && zm_dis bs
def zm_bound (N : Nat) : List (Nat × Nat) → Bool
  | [] => true
  | (a, z) :: bs => Nat.ble (a + z) N && zm_bound N bs
def zm_hr (h : Nat → Nat → Nat) (bs : List (Nat × Nat)) : Nat → Nat → Nat := fun a n => match a with
  | 0 => h 0 (zm_fw bs n)
  | a + 1 => h (a + 1) n
def zm_tr (bs : List (Nat × Nat)) : Value → Value
  | .ref n => .ref (zm_iv bs n)
  | v => v
def zm_bk (bs : List (Nat × Nat)) : Value → Value
  | .ref n => .ref (zm_fw bs n)
  | v => v
def zm_blocks (as : List Value) : List (Nat × Nat) → Option (List (Nat × Nat))
  | [] => some []
  | (q, z) :: r => match as[q]? with
    | some (.ref n) => match zm_blocks as r with
      | some bs => some ((n, z) :: bs)
      | none => none
    | _ => none
def zm_sub (bs : List (Nat × Nat)) (wl : zm_L) : zm_L := (List.range (zm_tot bs)).map (fun k => match wl[zm_fw bs k]? with
  | some d => (d.1, d.2.map (zm_tr bs))
  | none => (.inl 0, []))
def zm_mrg (bs : List (Nat × Nat)) (M N : zm_I) : zm_I := (fun n i => match zm_in bs n with
  | true => N.1 (zm_iv bs n) i
  | false => M.1 n i, fun n i => match zm_in bs n with
  | true => N.2 (zm_iv bs n) i
  | false => M.2 n i)
def zm_isO (wl : zm_L) (ci : Nat) : Value → Bool
  | .ref n => match wl[n]? with
    | some (.inl c, _) => Nat.beq c ci
    | _ => false
  | .retAddr k => Nat.beq ci 99 && Nat.ble (k + 1) 13
  | _ => false
def zm_recv (wl : zm_L) (as : List Value) : Option Nat → Bool
  | none => true
  | some ci => match as with
    | v :: _ => zm_isO wl ci v
    | [] => false
def zm_app (C : zm_C) (wl : zm_L) (as : List Value) (M : zm_I) (k : Option Value → zm_I → zm_R) : zm_R := match zm_recv wl as C.2.1 with
  | false => none
  | true => match C.2.2.1 with
    | true => match C.2.2.2.2 wl as M with
      | some (v, N) => k v N
      | none => none
    | false => match zm_blocks as C.2.2.2.1 with
      | none => none
      | some bs => match zm_dis bs && zm_bound wl.length bs with
        | false => none
        | true => match C.2.2.2.2 (zm_sub bs wl) (as.map (zm_tr bs)) (fun n => M.1 (zm_fw bs n), fun n => M.2 (zm_fw bs n)) with
          | some (v, N) => k (v.map (zm_bk bs)) (zm_mrg bs M N)
          | none => none
-- the instructions, by kinds
def zm_ld (kn : zm_N) (ct i : Nat) (ls : List (Option Value)) (st : List Value) (M : zm_I) : zm_R := match ls[i]? with
  | some (some (.int x)) => match Nat.beq ct 0 with
    | true => kn ls (.int x :: st) M
    | false => none
  | some (some (.long x)) => match Nat.beq ct 1 with
    | true => kn ls (.long x :: st) M
    | false => none
  | some (some (.ref x)) => match Nat.beq ct 2 with
    | true => kn ls (.ref x :: st) M
    | false => none
  | some (some .null) => match Nat.beq ct 2 with
    | true => kn ls (.null :: st) M
    | false => none
  | some (some (.retAddr x)) => match Nat.beq ct 2 with
    | true => kn ls (.retAddr x :: st) M
    | false => none
  | _ => none
def zm_st (kn : zm_N) (ct i : Nat) (ls : List (Option Value)) (st : List Value) (M : zm_I) : zm_R := match st with
  | .int x :: r => match Nat.beq ct 0 && Nat.ble (i + 1) ls.length with
    | true => kn ((zm_clr ls i).set i (some (.int x))) r M
    | false => none
  | .long x :: r => match Nat.beq ct 1 && Nat.ble (i + 2) ls.length with
    | true => kn (((zm_clr ls i).set i (some (.long x))).set (i + 1) none) r M
    | false => none
  | .ref x :: r => match Nat.beq ct 2 && Nat.ble (i + 1) ls.length with
    | true => kn ((zm_clr ls i).set i (some (.ref x))) r M
    | false => none
  | .null :: r => match Nat.beq ct 2 && Nat.ble (i + 1) ls.length with
    | true => kn ((zm_clr ls i).set i (some .null)) r M
    | false => none
  | _ => none
def zm_b2 (kn : zm_N) (f : Int32 → Int32 → Int32) (ls : List (Option Value)) (st : List Value) (M : zm_I) : zm_R := match st with
  | .int y :: .int x :: r => kn ls (.int (f x y) :: r) M
  | _ => none
def zm_b2z (kn : zm_N) (f : Int32 → Int32 → Int32) (ls : List (Option Value)) (st : List Value) (M : zm_I) : zm_R := match st with
  | .int y :: .int x :: r => if y = 0 then none else kn ls (.int (f x y) :: r) M
  | _ => none
def zm_l2 (kn : zm_N) (f : Int64 → Int64 → Int64) (ls : List (Option Value)) (st : List Value) (M : zm_I) : zm_R := match st with
  | .long y :: .long x :: r => kn ls (.long (f x y) :: r) M
  | _ => none
def zm_l2z (kn : zm_N) (f : Int64 → Int64 → Int64) (ls : List (Option Value)) (st : List Value) (M : zm_I) : zm_R := match st with
  | .long y :: .long x :: r => if y = 0 then none else kn ls (.long (f x y) :: r) M
  | _ => none
def zm_ls (kn : zm_N) (f : Int64 → Int32 → Int64) (ls : List (Option Value)) (st : List Value) (M : zm_I) : zm_R := match st with
  | .int y :: .long x :: r => kn ls (.long (f x y) :: r) M
  | _ => none
def zm_u (kn : zm_N) (f : Int32 → Int32) (ls : List (Option Value)) (st : List Value) (M : zm_I) : zm_R := match st with
  | .int x :: r => kn ls (.int (f x) :: r) M
  | _ => none
def zm_m2 (kn : zm_N) (f : Int32 → Int32 → Int32) (ls : List (Option Value)) (st : List Value) (M : zm_I) : zm_R := match st with
  | .int y :: .int x :: r => match Nat.ble (r.map fun v => v.category).sum 8 with
    | true => kn ls (.int (f x y) :: r) M
    | false => none
  | _ => none
def zm_m1 (kn : zm_N) (f : Int32 → Int32) (ls : List (Option Value)) (st : List Value) (M : zm_I) : zm_R := match st with
  | .int x :: r => match Nat.ble (r.map fun v => v.category).sum 8 with
    | true => kn ls (.int (f x) :: r) M
    | false => none
  | _ => none
def zm_if1 (k : zm_S → zm_R) (kn : zm_N) (c : ClassFile.Cond) (pc : Nat) (off : Int) (ls : List (Option Value)) (st : List Value) (M : zm_I) : zm_R := match st with
  | .int x :: r => match c with
    | .eq => if x = 0 then k (zm_tg pc off, ls, r, M) else kn ls r M
    | .ne => if x = 0 then kn ls r M else k (zm_tg pc off, ls, r, M)
    | .lt => if x < 0 then k (zm_tg pc off, ls, r, M) else kn ls r M
    | .ge => if 0 ≤ x then k (zm_tg pc off, ls, r, M) else kn ls r M
    | .gt => if 0 < x then k (zm_tg pc off, ls, r, M) else kn ls r M
    | .le => if x ≤ 0 then k (zm_tg pc off, ls, r, M) else kn ls r M
  | _ => none
def zm_if2 (k : zm_S → zm_R) (kn : zm_N) (c : ClassFile.Cond) (pc : Nat) (off : Int) (ls : List (Option Value)) (st : List Value) (M : zm_I) : zm_R := match st with
  | .int y :: .int x :: r => match c with
    | .eq => if x = y then k (zm_tg pc off, ls, r, M) else kn ls r M
    | .ne => if x = y then kn ls r M else k (zm_tg pc off, ls, r, M)
    | .lt => if x < y then k (zm_tg pc off, ls, r, M) else kn ls r M
    | .ge => if y ≤ x then k (zm_tg pc off, ls, r, M) else kn ls r M
    | .gt => if y < x then k (zm_tg pc off, ls, r, M) else kn ls r M
    | .le => if x ≤ y then k (zm_tg pc off, ls, r, M) else kn ls r M
  | _ => none
def zm_sw (k : zm_S → zm_R) (pc : Nat) (d lo hi : Int) (os : Array Int) (ls : List (Option Value)) (st : List Value) (M : zm_I) : zm_R := match st with
  | .int x :: r => if x.toInt < lo ∨ hi < x.toInt then k (zm_tg pc d, ls, r, M) else match os[(x.toInt - lo).toNat]? with
    | some off => k (zm_tg pc off, ls, r, M)
    | none => none
  | _ => none
def zm_gf (kn : zm_N) (wl : zm_L) (ci f : Nat) (ls : List (Option Value)) (st : List Value) (M : zm_I) : zm_R := match st with
  | .ref n :: r => match wl[n]? with
    | some (.inl c, rs) => match Nat.beq c ci with
      | true => kn ls (zm_vA M n rs (zm_ty ci f) f :: r) M
      | false => none
    | _ => none
  | _ => none
def zm_fin (ci f : Nat) : Bool := match zm_cl[ci]? with
  | some r => (r.2.1 f).2.2.2
  | none => true
def zm_pf (kn : zm_N) (wl : zm_L) (ci f : Nat) (ls : List (Option Value)) (st : List Value) (M : zm_I) : zm_R := match zm_fin ci f with
  | true => none
  | false => match st with
    | .int x :: .ref n :: r => match wl[n]? with
      | some (.inl c, _) => match Nat.beq c ci with
        | true => match zm_ty ci f with
          | .int => kn ls r (zm_w M.1 n f x, M.2)
          | .boolean => if x = 0 ∨ x = 1 then kn ls r (zm_w M.1 n f x, M.2) else none
          | _ => none
        | false => none
      | _ => none
    | .long x :: .ref n :: r => match wl[n]? with
      | some (.inl c, _) => match Nat.beq c ci with
        | true => match zm_ty ci f with
          | .long => kn ls r (M.1, zm_wl M.2 n f x)
          | _ => none
        | false => none
      | _ => none
    | _ => none
def zm_al (kn : zm_N) (sc : Option (Nat × (Nat → Int32))) (wl : zm_L) (ct : Nat) (ls : List (Option Value)) (st : List Value) (M : zm_I) : zm_R := match st with
  | .int i :: .ref n :: r => match wl[n]? with
    | some (.inr (ty, len), rs) => if i < 0 ∨ len ≤ i.toNatClampNeg then none else match ty with
      | .int => match Nat.beq ct 0 with
        | true => kn ls (.int (M.1 n i.toNatClampNeg) :: r) M
        | false => none
      | .long => match Nat.beq ct 1 with
        | true => kn ls (.long (M.2 n i.toNatClampNeg) :: r) M
        | false => none
      | .byte => match Nat.beq ct 2 with
        | true => kn ls (.int (M.1 n i.toNatClampNeg) :: r) M
        | false => none
      | .boolean => match Nat.beq ct 2 with
        | true => kn ls (.int (M.1 n i.toNatClampNeg) :: r) M
        | false => none
      | .object _ => match Nat.beq ct 3 with
        | true => match rs.getD i.toNatClampNeg .null with
          | .ref q => kn ls (.ref q :: r) M
          | .null => kn ls (.null :: r) M
          | _ => none
        | false => none
      | _ => none
    | _ => none
  | .int i :: .retAddr q :: r => match Nat.beq q 100 && Nat.beq ct 0 with
    | true => match sc with
      | some x => if i < 0 ∨ x.1 ≤ i.toNatClampNeg then none else kn ls (.int (x.2 i.toNatClampNeg) :: r) M
      | none => none
    | false => none
  | _ => none
def zm_as (kn : zm_N) (wl : zm_L) (ct : Nat) (ls : List (Option Value)) (st : List Value) (M : zm_I) : zm_R := match st with
  | .int x :: .int i :: .ref n :: r => match wl[n]? with
    | some (.inr (ty, len), _) => if i < 0 ∨ len ≤ i.toNatClampNeg then none else match ty with
      | .int => match Nat.beq ct 0 with
        | true => kn ls r (zm_w M.1 n i.toNatClampNeg x, M.2)
        | false => none
      | .byte => match Nat.beq ct 2 with
        | true => kn ls r (zm_w M.1 n i.toNatClampNeg (vp_nar .byte x), M.2)
        | false => none
      | .boolean => match Nat.beq ct 2 with
        | true => kn ls r (zm_w M.1 n i.toNatClampNeg (vp_nar .boolean x), M.2)
        | false => none
      | _ => none
    | _ => none
  | .long x :: .int i :: .ref n :: r => match wl[n]? with
    | some (.inr (ty, len), _) => if i < 0 ∨ len ≤ i.toNatClampNeg then none else match ty with
      | .long => match Nat.beq ct 1 with
        | true => kn ls r (M.1, zm_wl M.2 n i.toNatClampNeg x)
        | false => none
      | _ => none
    | _ => none
  | _ => none
def zm_aln (kn : zm_N) (sc : Option (Nat × (Nat → Int32))) (wl : zm_L) (ls : List (Option Value)) (st : List Value) (M : zm_I) : zm_R := match st with
  | .ref n :: r => match wl[n]? with
    | some (.inr (ty, len), _) => match ty with
      | .int => kn ls (.int (Int32.ofNat len) :: r) M
      | .long => kn ls (.int (Int32.ofNat len) :: r) M
      | _ => none
    | _ => none
  | .retAddr q :: r => match Nat.beq q 100 with
    | true => match sc with
      | some x => kn ls (.int (Int32.ofNat x.1) :: r) M
      | none => none
    | false => none
  | _ => none
def zm_cst (kn : zm_N) (T : zm_T) (ct idx : Nat) (ls : List (Option Value)) (st : List Value) (M : zm_I) : zm_R := match zm_look T.2.1 idx with
  | some (.int v) => match Nat.beq ct 0 with
    | true => kn ls (.int v :: st) M
    | false => match Nat.beq ct 2 with
      | true => kn ls (.int v :: st) M
      | false => none
  | some (.long v) => match Nat.beq ct 1 with
    | true => kn ls (.long v :: st) M
    | false => none
  | some (.retAddr v) => match Nat.beq ct 0 with
    | true => kn ls (.retAddr v :: st) M
    | false => none
  | _ => none
def zm_cl3 (kn : zm_N) (T : zm_T) (wl : zm_L) (ct idx : Nat) (ls : List (Option Value)) (st : List Value) (M : zm_I) : zm_R := match zm_look T.2.2.1 idx with
  | some C => match Nat.ble C.1 st.length && Nat.ble ((st.drop C.1).map fun v => v.category).sum 8 && (match C.2.1 with
    | some _ => Nat.beq ct 0
    | none => Nat.beq ct 1) with
    | true => zm_app C wl (st.take C.1).reverse M (fun v N => kn ls (v.toList ++ st.drop C.1) N)
    | false => none
  | none => none
def zm_ret (T : zm_T) (ct : Nat) (st : List Value) (M : zm_I) : zm_R := match st with
  | [] => match T.2.2.2.1 with
    | none => match Nat.beq ct 3 with
      | true => some (none, M)
      | false => none
    | _ => none
  | [.int x] => match Nat.beq ct 0 with
    | false => none
    | true => match T.2.2.2.1 with
      | some .int => some (some (.int x), M)
      | some .boolean => if x = 0 ∨ x = 1 then some (some (.int x), M) else none
      | _ => none
  | [.long x] => match Nat.beq ct 1 with
    | false => none
    | true => match T.2.2.2.1 with
      | some .long => some (some (.long x), M)
      | _ => none
  | [.ref x] => match Nat.beq ct 2 with
    | false => none
    | true => match T.2.2.2.1 with
      | some (.object _) => some (some (.ref x), M)
      | _ => none
  | [.null] => match Nat.beq ct 2 with
    | false => none
    | true => match T.2.2.2.1 with
      | some (.object _) => some (some .null, M)
      | _ => none
  | _ => none
def zm_stk (k : zm_S → zm_R) (kn : zm_N) (i : Instr) (pc : Nat) (ls : List (Option Value)) (st : List Value) (M : zm_I) : zm_R := match i with
  | .i2l => match st with
    | .int x :: r => kn ls (.long x.toInt64 :: r) M
    | _ => none
  | .l2i => match st with
    | .long x :: r => kn ls (.int x.toInt32 :: r) M
    | _ => none
  | .lcmp => match st with
    | .long y :: .long x :: r => kn ls (.int (lg_cmp x y) :: r) M
    | _ => none
  | .dup => match st with
    | .int x :: r => kn ls (.int x :: .int x :: r) M
    | .ref x :: r => kn ls (.ref x :: .ref x :: r) M
    | _ => none
  | .dup2 => match st with
    | .int x :: .ref y :: r => kn ls (.int x :: .ref y :: .int x :: .ref y :: r) M
    | .long x :: r => kn ls (.long x :: .long x :: r) M
    | _ => none
  | .pop => match st with
    | .int _ :: r => kn ls r M
    | _ => none
  | .ifnull off => match st with
    | .null :: r => k (zm_tg pc off, ls, r, M)
    | .ref _ :: r => kn ls r M
    | _ => none
  | .ifnonnull off => match st with
    | .ref _ :: r => k (zm_tg pc off, ls, r, M)
    | .null :: r => kn ls r M
    | _ => none
  | .iinc i n => match ls[i]? with
    | some (some (.int x)) => kn ((zm_clr ls i).set i (some (.int (x + Int32.ofInt n)))) st M
    | _ => none
  | _ => none
def zm_ins (T : zm_T) (wl : zm_L) (k : zm_S → zm_R) (kn : zm_N) (i : Instr) (a b pc : Nat) (ls : List (Option Value)) (st : List Value) (M : zm_I) : zm_R := match i with
  | .iload_n x => zm_ld kn 0 x.val ls st M
  | .iload x => zm_ld kn 0 x ls st M
  | .lload_n x => zm_ld kn 1 x.val ls st M
  | .lload x => zm_ld kn 1 x ls st M
  | .aload_n x => zm_ld kn 2 x.val ls st M
  | .aload x => zm_ld kn 2 x ls st M
  | .istore_n x => zm_st kn 0 x.val ls st M
  | .istore x => zm_st kn 0 x ls st M
  | .lstore_n x => zm_st kn 1 x.val ls st M
  | .lstore x => zm_st kn 1 x ls st M
  | .astore_n x => zm_st kn 2 x.val ls st M
  | .astore x => zm_st kn 2 x ls st M
  | .iconst n => kn ls (.int (Int32.ofInt n) :: st) M
  | .bipush n => kn ls (.int (Int8.ofInt n).toInt32 :: st) M
  | .sipush n => kn ls (.int (Int16.ofInt n).toInt32 :: st) M
  | .lconst n => kn ls (.long (Int64.ofNat n.val) :: st) M
  | .aconst_null => kn ls (.null :: st) M
  | .ldc x => zm_cst kn T 0 x ls st M
  | .ldc_w x => zm_cst kn T 2 x ls st M
  | .ldc2_w x => zm_cst kn T 1 x ls st M
  | .iadd => zm_b2 kn (fun x y => x + y) ls st M
  | .isub => zm_b2 kn (fun x y => x - y) ls st M
  | .imul => zm_b2 kn (fun x y => x * y) ls st M
  | .iand => zm_b2 kn (fun x y => x &&& y) ls st M
  | .ior => zm_b2 kn (fun x y => x ||| y) ls st M
  | .ixor => zm_b2 kn (fun x y => x ^^^ y) ls st M
  | .ishl => zm_b2 kn (fun x y => x <<< (y &&& 31)) ls st M
  | .ishr => zm_b2 kn (fun x y => x >>> (y &&& 31)) ls st M
  | .iushr => zm_b2 kn (fun x y => (x.toUInt32 >>> (y.toUInt32 &&& Int32.toUInt32 31)).toInt32) ls st M
  | .idiv => zm_b2z kn (fun x y => x / y) ls st M
  | .irem => zm_b2z kn (fun x y => x - x / y * y) ls st M
  | .ineg => zm_u kn (fun x => -x) ls st M
  | .i2b => zm_u kn (fun x => x.toInt8.toInt32) ls st M
  | .i2s => zm_u kn (fun x => x.toInt16.toInt32) ls st M
  | .ladd => zm_l2 kn (fun x y => x + y) ls st M
  | .lsub => zm_l2 kn (fun x y => x - y) ls st M
  | .lmul => zm_l2 kn (fun x y => x * y) ls st M
  | .land => zm_l2 kn (fun x y => x &&& y) ls st M
  | .lor => zm_l2 kn (fun x y => x ||| y) ls st M
  | .ldiv => zm_l2z kn (fun x y => x / y) ls st M
  | .lrem => zm_l2z kn (fun x y => x - x / y * y) ls st M
  | .lshl => zm_ls kn (fun x y => x <<< (y.toInt64 &&& 63)) ls st M
  | .lshr => zm_ls kn (fun x y => x >>> (y.toInt64 &&& 63)) ls st M
  | .lushr => zm_ls kn (fun x y => (x.toUInt64 >>> (y.toInt64.toUInt64 &&& Int64.toUInt64 63)).toInt64) ls st M
  | .ifCond c off => zm_if1 k kn c pc off ls st M
  | .if_icmp c off => zm_if2 k kn c pc off ls st M
  | .goto off => k (zm_tg pc off, ls, st, M)
  | .tableswitch d lo hi os => zm_sw k pc d lo hi os ls st M
  | .getfield x => zm_gf kn wl a b ls st M
  | .putfield x => zm_pf kn wl a b ls st M
  | .iaload => zm_al kn T.2.2.2.2 wl 0 ls st M
  | .laload => zm_al kn T.2.2.2.2 wl 1 ls st M
  | .baload => zm_al kn T.2.2.2.2 wl 2 ls st M
  | .aaload => zm_al kn T.2.2.2.2 wl 3 ls st M
  | .iastore => zm_as kn wl 0 ls st M
  | .lastore => zm_as kn wl 1 ls st M
  | .bastore => zm_as kn wl 2 ls st M
  | .arraylength => zm_aln kn T.2.2.2.2 wl ls st M
  | .invokevirtual x => zm_cl3 kn T wl 0 x ls st M
  | .invokestatic x => match a with
    | 0 => zm_cl3 kn T wl 1 x ls st M
    | 1 => zm_m2 kn (fun x y => if x < y then y else x) ls st M
    | 2 => zm_m2 kn (fun x y => if y < x then y else x) ls st M
    | _ => zm_m1 kn (fun x => if 0 ≤ x then x else 0 - x) ls st M
  | .ireturn => zm_ret T 0 st M
  | .lreturn => zm_ret T 1 st M
  | .areturn => zm_ret T 2 st M
  | .return_ => zm_ret T 3 st M
  | i => zm_stk k kn i pc ls st M
def zm_seq (T : zm_T) (wl : zm_L) (k : zm_S → zm_R) : List (Instr × Nat × Nat) → Nat → zm_N
  | [], pc => fun ls st M => k (pc, ls, st, M)
  | (i, a, b) :: r, pc => fun ls st M => zm_ins T wl k (zm_seq T wl k r (pc + zm_len i)) i a b pc ls st M
def zm_step (T : zm_T) (wl : zm_L) (k : zm_S → zm_R) (S : zm_S) : zm_R := match zm_look T.1 S.1 with
  | some c => zm_seq T wl k c S.1 S.2.1 S.2.2.1 S.2.2.2
  | none => none
def zm_run (T : zm_T) (wl : zm_L) : Nat → zm_S → zm_R
  | 0 => fun _ => none
  | n + 1 => zm_step T wl (zm_run T wl n)
def zm_sl : List Value → List (Option Value)
  | [] => []
  | v :: r => match v with
    | .long x => some (.long x) :: none :: zm_sl r
    | .double x => some (.double x) :: none :: zm_sl r
    | v => some v :: zm_sl r
def zm_pad : Nat → List (Option Value) → List (Option Value)
  | 0, _ => []
  | n + 1, [] => none :: zm_pad n []
  | n + 1, v :: r => v :: zm_pad n r
def zm_F (V : zm_T → zm_L → zm_S → zm_R) (T : zm_T) (nL : Nat) (wl : zm_L) (as : List Value) (M : zm_I) : zm_R := match Nat.ble (zm_sl as).length nL with
  | true => V T wl (0, zm_pad nL (zm_sl as), [], M)
  | false => none
end
section
/-! THE MACHINE OF ROWS IS THE MACHINE: the parts that a proof of it needs -/
theorem zm_ws_get (cA : FieldType → ClassId) (h : Nat → Nat → Nat) (wl : zm_L) (M : zm_I) (n : Nat) : (zm_ws cA h wl M)[n]? = (wl[n]?).map (fun d => (h 0 n, zm_e cA h M n d)) := by
  simp [zm_ws, List.getElem?_mapIdx]
theorem zm_ws_at {cA : FieldType → ClassId} {h : Nat → Nat → Nat} {wl : zm_L} {M : zm_I} {n : Nat} {d : zm_D × List Value} (hd : wl[n]? = some d) : (zm_ws cA h wl M)[n]? = some (h 0 n, zm_e cA h M n d) := by
  rw [zm_ws_get, hd]; rfl
theorem zm_ws_of {cA : FieldType → ClassId} {h : Nat → Nat → Nat} {wl : zm_L} {M : zm_I} {n : Nat} {q : Nat × va_E} (hq : (zm_ws cA h wl M)[n]? = some q) : ∃ d, wl[n]? = some d ∧ q = (h 0 n, zm_e cA h M n d) := by
  rw [zm_ws_get] at hq
  cases hd : wl[n]? with
  | none => rw [hd] at hq; cases hq
  | some d => rw [hd] at hq; exact ⟨d, rfl, (Option.some.inj hq).symm⟩
theorem zm_D_any {A : Nat → Prop} {cA cA' : FieldType → ClassId} {h : Nat → Nat → Nat} {wl : zm_L} {M M' : zm_I} (hD : va_D A (zm_ws cA h wl M)) : va_D A (zm_ws cA' h wl M') := by
  constructor
  · intro i j p q hi hj hpq
    obtain ⟨d1, h1, rfl⟩ := zm_ws_of hi
    obtain ⟨d2, h2, rfl⟩ := zm_ws_of hj
    exact hD.1 i j _ _ (zm_ws_at h1) (zm_ws_at h2) hpq
  · intro k q hk
    obtain ⟨d, h1, rfl⟩ := zm_ws_of hk
    exact hD.2 k (h 0 k, zm_e cA h M k d) (zm_ws_at h1)
theorem zm_e_congr {cA : FieldType → ClassId} {h : Nat → Nat → Nat} {M M' : zm_I} {n : Nat} (d : zm_D × List Value) (h1 : M'.1 n = M.1 n) (h2 : M'.2 n = M.2 n) : zm_e cA h M' n d = zm_e cA h M n d := by
  have hv : ∀ (rs : List Value) (ty : FieldType) (k : Nat), zm_vA M' n rs ty k = zm_vA M n rs ty k := fun rs ty k => by
    cases ty <;> simp [zm_vA, h1, h2]
  have hr : ∀ (rs : List Value) (ty : FieldType), zm_row h M' n rs ty = zm_row h M n rs ty := fun rs ty => by
    cases ty <;> simp [zm_row, h1, h2]
  obtain ⟨ci | ⟨ty, len⟩, rs⟩ := d
  · simp only [zm_e, hv]
  · simp only [zm_e, hr]
theorem zm_ws_set {cA : FieldType → ClassId} {h : Nat → Nat → Nat} {wl : zm_L} {M M' : zm_I} {n : Nat} {d : zm_D × List Value} {e' : va_E} (hd : wl[n]? = some d) (he : zm_e cA h M' n d = e') (ho : ∀ k, k ≠ n → M'.1 k = M.1 k ∧ M'.2 k = M.2 k) : (zm_ws cA h wl M).set n (h 0 n, e') = zm_ws cA h wl M' := by
  apply List.ext_getElem?
  intro k
  rw [List.getElem?_set, zm_ws_get, zm_ws_get]
  by_cases hk : n = k
  · subst hk
    have hl : n < (zm_ws cA h wl M).length := by
      have := (List.getElem?_eq_some_iff.mp hd).1
      simpa [zm_ws] using this
    simp [hl, hd, he]
  · rw [if_neg hk]
    cases hw : wl[k]? with
    | none => rfl
    | some dk => simp only [Option.map_some]; rw [zm_e_congr dk (ho k (Ne.symm hk)).1 (ho k (Ne.symm hk)).2]
theorem zm_w_ne {I : Nat → Nat → Int32} {n i k : Nat} {x : Int32} (hk : k ≠ n) : zm_w I n i x k = I k := by
  funext b
  simp [zm_w, hk]
theorem zm_wl_ne {J : Nat → Nat → Int64} {n i k : Nat} {x : Int64} (hk : k ≠ n) : zm_wl J n i x k = J k := by
  funext b
  simp [zm_wl, hk]
theorem zm_w_eq {I : Nat → Nat → Int32} {n i : Nat} {x : Int32} : zm_w I n i x n = upd (I n) i x := by
  funext b
  simp [zm_w, upd]
theorem zm_wl_eq {J : Nat → Nat → Int64} {n i : Nat} {x : Int64} : zm_wl J n i x n = vp_updL (J n) i x := by
  funext b
  simp [zm_wl, vp_updL]
theorem zm_fset {h : Nat → Nat → Nat} {M M' : zm_I} {n ci f : Nat} {rs : List Value} {v : Value} (hf : f < zm_nf ci) (h1 : zm_cv h (zm_vA M' n rs (zm_ty ci f) f) = v) (h2 : ∀ g, g ≠ f → zm_vA M' n rs (zm_ty ci g) g = zm_vA M n rs (zm_ty ci g) g) :
    (List.range (zm_nf ci)).map (fun g => zm_cv h (zm_vA M' n rs (zm_ty ci g) g)) = ((List.range (zm_nf ci)).map (fun g => zm_cv h (zm_vA M n rs (zm_ty ci g) g))).set f v := by
  apply List.ext_getElem?
  intro k
  rw [List.getElem?_set, List.getElem?_map, List.getElem?_map]
  by_cases hk : f = k
  · subst hk
    simp [hf, h1]
  · rw [if_neg hk]
    by_cases hl : k < zm_nf ci
    · simp [hl, h2 k (Ne.symm hk)]
    · simp [hl]
-- locals
def zm_lok (h : Nat → Nat → Nat) (nL : Nat) (ls : List (Option Value)) (la : Array Slot) : Prop := ls.length = nL ∧ la.size = nL ∧ lv_wf la ∧ ∀ (k : Nat) (v : Value), ls[k]? = some (some v) → la[k]? = some (.val (zm_cv h v))
def zm_prs (h : Nat → Nat → Nat) (ls : List (Option Value)) : List (Nat × Value) := (List.range ls.length).filterMap (fun k => match ls[k]? with
  | some (some v) => some (k, zm_cv h v)
  | _ => none)
theorem zm_prs_of {h : Nat → Nat → Nat} {ls : List (Option Value)} {q : Nat × Value} (hq : q ∈ zm_prs h ls) : ∃ v, ls[q.1]? = some (some v) ∧ q.2 = zm_cv h v := by
  obtain ⟨k, -, hk⟩ := List.mem_filterMap.mp hq
  split at hk
  · next v hv => cases hk; exact ⟨v, hv, rfl⟩
  · cases hk
theorem zm_prs_in {h : Nat → Nat → Nat} {ls : List (Option Value)} {k : Nat} {v : Value} (hv : ls[k]? = some (some v)) : (k, zm_cv h v) ∈ zm_prs h ls := by
  refine List.mem_filterMap.mpr ⟨k, List.mem_range.mpr (List.getElem?_eq_some_iff.mp hv).1, ?_⟩
  simp [hv]
theorem zm_lok_has {h : Nat → Nat → Nat} {nL : Nat} {ls : List (Option Value)} {la : Array Slot} (H : zm_lok h nL ls la) : lv_has la nL (zm_prs h ls) := by
  refine ⟨H.2.1, H.2.2.1, fun q hq => ?_⟩
  obtain ⟨v, h1, h2⟩ := zm_prs_of hq
  rw [h2]
  exact H.2.2.2 _ _ h1
theorem zm_cv_cat (h : Nat → Nat → Nat) (v : Value) : (zm_cv h v).category = v.category := by cases v <;> rfl
theorem zm_clr_len (ls : List (Option Value)) (i : Nat) : (zm_clr ls i).length = ls.length := by
  cases i with
  | zero => rfl
  | succ j => simp only [zm_clr]; split <;> simp
theorem zm_clr_get {ls : List (Option Value)} {i k : Nat} {v : Value} (hv : (zm_clr ls i)[k]? = some (some v)) : ls[k]? = some (some v) ∧ ¬ (k + 1 = i ∧ v.category = 2) := by
  have hset : ∀ {j : Nat}, (ls.set j none)[k]? = some (some v) → ls[k]? = some (some v) ∧ ¬ (k + 1 = j + 1 ∧ v.category = 2) := by
    intro j hv
    rw [List.getElem?_set] at hv
    by_cases hk : j = k
    · subst hk
      rw [if_pos rfl] at hv
      split at hv <;> simp at hv
    · rw [if_neg hk] at hv
      exact ⟨hv, fun q => hk (by omega)⟩
  cases i with
  | zero => exact ⟨hv, fun q => by omega⟩
  | succ j =>
    simp only [zm_clr] at hv
    split at hv
    · exact hset hv
    · exact hset hv
    · next hx hy =>
      refine ⟨hv, fun q => ?_⟩
      have hk : k = j := by omega
      subst hk
      cases v with
      | long y => exact hx y hv
      | double y => exact hy y hv
      | int y => simp [Value.category] at q
      | float y => simp [Value.category] at q
      | null => simp [Value.category] at q
      | ref y => simp [Value.category] at q
      | retAddr y => simp [Value.category] at q
theorem zm_lok_1 {h : Nat → Nat → Nat} {nL i : Nat} {ls : List (Option Value)} {la la' : Array Slot} {v : Value} (H : zm_lok h nL ls la) (hi : i < ls.length) (hl : lv_has la' nL ((i, zm_cv h v) :: (zm_prs h ls).filter (fun q => !(q.1 == i) && !(q.1 + 1 == i && q.2.category == 2)))) : zm_lok h nL ((zm_clr ls i).set i (some v)) la' := by
  refine ⟨by simp [zm_clr_len, H.1], hl.1, hl.2.1, fun k u hu => ?_⟩
  rw [List.getElem?_set] at hu
  by_cases hk : i = k
  · subst hk
    rw [if_pos rfl, if_pos (by rw [zm_clr_len]; exact hi)] at hu
    cases hu
    exact hl.2.2 (i, zm_cv h v) List.mem_cons_self
  · rw [if_neg hk] at hu
    obtain ⟨h1, h2⟩ := zm_clr_get hu
    refine hl.2.2 (k, zm_cv h u) (List.mem_cons_of_mem _ (List.mem_filter.mpr ⟨zm_prs_in h1, ?_⟩))
    simp only [zm_cv_cat]
    simp [Ne.symm hk]
    exact Decidable.not_and_iff_not_or_not.mp h2
theorem zm_lok_2 {h : Nat → Nat → Nat} {nL i : Nat} {ls : List (Option Value)} {la la' : Array Slot} {v : Value} (H : zm_lok h nL ls la) (hi : i + 1 < ls.length) (hl : lv_has la' nL ((i, zm_cv h v) :: (zm_prs h ls).filter (fun q => !(q.1 == i) && (!(q.1 == i + 1) && !(q.1 + 1 == i && q.2.category == 2))))) : zm_lok h nL (((zm_clr ls i).set i (some v)).set (i + 1) none) la' := by
  refine ⟨by simp [zm_clr_len, H.1], hl.1, hl.2.1, fun k u hu => ?_⟩
  rw [List.getElem?_set] at hu
  by_cases hk1 : i + 1 = k
  · subst hk1
    rw [if_pos rfl] at hu
    split at hu <;> simp at hu
  · rw [if_neg hk1, List.getElem?_set] at hu
    by_cases hk : i = k
    · subst hk
      rw [if_pos rfl, if_pos (by rw [zm_clr_len]; omega)] at hu
      cases hu
      exact hl.2.2 (i, zm_cv h v) List.mem_cons_self
    · rw [if_neg hk] at hu
      obtain ⟨h1, h2⟩ := zm_clr_get hu
      refine hl.2.2 (k, zm_cv h u) (List.mem_cons_of_mem _ (List.mem_filter.mpr ⟨zm_prs_in h1, ?_⟩))
      simp only [zm_cv_cat]
      simp [Ne.symm hk, Ne.symm hk1]
      exact Decidable.not_and_iff_not_or_not.mp h2
-- what the machine's parts say, turned round
theorem zm_ld_0 {kn : zm_N} {i : Nat} {ls : List (Option Value)} {st : List Value} {M : zm_I} {r : Option Value × zm_I} (h : zm_ld kn 0 i ls st M = some r) : ∃ x, ls[i]? = some (some (.int x)) ∧ kn ls (.int x :: st) M = some r := by
  unfold zm_ld at h
  split at h
  · next x hx => exact ⟨x, hx, h⟩
  all_goals cases (show (none : zm_R) = some r from h)
theorem zm_ld_1 {kn : zm_N} {i : Nat} {ls : List (Option Value)} {st : List Value} {M : zm_I} {r : Option Value × zm_I} (h : zm_ld kn 1 i ls st M = some r) : ∃ x, ls[i]? = some (some (.long x)) ∧ kn ls (.long x :: st) M = some r := by
  unfold zm_ld at h
  split at h
  · cases (show (none : zm_R) = some r from h)
  · next x hx => exact ⟨x, hx, h⟩
  all_goals cases (show (none : zm_R) = some r from h)
theorem zm_ld_2 {kn : zm_N} {i : Nat} {ls : List (Option Value)} {st : List Value} {M : zm_I} {r : Option Value × zm_I} (h : zm_ld kn 2 i ls st M = some r) : (∃ x, ls[i]? = some (some (.ref x)) ∧ kn ls (.ref x :: st) M = some r) ∨ (ls[i]? = some (some .null) ∧ kn ls (.null :: st) M = some r) ∨ (∃ x, ls[i]? = some (some (.retAddr x)) ∧ kn ls (.retAddr x :: st) M = some r) := by
  unfold zm_ld at h
  split at h
  · cases (show (none : zm_R) = some r from h)
  · cases (show (none : zm_R) = some r from h)
  · next x hx => exact Or.inl ⟨x, hx, h⟩
  · next hx => exact Or.inr (Or.inl ⟨hx, h⟩)
  · next x hx => exact Or.inr (Or.inr ⟨x, hx, h⟩)
  · cases h
theorem zm_st_0 {kn : zm_N} {i : Nat} {ls : List (Option Value)} {st : List Value} {M : zm_I} {r : Option Value × zm_I} (h : zm_st kn 0 i ls st M = some r) : ∃ x t, st = .int x :: t ∧ i < ls.length ∧ kn ((zm_clr ls i).set i (some (.int x))) t M = some r := by
  unfold zm_st at h
  split at h
  · next x t =>
    split at h
    · next hb => exact ⟨x, t, rfl, by simp at hb; omega, h⟩
    · cases h
  all_goals cases (show (none : zm_R) = some r from h)
theorem zm_st_1 {kn : zm_N} {i : Nat} {ls : List (Option Value)} {st : List Value} {M : zm_I} {r : Option Value × zm_I} (h : zm_st kn 1 i ls st M = some r) : ∃ x t, st = .long x :: t ∧ i + 1 < ls.length ∧ kn (((zm_clr ls i).set i (some (.long x))).set (i + 1) none) t M = some r := by
  unfold zm_st at h
  split at h
  · cases (show (none : zm_R) = some r from h)
  · next x t =>
    split at h
    · next hb => exact ⟨x, t, rfl, by simp at hb; omega, h⟩
    · cases h
  all_goals cases (show (none : zm_R) = some r from h)
theorem zm_st_2 {kn : zm_N} {i : Nat} {ls : List (Option Value)} {st : List Value} {M : zm_I} {r : Option Value × zm_I} (h : zm_st kn 2 i ls st M = some r) : (∃ x t, st = .ref x :: t ∧ i < ls.length ∧ kn ((zm_clr ls i).set i (some (.ref x))) t M = some r) ∨ (∃ t, st = .null :: t ∧ i < ls.length ∧ kn ((zm_clr ls i).set i (some .null)) t M = some r) := by
  unfold zm_st at h
  split at h
  · cases (show (none : zm_R) = some r from h)
  · cases (show (none : zm_R) = some r from h)
  · next x t =>
    split at h
    · next hb => exact Or.inl ⟨x, t, rfl, by simp at hb; omega, h⟩
    · cases h
  · next t =>
    split at h
    · next hb => exact Or.inr ⟨t, rfl, by simp at hb; omega, h⟩
    · cases h
  · cases h
theorem zm_b2_o {kn : zm_N} {f : Int32 → Int32 → Int32} {ls : List (Option Value)} {st : List Value} {M : zm_I} {r : Option Value × zm_I} (h : zm_b2 kn f ls st M = some r) : ∃ y x t, st = .int y :: .int x :: t ∧ kn ls (.int (f x y) :: t) M = some r := by
  unfold zm_b2 at h
  split at h
  · exact ⟨_, _, _, rfl, h⟩
  · cases h
theorem zm_b2z_o {kn : zm_N} {f : Int32 → Int32 → Int32} {ls : List (Option Value)} {st : List Value} {M : zm_I} {r : Option Value × zm_I} (h : zm_b2z kn f ls st M = some r) : ∃ y x t, st = .int y :: .int x :: t ∧ ¬ y = 0 ∧ kn ls (.int (f x y) :: t) M = some r := by
  unfold zm_b2z at h
  split at h
  · split at h
    · cases h
    · next hy => exact ⟨_, _, _, rfl, hy, h⟩
  · cases h
theorem zm_l2_o {kn : zm_N} {f : Int64 → Int64 → Int64} {ls : List (Option Value)} {st : List Value} {M : zm_I} {r : Option Value × zm_I} (h : zm_l2 kn f ls st M = some r) : ∃ y x t, st = .long y :: .long x :: t ∧ kn ls (.long (f x y) :: t) M = some r := by
  unfold zm_l2 at h
  split at h
  · exact ⟨_, _, _, rfl, h⟩
  · cases h
theorem zm_l2z_o {kn : zm_N} {f : Int64 → Int64 → Int64} {ls : List (Option Value)} {st : List Value} {M : zm_I} {r : Option Value × zm_I} (h : zm_l2z kn f ls st M = some r) : ∃ y x t, st = .long y :: .long x :: t ∧ ¬ y = 0 ∧ kn ls (.long (f x y) :: t) M = some r := by
  unfold zm_l2z at h
  split at h
  · split at h
    · cases h
    · next hy => exact ⟨_, _, _, rfl, hy, h⟩
  · cases h
theorem zm_ls_o {kn : zm_N} {f : Int64 → Int32 → Int64} {ls : List (Option Value)} {st : List Value} {M : zm_I} {r : Option Value × zm_I} (h : zm_ls kn f ls st M = some r) : ∃ y x t, st = .int y :: .long x :: t ∧ kn ls (.long (f x y) :: t) M = some r := by
  unfold zm_ls at h
  split at h
  · exact ⟨_, _, _, rfl, h⟩
  · cases h
theorem zm_u_o {kn : zm_N} {f : Int32 → Int32} {ls : List (Option Value)} {st : List Value} {M : zm_I} {r : Option Value × zm_I} (h : zm_u kn f ls st M = some r) : ∃ x t, st = .int x :: t ∧ kn ls (.int (f x) :: t) M = some r := by
  unfold zm_u at h
  split at h
  · exact ⟨_, _, rfl, h⟩
  · cases h
theorem zm_m2_o {kn : zm_N} {f : Int32 → Int32 → Int32} {ls : List (Option Value)} {st : List Value} {M : zm_I} {r : Option Value × zm_I} (h : zm_m2 kn f ls st M = some r) : ∃ y x t, st = .int y :: .int x :: t ∧ (t.map fun v => v.category).sum ≤ 8 ∧ kn ls (.int (f x y) :: t) M = some r := by
  unfold zm_m2 at h
  split at h
  · split at h
    · next hb => exact ⟨_, _, _, rfl, Nat.le_of_ble_eq_true hb, h⟩
    · cases h
  · cases h
theorem zm_m1_o {kn : zm_N} {f : Int32 → Int32} {ls : List (Option Value)} {st : List Value} {M : zm_I} {r : Option Value × zm_I} (h : zm_m1 kn f ls st M = some r) : ∃ x t, st = .int x :: t ∧ (t.map fun v => v.category).sum ≤ 8 ∧ kn ls (.int (f x) :: t) M = some r := by
  unfold zm_m1 at h
  split at h
  · split at h
    · next hb => exact ⟨_, _, rfl, Nat.le_of_ble_eq_true hb, h⟩
    · cases h
  · cases h
theorem zm_cat_map (h : Nat → Nat → Nat) (st : List Value) : ((st.map (zm_cv h)).map fun v => v.category) = st.map fun v => v.category := by
  rw [List.map_map]
  apply List.map_congr_left
  intro v _
  exact zm_cv_cat h v
theorem zm_dec_o {cc : ByteArray} {pc : Nat} {i : Instr} (h : zm_dec cc pc i = true) (hs : zm_isSw i = false) : decode cc pc = .ok (i, zm_len i) := by
  unfold zm_dec at h
  split at h
  · next j len hd =>
    simp [hs] at h
    rw [hd, h.1.1, h.1.2]
  · cases h
theorem zm_dec_sw {cc : ByteArray} {pc : Nat} {i : Instr} (h : zm_dec cc pc i = true) : ∃ len, decode cc pc = .ok (i, len) := by
  unfold zm_dec at h
  split at h
  · next j len hd =>
    simp at h
    exact ⟨len, by rw [hd, h.1.1]⟩
  · cases h
theorem zm_dec_tg {cc : ByteArray} {pc : Nat} {i : Instr} (h : zm_dec cc pc i = true) {o : Int} (ho : o ∈ zm_offs i) : (pc : Int) + o = (zm_tg pc o : Int) := by
  unfold zm_dec at h
  split at h
  · simp only [Bool.and_eq_true, List.all_eq_true, decide_eq_true_eq] at h
    have := h.2 o ho
    unfold zm_tg
    omega
  · cases h
end
section
/-! ONE INSTRUCTION -/
section ZMS
variable {p : Program} {l : Launch} {e : Env} {R : Room} {s : State} {m : MethodId} {args : Array Value} {below : List Frame} {meth : Method} {c : Code}
/-- the texts: their places in Tape's pool -/
def zm_strs : List (Nat × String) := [(67, "bench"), (73, "law"), (81, "wear"), (85, "every"), (89, "odds"), (46, "seat"), (96, "takes"), (101, "gives"), (55, "caller"), (108, "age"), (112, "comes"), (118, "told"), (123, "to")]
def zm_slen : List Nat := [5, 3, 4, 5, 4, 4, 5, 5, 6, 3, 5, 4, 2]
def zm_sbyt : List (List Int32) := [[98, 101, 110, 99, 104], [108, 97, 119], [119, 101, 97, 114], [101, 118, 101, 114, 121], [111, 100, 100, 115], [115, 101, 97, 116], [116, 97, 107, 101, 115], [103, 105, 118, 101, 115], [99, 97, 108, 108, 101, 114], [97, 103, 101], [99, 111, 109, 101, 115], [116, 111, 108, 100], [116, 111]]
def zm_Z (g : Nat → Nat) (A : Nat → Prop) (U : State) (H : Heap) : Prop := (∃ adV : Nat → Nat, vk_S 13 zm_slen zm_sbyt g adV A U H ∧ va_Z RJ0 "COMPACT_STRINGS" "Z" (.int 1) A U H ∧ va_Zq RJ3 "SIOOBE_FORMATTER" "Ljava/util/function/BiFunction;" A U H) ∧ ∀ (i : Nat) (q : Nat × String), zm_strs[i]? = some q → vk_R RX8 q.1 q.2 (g i) U
theorem zm_Z_go {g : Nat → Nat} {A A' : Nat → Prop} {s U : State} {H : Heap} {locs : List Loc} (hZ : zm_Z g A s s.heap) (hS : va_S A s.heap H locs) (hW : s.WarmedH U.vm) (hB : ∀ q, A' q → A q) : zm_Z g A' U H := by
  obtain ⟨⟨adV, h1, h3, h4⟩, h2⟩ := hZ
  exact ⟨⟨adV, ((h1.kept hS.2.1).moved hW.alike).narrow hB, ((h3.kept hS.2.1).moved hW.alike).narrow hB, ((h4.kept hS.2.1).moved hW.alike).narrow hB⟩, fun i q hq => (h2 i q hq).warm hW⟩
/-- from this state of the machine of rows the machine comes to Q -/
def zm_G (p : Program) (l : Launch) (e : Env) (R : Room) (s : State) (m : MethodId) (args : Array Value) (below : List Frame) (meth : Method) (c : Code) (Q : State → Prop) (D : va_G) (cA : FieldType → ClassId) (h : Nat → Nat → Nat) (wl : zm_L) (A : Nat → Prop) (nL c0 s0 : Nat) (S : zm_S) : Prop :=
  ∀ (H : Heap) (locs : List Loc) (la : Array Slot), zm_lok h nL S.2.1 la → va_P D zm_cl (zm_ws cA h wl S.2.2.2) H → va_S A s.heap H locs → W p l e R s m args below meth c H locs c0 s0 Q (F0 m S.1 la (S.2.2.1.map (zm_cv h)))
/-- arrays of objects are of these alone -/
def zm_wok (wl : zm_L) : Prop := ∀ (n : Nat) (C : String) (len : Nat) (rs : List Value), wl[n]? = some (Sum.inr (FieldType.object C, len), rs) → C = RX0 ∨ C = RX2 ∨ C = RX7
/-- what a method's end says -/
def zm_Q (D : va_G) (cA : FieldType → ClassId) (h : Nat → Nat → Nat) (wl : zm_L) (A : Nat → Prop) (r : Option Value × zm_I) : Array Value → State → Outcome → State → Prop := fun _ st o t =>
  o = .returned (r.1.map (zm_cv h)) ∧ va_P D zm_cl (zm_ws cA h wl r.2) t.heap ∧ va_F A st t
def zm_Pc (D : va_G) (cA : FieldType → ClassId) (h : Nat → Nat → Nat) (wl : zm_L) (sz : Nat) (av : List Value) (M : zm_I) : Array Value → State → Prop := fun v U =>
  v = (av.map (zm_cv h)).toArray ∧ U.heap.size = sz ∧ va_P D zm_cl (zm_ws cA h wl M) U.heap ∧ va_K D zm_cl (zm_tys cA) U ∧ va_D (fun _ => True) (zm_ws cA h wl M) ∧ zm_wok wl ∧ zm_Z (h 1) (va_A (zm_ws cA h wl M) sz) U U.heap
/-- a method's contract: what F says of its rows -/
def zm_Con (l : Launch) (y : MethodName) (bytes : ByteArray) (maxL : Nat) (ret : Option FieldType) (rm : Room) (F : zm_L → List Value → zm_I → zm_R) : Prop :=
  ∀ (D : va_G) (cA : FieldType → ClassId) (h : Nat → Nat → Nat) (wl : zm_L) (sz : Nat) (av : List Value) (M : zm_I) (r : Option Value × zm_I), F wl av M = some r →
    Met l y (.code y bytes maxL ret :: zm_tbl) rm (zm_Pc D cA h wl sz av M) (zm_Q D cA h wl (va_A (zm_ws cA h wl M) sz) r) 0 0 (va_A (zm_ws cA h wl M) sz)
/-- a call that may be made from class own at pool number idx -/
def zm_callok (l : Launch) (R : Room) (own : String) (idx : Nat) (C : zm_C) : Prop :=
  ∃ (y : MethodName) (bytes : ByteArray) (maxL : Nat) (ret : Option FieldType) (rm : Room) (n : Nat), zm_Con l y bytes maxL ret rm C.2.2.2.2 ∧ rm.cells = 0 ∧ rm.slots = 0 ∧ (rm.frames + 1 ≤ R.frames ∧ 8 + (maxL + 11) + rm.locals ≤ R.locals) ∧
    Jvm.Cond.code y bytes maxL ret ∈ zm_tbl ∧ Jvm.Cond.methodLink own idx y ∈ zm_tbl ∧ Jvm.Cond.initialized y.cls ∈ zm_tbl ∧
    (y.cls ≠ "java/lang/invoke/MethodHandle" ∧ y.cls ≠ "java/lang/invoke/VarHandle" ∧ (parseMethodDescriptor y.desc).map (fun d => d.parameters.length) = some n) ∧
    match C.2.1 with
    | some ci => C.1 = n + 1 ∧ Jvm.Cond.instanceMethod y ∈ zm_tbl ∧ Jvm.Cond.selects y.cls y y ∈ zm_tbl ∧ ((∃ r, zm_cl[ci]? = some r ∧ r.1 = y.cls) ∨ (ci = 99 ∧ y.cls = RJ0))
    | none => C.1 = n ∧ Jvm.Cond.static y ∈ zm_tbl
def zm_fok (own : String) (idx ci f : Nat) : Prop := ∃ r, zm_cl[ci]? = some r ∧ f < r.2.2 ∧ (r.2.1 f).1 = r.1 ∧ Jvm.Cond.fieldLink own idx r.1 (r.2.1 f).2.1 (r.2.1 f).2.2.1 ∈ zm_tbl
def zm_cok (own : String) (idx : Nat) : Value → Prop
  | .int v => Jvm.Cond.constant own idx v ∈ zm_tbl
  | .long v => Jvm.Cond.constantLong own idx v ∈ zm_tbl
  | .retAddr i => own = RX8 ∧ ∃ tx, zm_strs[i]? = some (idx, tx)
  | _ => False
def zm_mok (R : Room) (own : String) (idx : Nat) (y : MethodName) : Prop := 1 ≤ R.frames ∧ 21 ≤ R.locals ∧ Jvm.Cond.methodLink own idx y ∈ zm_tbl
def zm_iok (R : Room) (own : String) (i : Instr) (a b : Nat) : Prop := match i with
  | .getfield idx => zm_fok own idx a b
  | .putfield idx => zm_fok own idx a b
  | .invokestatic idx => match a with
    | 0 => True
    | 1 => zm_mok R own idx Lib.Math.max.name
    | 2 => zm_mok R own idx Lib.Math.min.name
    | _ => zm_mok R own idx Lib.Math.abs.name
  | _ => True
/-- Math's own words stand in the tables -/
def zm_mathok : Prop := Jvm.Cond.initialized "java/lang/Math" ∈ zm_tbl ∧ (Jvm.Cond.static Lib.Math.max.name ∈ zm_tbl ∧ Jvm.Cond.code Lib.Math.max.name Lib.Math.max.code 2 (some .int) ∈ zm_tbl) ∧ (Jvm.Cond.static Lib.Math.min.name ∈ zm_tbl ∧ Jvm.Cond.code Lib.Math.min.name Lib.Math.min.code 2 (some .int) ∈ zm_tbl) ∧ (Jvm.Cond.static Lib.Math.abs.name ∈ zm_tbl ∧ Jvm.Cond.code Lib.Math.abs.name Lib.Math.abs.code 1 (some .int) ∈ zm_tbl)
def zm_sok (R : Room) (own : String) (cc : ByteArray) : List (Instr × Nat × Nat) → Nat → Prop
  | [], _ => True
  | (i, a, b) :: r, pc => zm_dec cc pc i = true ∧ zm_iok R own i a b ∧ zm_sok R own cc r (pc + zm_len i)
def zm_ok (l : Launch) (R : Room) (own : String) (cc : ByteArray) (T : zm_T) : Prop :=
  (∀ (pc : Nat) (b : List (Instr × Nat × Nat)), zm_look T.1 pc = some b → zm_sok R own cc b pc) ∧ (∀ (idx : Nat) (v : Value), zm_look T.2.1 idx = some v → zm_cok own idx v) ∧ ∀ (idx : Nat) (C : zm_C), zm_look T.2.2.1 idx = some C → zm_callok l R own idx C
/-- each class's words stand in the tables -/
def zm_cwok : Prop := ∀ (ci : Nat) (r : vw_C), zm_cl[ci]? = some r → (∀ w ∈ u_ws r.1 r.2.1 r.2.2, w ∈ zm_tbl) ∧ (∀ k, k < r.2.2 → parseFieldDescriptor (r.2.1 k).2.2.1 = some (zm_ty ci k)) ∧ (∀ a, a < r.2.2 → ∀ b, b < r.2.2 → a ≠ b → (r.2.1 a).2.1 ≠ (r.2.1 b).2.1) ∧ r.2.2 = zm_nf ci
/-- the script, where there is one -/
def zm_scr (h : Nat → Nat → Nat) (A : Nat → Prop) (s : State) (sc : Option (Nat × (Nat → Int32))) : Prop := ∀ x, sc = some x → va_X (h 1 100) x.1 x.2 s s.heap ∧ h 1 100 < s.heap.size ∧ ¬ A (h 1 100)
/-- what holds inside a method's body -/
def zm_B (p : Program) (s : State) (m : MethodId) (args : Array Value) (meth : Method) (c : Code) (own : String) (cc : ByteArray) (nL : Nat) (T : zm_T) (D : va_G) (cA : FieldType → ClassId) (h : Nat → Nat → Nat) (A : Nat → Prop) (R : Room) (c0 s0 : Nat) : Prop :=
  p.tables.exec = Jvm.exec ∧ c.code = cc ∧ c.maxLocals = nL ∧ s.vm.findClass own = some m.cls ∧ (∀ w ∈ zm_tbl, w.before args s = true) ∧ va_K D zm_cl (zm_tys cA) s ∧ meth.sig.returnType = T.2.2.2.1 ∧ meth.locks = false ∧ zm_Z (h 1) A s s.heap ∧ (c0 ≤ R.cells ∧ s0 ≤ R.slots) ∧ zm_scr h A s T.2.2.2.2
theorem zm_get1 {D : va_G} {cA : FieldType → ClassId} {h : Nat → Nat → Nat} {wl : zm_L} {M : zm_I} {H : Heap} {n : Nat} {d : zm_D × List Value} (hP : va_P D zm_cl (zm_ws cA h wl M) H) (hd : wl[n]? = some d) : va_P D zm_cl [(h 0 n, zm_e cA h M n d)] H := by
  intro k q hq
  cases k with
  | zero => cases hq; exact hP n _ (zm_ws_at hd)
  | succ k => simp at hq
variable {Q : State → Prop} {D : va_G} {cA : FieldType → ClassId} {h : Nat → Nat → Nat} {wl : zm_L} {A : Nat → Prop} {nL c0 s0 : Nat} {own : String} {cc : ByteArray} {T : zm_T} {pc : Nat} {ls : List (Option Value)} {st : List Value} {M : zm_I} {r : Option Value × zm_I} {k : zm_S → zm_R} {kn : zm_N}
theorem zm_i_gf (hcw : zm_cwok) (B : zm_B p s m args meth c own cc nL T D cA h A R c0 s0) {idx a b : Nat} (hd : decode cc pc = .ok (.getfield idx, 3)) (hf : zm_fok own idx a b) (hh : zm_gf kn wl a b ls st M = some r)
    (hn : ∀ ls' st' M', kn ls' st' M' = some r → zm_G p l e R s m args below meth c Q D cA h wl A nL c0 s0 (pc + 3, ls', st', M')) : zm_G p l e R s m args below meth c Q D cA h wl A nL c0 s0 (pc, ls, st, M) := by
  intro H locs la hl hP hS
  obtain ⟨hx, hb, hml, hown, hts, hK, hr, hlk, hZ, hcs, hsc⟩ := B
  unfold zm_gf at hh
  split at hh
  · next n t =>
    split at hh
    · next ci rs hw =>
      split at hh
      · next hc =>
        have hc := Nat.eq_of_beq_eq_true hc
        subst hc
        obtain ⟨⟨C, TT, N⟩, hcl, hbN, hdecl, hlink⟩ := hf
        obtain ⟨hin, hty, hnm, hN⟩ := hcw _ _ hcl
        dsimp only at hbN hdecl hlink hin hty hnm hN
        refine va_get (D := D) (ci := ci) (v := zm_cv h (zm_vA M n rs (zm_ty ci b) b)) (C := C) (T := TT) (N := N) hx hb hts hin hown hK (zm_get1 hP hw) 0 rfl hcl b hbN (hts _ hlink) (fun x hx9 => by rw [← hdecl]; exact hx9) (by rw [List.getElem?_map, List.getElem?_range (by rw [← hN]; exact hbN)]; rfl) hd ?_
        exact hn _ _ _ hh H locs la hl hP hS
      · cases hh
    · cases hh
  · cases hh
theorem zm_fin_o {ci f : Nat} {r : vw_C} (hcl : zm_cl[ci]? = some r) (h : zm_fin ci f = false) : (r.2.1 f).2.2.2 = false := by
  unfold zm_fin at h
  rw [hcl] at h
  exact h
theorem zm_i_pf (hcw : zm_cwok) (B : zm_B p s m args meth c own cc nL T D cA h A R c0 s0) (hD : va_D A (zm_ws cA h wl M)) {idx a b : Nat} (hd : decode cc pc = .ok (.putfield idx, 3)) (hf : zm_fok own idx a b) (hh : zm_pf kn wl a b ls st M = some r)
    (hn : ∀ ls' st' M', kn ls' st' M' = some r → zm_G p l e R s m args below meth c Q D cA h wl A nL c0 s0 (pc + 3, ls', st', M')) : zm_G p l e R s m args below meth c Q D cA h wl A nL c0 s0 (pc, ls, st, M) := by
  intro H locs la hl hP hS
  obtain ⟨hx, hb, hml, hown, hts, hK, hr, hlk, hZ, hcs, hsc⟩ := B
  have main : ∀ (n : Nat) (ci : Nat) (rs : List Value) (t : List Value) (v : Value) (M' : zm_I), wl[n]? = some (.inl ci, rs) → ci = a → zm_fin a b = false → narrow (zm_ty a b) (zm_cv h v) = zm_cv h v → fits (zm_ty a b) (zm_cv h v) = true →
      zm_vA M' n rs (zm_ty a b) b = v → (∀ g, g ≠ b → zm_vA M' n rs (zm_ty a g) g = zm_vA M n rs (zm_ty a g) g) → (∀ k, k ≠ n → M'.1 k = M.1 k ∧ M'.2 k = M.2 k) → kn ls t M' = some r →
      W p l e R s m args below meth c H locs c0 s0 Q (F0 m pc la ((v :: .ref n :: t).map (zm_cv h))) := by
    intro n ci rs t v M' hw hc hfin hnar hfit hv hg ho hk
    subst hc
    obtain ⟨⟨C, TT, N⟩, hcl, hbN, hdecl, hlink⟩ := hf
    obtain ⟨hin, hty, hnm, hN⟩ := hcw _ _ hcl
    dsimp only at hbN hdecl hlink hin hty hnm hN
    have hws := zm_ws_at (cA := cA) (h := h) (M := M) hw
    refine va_put (D := D) (ci := ci) (v := zm_cv h v) (C := C) (T := TT) (N := N) hx hb hts hin (zm_ty ci) hty hnm hown hK hP hD hS n hws hcl b hbN (hts _ hlink) (fun x hx9 => by rw [← hdecl]; exact hx9) (zm_fin_o hcl hfin) (hty b hbN) hnar hfit (by simp; rw [← hN]; exact hbN) hd (fun H1 locs1 hP1 hD1 hS1 => ?_)
    refine hn _ _ _ hk H1 locs1 la hl ?_ hS1
    dsimp only
    rw [← zm_ws_set (M := M) (M' := M') hw rfl ho]
    have he : zm_e cA h M' n (.inl ci, rs) = .inr (ci, ((List.range (zm_nf ci)).map (fun f => zm_cv h (zm_vA M n rs (zm_ty ci f) f))).set b (zm_cv h v)) := by
      simp only [zm_e]
      rw [zm_fset (by rw [← hN]; exact hbN) (by rw [hv]) hg]
    rw [he]
    exact hP1
  unfold zm_pf at hh
  split at hh
  · cases hh
  · next hfin =>
    split at hh
    · next x n t =>
      split at hh
      · next ci rs hw =>
        split at hh
        · next hc =>
          have hc := Nat.eq_of_beq_eq_true hc
          have ho : ∀ k, k ≠ n → zm_w M.1 n b x k = M.1 k ∧ M.2 k = M.2 k := fun k hk => ⟨zm_w_ne hk, rfl⟩
          have hv1 : zm_w M.1 n b x n b = x := by simp [zm_w]
          have hg1 : ∀ g, g ≠ b → zm_w M.1 n b x n g = M.1 n g := fun g hg => by simp [zm_w, hg]
          split at hh
          · next hty =>
            refine main n ci rs t (.int x) (zm_w M.1 n b x, M.2) hw hc hfin (by rw [hty]; rfl) (by rw [hty]; rfl) (by rw [hty]; simp [zm_vA, hv1]) (fun g hg => ?_) ho hh
            cases hq : zm_ty a g <;> simp [zm_vA, hg1 g hg]
          · next hty =>
            split at hh
            · next hx01 =>
              refine main n ci rs t (.int x) (zm_w M.1 n b x, M.2) hw hc hfin (by rw [hty]; rcases hx01 with rfl | rfl <;> rfl) (by rw [hty]; rcases hx01 with rfl | rfl <;> rfl) (by rw [hty]; simp [zm_vA, hv1]) (fun g hg => ?_) ho hh
              cases hq : zm_ty a g <;> simp [zm_vA, hg1 g hg]
            · cases hh
          · cases hh
        · cases hh
      · cases hh
    · next x n t =>
      split at hh
      · next ci rs hw =>
        split at hh
        · next hc =>
          have hc := Nat.eq_of_beq_eq_true hc
          have ho : ∀ k, k ≠ n → M.1 k = M.1 k ∧ zm_wl M.2 n b x k = M.2 k := fun k hk => ⟨rfl, zm_wl_ne hk⟩
          have hv1 : zm_wl M.2 n b x n b = x := by simp [zm_wl]
          have hg1 : ∀ g, g ≠ b → zm_wl M.2 n b x n g = M.2 n g := fun g hg => by simp [zm_wl, hg]
          split at hh
          · next hty =>
            refine main n ci rs t (.long x) (M.1, zm_wl M.2 n b x) hw hc hfin (by rw [hty]; rfl) (by rw [hty]; rfl) (by rw [hty]; simp [zm_vA, hv1]) (fun g hg => ?_) ho hh
            cases hq : zm_ty a g <;> simp [zm_vA, hg1 g hg]
          · cases hh
        · cases hh
      · cases hh
    · cases hh
theorem zm_rr_v {h : Nat → Nat → Nat} {v : Value} (hv : (∃ q, v = .ref q) ∨ v = .null) : va_rf (zm_rr h v) = zm_cv h v := by
  rcases hv with ⟨q, rfl⟩ | rfl <;> rfl
theorem zm_i_al (B : zm_B p s m args meth c own cc nL T D cA h A R c0 s0) {ct : Nat} {ins : Instr} (hi : (ct = 0 ∧ ins = .iaload) ∨ (ct = 1 ∧ ins = .laload) ∨ (ct = 2 ∧ ins = .baload) ∨ (ct = 3 ∧ ins = .aaload)) (hoc : zm_wok wl) (hd : decode cc pc = .ok (ins, 1)) (hh : zm_al kn T.2.2.2.2 wl ct ls st M = some r)
    (hn : ∀ ls' st' M', kn ls' st' M' = some r → zm_G p l e R s m args below meth c Q D cA h wl A nL c0 s0 (pc + 1, ls', st', M')) : zm_G p l e R s m args below meth c Q D cA h wl A nL c0 s0 (pc, ls, st, M) := by
  intro H locs la hl hP hS
  obtain ⟨hx, hb, hml, hown, hts, hK, hr, hlk, hZ, hcs, hsc⟩ := B
  unfold zm_al at hh
  split at hh
  · next i n t =>
    split at hh
    · next ty len rs hw =>
      have hP1 := zm_get1 hP hw
      split at hh
      · cases hh
      · next hin =>
        split at hh
        · split at hh
          · next hc =>
            have hc := Nat.eq_of_beq_eq_true hc
            subst hc
            rcases hi with ⟨-, rfl⟩ | ⟨hc, -⟩ | ⟨hc, -⟩ | ⟨hc, -⟩
            · exact va_iald hx hb hK hP1 0 0 rfl rfl hin hd (hn _ _ _ hh H locs la hl hP hS)
            all_goals cases hc
          · cases hh
        · split at hh
          · next hc =>
            have hc := Nat.eq_of_beq_eq_true hc
            subst hc
            rcases hi with ⟨hc, -⟩ | ⟨-, rfl⟩ | ⟨hc, -⟩ | ⟨hc, -⟩
            rotate_left
            · exact va_lald hx hb hK hP1 0 1 rfl rfl hin hd (hn _ _ _ hh H locs la hl hP hS)
            all_goals cases hc
          · cases hh
        · split at hh
          · next hc =>
            have hc := Nat.eq_of_beq_eq_true hc
            subst hc
            rcases hi with ⟨hc, -⟩ | ⟨hc, -⟩ | ⟨-, rfl⟩ | ⟨hc, -⟩
            · cases hc
            · cases hc
            · exact va_bald hx hb hK hP1 0 2 rfl rfl hin hd (hn _ _ _ hh H locs la hl hP hS)
            · cases hc
          · cases hh
        · split at hh
          · next hc =>
            have hc := Nat.eq_of_beq_eq_true hc
            subst hc
            rcases hi with ⟨hc, -⟩ | ⟨hc, -⟩ | ⟨-, rfl⟩ | ⟨hc, -⟩
            · cases hc
            · cases hc
            · exact va_zald hx hb hK hP1 0 3 rfl rfl hin hd (hn _ _ _ hh H locs la hl hP hS)
            · cases hc
          · cases hh
        · next C =>
          split at hh
          · next hc =>
            have hc := Nat.eq_of_beq_eq_true hc
            subst hc
            rcases hi with ⟨hc, -⟩ | ⟨hc, -⟩ | ⟨hc, -⟩ | ⟨-, rfl⟩
            · cases hc
            · cases hc
            · cases hc
            · have ht : ∃ t0 : Nat, (zm_tys cA)[t0]? = some (cA (FieldType.object C), FieldType.object C) := by
                rcases hoc _ _ _ _ hw with rfl | rfl | rfl
                · exact ⟨4, rfl⟩
                · exact ⟨5, rfl⟩
                · exact ⟨6, rfl⟩
              obtain ⟨t0, ht0⟩ := ht
              refine va_aldq hx hb hK hP1 0 t0 rfl ht0 hin hd ?_
              split at hh
              · next q hq =>
                dsimp only
                rw [hq]
                exact hn _ _ _ hh H locs la hl hP hS
              · next hq =>
                dsimp only
                rw [hq]
                exact hn _ _ _ hh H locs la hl hP hS
              · cases hh
          · cases hh
        · cases hh
    · cases hh
  · next i q t =>
    split at hh
    · next hq =>
      simp only [Bool.and_eq_true] at hq
      have hq1 := Nat.eq_of_beq_eq_true hq.1
      have hc := Nat.eq_of_beq_eq_true hq.2
      subst hq1 hc
      split at hh
      · next x hx9 =>
        obtain ⟨hX, hbl, hbA⟩ := hsc x hx9
        split at hh
        · cases hh
        · next hin =>
          rcases hi with ⟨-, rfl⟩ | ⟨hc, -⟩ | ⟨hc, -⟩ | ⟨hc, -⟩
          · exact va_sld hx hb hX hbl hbA hS hin hd (hn _ _ _ hh H locs la hl hP hS)
          all_goals cases hc
      · cases hh
    · cases hh
  · cases hh
theorem zm_i_as (B : zm_B p s m args meth c own cc nL T D cA h A R c0 s0) (hD : va_D A (zm_ws cA h wl M)) {ct : Nat} {ins : Instr} (hi : (ct = 0 ∧ ins = .iastore) ∨ (ct = 1 ∧ ins = .lastore) ∨ (ct = 2 ∧ ins = .bastore)) (hd : decode cc pc = .ok (ins, 1)) (hh : zm_as kn wl ct ls st M = some r)
    (hn : ∀ ls' st' M', kn ls' st' M' = some r → zm_G p l e R s m args below meth c Q D cA h wl A nL c0 s0 (pc + 1, ls', st', M')) : zm_G p l e R s m args below meth c Q D cA h wl A nL c0 s0 (pc, ls, st, M) := by
  intro H locs la hl hP hS
  obtain ⟨hx, hb, hml, hown, hts, hK, hr, hlk, hZ, hcs, hsc⟩ := B
  have hset : ∀ (n i : Nat) (x : Int32) (ty : FieldType) (len : Nat) (rs : List Value) (H1 : Heap), wl[n]? = some (Sum.inr (ty, len), rs) → (ty = .int ∨ ty = .byte ∨ ty = .boolean) → va_P D zm_cl ((zm_ws cA h wl M).set n (h 0 n, .inl (cA ty, len, .inl (upd (M.1 n) i x)))) H1 → va_P D zm_cl (zm_ws cA h wl (zm_w M.1 n i x, M.2)) H1 := by
    intro n i x ty len rs H1 hw hty hP1
    rw [← zm_ws_set (M := M) (M' := (zm_w M.1 n i x, M.2)) hw rfl (fun k hk => ⟨zm_w_ne hk, rfl⟩)]
    have he : zm_e cA h (zm_w M.1 n i x, M.2) n (Sum.inr (ty, len), rs) = .inl (cA ty, len, .inl (upd (M.1 n) i x)) := by
      rcases hty with rfl | rfl | rfl <;> simp only [zm_e, zm_row, zm_w_eq]
    rw [he]
    exact hP1
  unfold zm_as at hh
  split at hh
  · next x i n t =>
    split at hh
    · next ty len rs hw =>
      have hws := zm_ws_at (cA := cA) (h := h) (M := M) hw
      split at hh
      · cases hh
      · next hin =>
        split at hh
        · split at hh
          · next hc =>
            have hc := Nat.eq_of_beq_eq_true hc
            subst hc
            rcases hi with ⟨-, rfl⟩ | ⟨hc, -⟩ | ⟨hc, -⟩
            · exact va_iast hx hb hK hP hD hS n 0 hws rfl hin hd (fun H1 locs1 hP1 hD1 hS1 => hn _ _ _ hh H1 locs1 la hl (hset n _ x _ len rs H1 hw (Or.inl rfl) hP1) hS1)
            all_goals cases hc
          · cases hh
        · split at hh
          · next hc =>
            have hc := Nat.eq_of_beq_eq_true hc
            subst hc
            rcases hi with ⟨hc, -⟩ | ⟨hc, -⟩ | ⟨-, rfl⟩
            · cases hc
            · cases hc
            · exact va_bast hx hb hK hP hD hS n 2 hws rfl hin hd (fun H1 locs1 hP1 hD1 hS1 => hn _ _ _ hh H1 locs1 la hl (hset n _ _ _ len rs H1 hw (Or.inr (Or.inl rfl)) hP1) hS1)
          · cases hh
        · split at hh
          · next hc =>
            have hc := Nat.eq_of_beq_eq_true hc
            subst hc
            rcases hi with ⟨hc, -⟩ | ⟨hc, -⟩ | ⟨-, rfl⟩
            · cases hc
            · cases hc
            · exact va_zast hx hb hK hP hD hS n 3 hws rfl hin hd (fun H1 locs1 hP1 hD1 hS1 => hn _ _ _ hh H1 locs1 la hl (hset n _ _ _ len rs H1 hw (Or.inr (Or.inr rfl)) hP1) hS1)
          · cases hh
        · cases hh
    · cases hh
  · next x i n t =>
    split at hh
    · next ty len rs hw =>
      have hws := zm_ws_at (cA := cA) (h := h) (M := M) hw
      split at hh
      · cases hh
      · next hin =>
        split at hh
        · split at hh
          · next hc =>
            have hc := Nat.eq_of_beq_eq_true hc
            subst hc
            rcases hi with ⟨hc, -⟩ | ⟨-, rfl⟩ | ⟨hc, -⟩
            · cases hc
            · refine va_last hx hb hK hP hD hS n 1 hws rfl hin hd (fun H1 locs1 hP1 hD1 hS1 => hn _ _ _ hh H1 locs1 la hl ?_ hS1)
              dsimp only
              rw [← zm_ws_set (M := M) (M' := (M.1, zm_wl M.2 n i.toNatClampNeg x)) hw rfl (fun k hk => ⟨rfl, zm_wl_ne hk⟩)]
              have he : zm_e cA h (M.1, zm_wl M.2 n i.toNatClampNeg x) n (Sum.inr (.long, len), rs) = .inl (cA .long, len, .inr (.inl (vp_updL (M.2 n) i.toNatClampNeg x))) := by
                simp only [zm_e, zm_row, zm_wl_eq]
              rw [he]
              exact hP1
            · cases hc
          · cases hh
        · cases hh
    · cases hh
  · cases hh
theorem zm_i_aln (B : zm_B p s m args meth c own cc nL T D cA h A R c0 s0) (hd : decode cc pc = .ok (.arraylength, 1)) (hh : zm_aln kn T.2.2.2.2 wl ls st M = some r)
    (hn : ∀ ls' st' M', kn ls' st' M' = some r → zm_G p l e R s m args below meth c Q D cA h wl A nL c0 s0 (pc + 1, ls', st', M')) : zm_G p l e R s m args below meth c Q D cA h wl A nL c0 s0 (pc, ls, st, M) := by
  intro H locs la hl hP hS
  obtain ⟨hx, hb, hml, hown, hts, hK, hr, hlk, hZ, hcs, hsc⟩ := B
  unfold zm_aln at hh
  split at hh
  · next n t =>
    split at hh
    · next ty len rs hw =>
      split at hh
      · exact va_alen hx hb hK (zm_get1 hP hw) 0 0 rfl rfl rfl hd (hn _ _ _ hh H locs la hl hP hS)
      · exact va_alen hx hb hK (zm_get1 hP hw) 0 1 rfl rfl rfl hd (hn _ _ _ hh H locs la hl hP hS)
      · cases hh
    · cases hh
  · next q t =>
    split at hh
    · next hq =>
      have hq1 := Nat.eq_of_beq_eq_true hq
      subst hq1
      split at hh
      · next x hx9 =>
        obtain ⟨hX, hbl, hbA⟩ := hsc x hx9
        exact va_slen hx hb hX hbl hbA hS hd (hn _ _ _ hh H locs la hl hP hS)
      · cases hh
    · cases hh
  · cases hh
theorem zm_i_cst (B : zm_B p s m args meth c own cc nL T D cA h A R c0 s0) (hO : ∀ (idx : Nat) (v : Value), zm_look T.2.1 idx = some v → zm_cok own idx v) {ct idx len : Nat} {ins : Instr} (hi : (ct = 0 ∧ ins = .ldc idx ∧ len = 2) ∨ (ct = 1 ∧ ins = .ldc2_w idx ∧ len = 3) ∨ (ct = 2 ∧ ins = .ldc_w idx ∧ len = 3)) (hd : decode cc pc = .ok (ins, len)) (hh : zm_cst kn T ct idx ls st M = some r)
    (hn : ∀ ls' st' M', kn ls' st' M' = some r → zm_G p l e R s m args below meth c Q D cA h wl A nL c0 s0 (pc + len, ls', st', M')) : zm_G p l e R s m args below meth c Q D cA h wl A nL c0 s0 (pc, ls, st, M) := by
  intro H locs la hl hP hS
  obtain ⟨hx, hb, hml, hown, hts, hK, hr, hlk, hZ, hcs, hsc⟩ := B
  unfold zm_cst at hh
  split at hh
  · next v hv =>
    split at hh
    · next hc =>
      have hc := Nat.eq_of_beq_eq_true hc
      subst hc
      rcases hi with ⟨-, rfl, rfl⟩ | ⟨hc, -⟩ | ⟨hc, -⟩
      · exact lv_ldc hx hb hown (hts _ (hO _ _ hv)) hd (hn _ _ _ hh H locs la hl hP hS)
      · cases hc
      · cases hc
    · split at hh
      · next hc =>
        have hc := Nat.eq_of_beq_eq_true hc
        subst hc
        rcases hi with ⟨hc, -⟩ | ⟨hc, -⟩ | ⟨-, rfl, rfl⟩
        · cases hc
        · cases hc
        · exact lv_ldcw hx hb hown (hts _ (hO _ _ hv)) hd (hn _ _ _ hh H locs la hl hP hS)
      · cases hh
  · next v hv =>
    split at hh
    · next hc =>
      have hc := Nat.eq_of_beq_eq_true hc
      subst hc
      rcases hi with ⟨hc, -⟩ | ⟨-, rfl, rfl⟩ | ⟨hc, -⟩
      · cases hc
      · exact lv_ldc2 hx hb hown (hts _ (hO _ _ hv)) hd (hn _ _ _ hh H locs la hl hP hS)
      · cases hc
    · cases hh
  · next v hv =>
    split at hh
    · next hc =>
      have hc := Nat.eq_of_beq_eq_true hc
      subst hc
      rcases hi with ⟨-, rfl, rfl⟩ | ⟨hc, -⟩ | ⟨hc, -⟩
      · obtain ⟨rfl, tx, htx⟩ := hO _ _ hv
        exact va_ldcS hx hb hown (hZ.2 _ _ htx) hd (hn _ _ _ hh H locs la hl hP hS)
      · cases hc
      · cases hc
    · cases hh
  · cases hh
theorem zm_i_m (hma : zm_mathok) (B : zm_B p s m args meth c own cc nL T D cA h A R c0 s0) {idx a : Nat} (hd : decode cc pc = .ok (.invokestatic idx, 3)) (hio : zm_iok R own (.invokestatic idx) (a + 1) 0)
    (hh : (match a with
    | 0 => zm_m2 kn (fun x y => if x < y then y else x) ls st M
    | 1 => zm_m2 kn (fun x y => if y < x then y else x) ls st M
    | _ => zm_m1 kn (fun x => if 0 ≤ x then x else 0 - x) ls st M) = some r)
    (hn : ∀ ls' st' M', kn ls' st' M' = some r → zm_G p l e R s m args below meth c Q D cA h wl A nL c0 s0 (pc + 3, ls', st', M')) : zm_G p l e R s m args below meth c Q D cA h wl A nL c0 s0 (pc, ls, st, M) := by
  intro H locs la hl hP hS
  obtain ⟨hx, hb, hml, hown, hts, hK, hr, hlk, hZ, hcs, hsc⟩ := B
  obtain ⟨m0, ⟨m1, m2⟩, ⟨m3, m4⟩, m5, m6⟩ := hma
  have hls : c.maxLocals = la.size := by rw [hml, hl.2.1]
  match a, hio, hh with
  | 0, hio, hh =>
    obtain ⟨y, x, t, rfl, hsum, h2⟩ := zm_m2_o hh
    obtain ⟨q1, q2, q3⟩ : zm_mok R own idx Lib.Math.max.name := hio
    exact va_mmax hx hb hls hown (hts _ q3) (hts _ m1) (hts _ m0) (hts _ m2) q1 (by rw [zm_cat_map]; omega) hcs.1 hcs.2 hd (hn _ _ _ h2 H locs la hl hP hS)
  | 1, hio, hh =>
    obtain ⟨y, x, t, rfl, hsum, h2⟩ := zm_m2_o hh
    obtain ⟨q1, q2, q3⟩ : zm_mok R own idx Lib.Math.min.name := hio
    exact va_mmin hx hb hls hown (hts _ q3) (hts _ m3) (hts _ m0) (hts _ m4) q1 (by rw [zm_cat_map]; omega) hcs.1 hcs.2 hd (hn _ _ _ h2 H locs la hl hP hS)
  | a + 2, hio, hh =>
    obtain ⟨x, t, rfl, hsum, h2⟩ := zm_m1_o hh
    obtain ⟨q1, q2, q3⟩ : zm_mok R own idx Lib.Math.abs.name := hio
    exact va_mabs hx hb hls hown (hts _ q3) (hts _ m5) (hts _ m0) (hts _ m6) q1 (by rw [zm_cat_map]; omega) hcs.1 hcs.2 hd (hn _ _ _ h2 H locs la hl hP hS)
theorem zm_i_if1 (B : zm_B p s m args meth c own cc nL T D cA h A R c0 s0) {co : ClassFile.Cond} {off : Int} (hd : decode cc pc = .ok (.ifCond co off, 3)) (ht : (pc : Int) + off = (zm_tg pc off : Int)) (hh : zm_if1 k kn co pc off ls st M = some r)
    (hk : ∀ S, k S = some r → zm_G p l e R s m args below meth c Q D cA h wl A nL c0 s0 S) (hn : ∀ ls' st' M', kn ls' st' M' = some r → zm_G p l e R s m args below meth c Q D cA h wl A nL c0 s0 (pc + 3, ls', st', M')) : zm_G p l e R s m args below meth c Q D cA h wl A nL c0 s0 (pc, ls, st, M) := by
  intro H locs la hl hP hS
  obtain ⟨hx, hb, hml, hown, hts, hK, hr, hlk, hZ, hcs, hsc⟩ := B
  unfold zm_if1 at hh
  split at hh
  · next x t =>
    split at hh
    · exact lv_if_eq hx hb hd ht (fun q => hk (zm_tg pc off, ls, t, M) (by rw [if_pos q] at hh; exact hh) H locs la hl hP hS) (fun q => hn _ _ _ (by rw [if_neg q] at hh; exact hh) H locs la hl hP hS)
    · exact lv_if_ne hx hb hd ht (fun q => hk (zm_tg pc off, ls, t, M) (by rw [if_neg q] at hh; exact hh) H locs la hl hP hS) (fun q => hn _ _ _ (by rw [if_pos q] at hh; exact hh) H locs la hl hP hS)
    · exact lv_if_lt hx hb hd ht (fun q => hk (zm_tg pc off, ls, t, M) (by rw [if_pos q] at hh; exact hh) H locs la hl hP hS) (fun q => hn _ _ _ (by rw [if_neg q] at hh; exact hh) H locs la hl hP hS)
    · exact lv_if_ge hx hb hd ht (fun q => hk (zm_tg pc off, ls, t, M) (by rw [if_pos q] at hh; exact hh) H locs la hl hP hS) (fun q => hn _ _ _ (by rw [if_neg q] at hh; exact hh) H locs la hl hP hS)
    · exact lv_if_gt hx hb hd ht (fun q => hk (zm_tg pc off, ls, t, M) (by rw [if_pos q] at hh; exact hh) H locs la hl hP hS) (fun q => hn _ _ _ (by rw [if_neg q] at hh; exact hh) H locs la hl hP hS)
    · exact lv_if_le hx hb hd ht (fun q => hk (zm_tg pc off, ls, t, M) (by rw [if_pos q] at hh; exact hh) H locs la hl hP hS) (fun q => hn _ _ _ (by rw [if_neg q] at hh; exact hh) H locs la hl hP hS)
  · cases hh
theorem zm_i_if2 (B : zm_B p s m args meth c own cc nL T D cA h A R c0 s0) {co : ClassFile.Cond} {off : Int} (hd : decode cc pc = .ok (.if_icmp co off, 3)) (ht : (pc : Int) + off = (zm_tg pc off : Int)) (hh : zm_if2 k kn co pc off ls st M = some r)
    (hk : ∀ S, k S = some r → zm_G p l e R s m args below meth c Q D cA h wl A nL c0 s0 S) (hn : ∀ ls' st' M', kn ls' st' M' = some r → zm_G p l e R s m args below meth c Q D cA h wl A nL c0 s0 (pc + 3, ls', st', M')) : zm_G p l e R s m args below meth c Q D cA h wl A nL c0 s0 (pc, ls, st, M) := by
  intro H locs la hl hP hS
  obtain ⟨hx, hb, hml, hown, hts, hK, hr, hlk, hZ, hcs, hsc⟩ := B
  unfold zm_if2 at hh
  split at hh
  · next y x t =>
    split at hh
    · exact lv_icmp_eq hx hb hd ht (fun q => hk (zm_tg pc off, ls, t, M) (by rw [if_pos q] at hh; exact hh) H locs la hl hP hS) (fun q => hn _ _ _ (by rw [if_neg q] at hh; exact hh) H locs la hl hP hS)
    · exact lv_icmp_ne hx hb hd ht (fun q => hk (zm_tg pc off, ls, t, M) (by rw [if_neg q] at hh; exact hh) H locs la hl hP hS) (fun q => hn _ _ _ (by rw [if_pos q] at hh; exact hh) H locs la hl hP hS)
    · exact lv_icmp_lt hx hb hd ht (fun q => hk (zm_tg pc off, ls, t, M) (by rw [if_pos q] at hh; exact hh) H locs la hl hP hS) (fun q => hn _ _ _ (by rw [if_neg q] at hh; exact hh) H locs la hl hP hS)
    · exact lv_icmp_ge hx hb hd ht (fun q => hk (zm_tg pc off, ls, t, M) (by rw [if_pos q] at hh; exact hh) H locs la hl hP hS) (fun q => hn _ _ _ (by rw [if_neg q] at hh; exact hh) H locs la hl hP hS)
    · exact lv_icmp_gt hx hb hd ht (fun q => hk (zm_tg pc off, ls, t, M) (by rw [if_pos q] at hh; exact hh) H locs la hl hP hS) (fun q => hn _ _ _ (by rw [if_neg q] at hh; exact hh) H locs la hl hP hS)
    · exact lv_icmp_le hx hb hd ht (fun q => hk (zm_tg pc off, ls, t, M) (by rw [if_pos q] at hh; exact hh) H locs la hl hP hS) (fun q => hn _ _ _ (by rw [if_neg q] at hh; exact hh) H locs la hl hP hS)
  · cases hh
theorem zm_i_sw (B : zm_B p s m args meth c own cc nL T D cA h A R c0 s0) {d lo hi : Int} {os : Array Int} {len : Nat} (hd : decode cc pc = .ok (.tableswitch d lo hi os, len)) (ht : ∀ o ∈ zm_offs (.tableswitch d lo hi os), (pc : Int) + o = (zm_tg pc o : Int)) (hh : zm_sw k pc d lo hi os ls st M = some r)
    (hk : ∀ S, k S = some r → zm_G p l e R s m args below meth c Q D cA h wl A nL c0 s0 S) : zm_G p l e R s m args below meth c Q D cA h wl A nL c0 s0 (pc, ls, st, M) := by
  intro H locs la hl hP hS
  obtain ⟨hx, hb, hml, hown, hts, hK, hr, hlk, hZ, hcs, hsc⟩ := B
  unfold zm_sw at hh
  split at hh
  · next x t =>
    split at hh
    · next hq => exact lv_tableOut hx hb hd hq (ht d List.mem_cons_self) (hk _ hh H locs la hl hP hS)
    · next hq =>
      split at hh
      · next off ho =>
        have hm : off ∈ os.toList := by
          have := Array.mem_of_getElem? ho
          exact Array.mem_toList_iff.mpr this
        exact lv_tableIn hx hb hd (fun q => hq (Or.inl q)) (fun q => hq (Or.inr q)) ho (ht off (List.mem_cons_of_mem _ hm)) (hk _ hh H locs la hl hP hS)
      · cases hh
  · cases hh
end ZMS
end
section
/-! THE BLOCKS OF A CALL -/
theorem zm_fw_iv : ∀ (bs : List (Nat × Nat)) (n : Nat), zm_fw bs (zm_iv bs n) = n
  | [], n => rfl
  | (a, z) :: bs, n => by
    simp only [zm_iv]
    split
    · next h => simp only [zm_fw]; rw [if_pos (by omega)]; omega
    · next h => simp only [zm_fw]; rw [if_neg (by omega), Nat.add_sub_cancel_left]; exact zm_fw_iv bs n
theorem zm_fw_bd : ∀ (bs : List (Nat × Nat)) (N k : Nat), zm_bound N bs = true → k < zm_tot bs → zm_fw bs k < N
  | [], N, k, _, h => by simp [zm_tot] at h
  | (a, z) :: bs, N, k, hb, h => by
    simp only [zm_bound, Bool.and_eq_true, Nat.ble_eq] at hb
    simp only [zm_tot] at h
    simp only [zm_fw]
    split
    · omega
    · exact zm_fw_bd bs N (k - z) hb.2 (by omega)
theorem zm_fw_ap : ∀ (bs : List (Nat × Nat)) (a z k : Nat), zm_apart a z bs = true → k < zm_tot bs → ¬ (a ≤ zm_fw bs k ∧ zm_fw bs k < a + z)
  | [], a, z, k, _, h => by simp [zm_tot] at h
  | (b, y) :: bs, a, z, k, ha, h => by
    simp only [zm_apart, Bool.and_eq_true, Bool.or_eq_true, Nat.ble_eq] at ha
    simp only [zm_tot] at h
    simp only [zm_fw]
    split
    · omega
    · exact zm_fw_ap bs a z (k - y) ha.2 (by omega)
theorem zm_iv_fw : ∀ (bs : List (Nat × Nat)) (k : Nat), zm_dis bs = true → k < zm_tot bs → zm_iv bs (zm_fw bs k) = k
  | [], k, _, h => by simp [zm_tot] at h
  | (a, z) :: bs, k, hd, h => by
    simp only [zm_dis, Bool.and_eq_true] at hd
    simp only [zm_tot] at h
    simp only [zm_fw]
    by_cases hk : k < z
    · rw [if_pos hk]; simp only [zm_iv]; rw [if_pos (by omega)]; omega
    · rw [if_neg hk]; simp only [zm_iv]
      rw [if_neg (zm_fw_ap bs a z (k - z) hd.1 (by omega)), zm_iv_fw bs (k - z) hd.2 (by omega)]
      omega
theorem zm_in_fw : ∀ (bs : List (Nat × Nat)) (k : Nat), k < zm_tot bs → zm_in bs (zm_fw bs k) = true
  | [], k, h => by simp [zm_tot] at h
  | (a, z) :: bs, k, h => by
    simp only [zm_tot] at h
    simp only [zm_fw]
    by_cases hk : k < z
    · rw [if_pos hk]; simp only [zm_in, Bool.or_eq_true, Bool.and_eq_true, Nat.ble_eq]; left; omega
    · rw [if_neg hk]; simp only [zm_in, Bool.or_eq_true]; right; exact zm_in_fw bs (k - z) (by omega)
theorem zm_in_iv : ∀ (bs : List (Nat × Nat)) (n : Nat), zm_in bs n = true → zm_iv bs n < zm_tot bs
  | [], n, h => by simp [zm_in] at h
  | (a, z) :: bs, n, h => by
    simp only [zm_in, Bool.or_eq_true, Bool.and_eq_true, Nat.ble_eq] at h
    simp only [zm_iv, zm_tot]
    split
    · omega
    · next hq =>
      rcases h with h | h
      · omega
      · have := zm_in_iv bs n h; omega
theorem zm_cv_tr (h : Nat → Nat → Nat) (bs : List (Nat × Nat)) (v : Value) : zm_cv (zm_hr h bs) (zm_tr bs v) = zm_cv h v := by
  cases v <;> simp [zm_cv, zm_tr, zm_hr, zm_fw_iv]
theorem zm_cv_bk (h : Nat → Nat → Nat) (bs : List (Nat × Nat)) (v : Value) : zm_cv (zm_hr h bs) v = zm_cv h (zm_bk bs v) := by
  cases v <;> rfl
theorem zm_tr_getD (bs : List (Nat × Nat)) (rs : List Value) (f : Nat) : (rs.map (zm_tr bs)).getD f .null = zm_tr bs (rs.getD f .null) := by
  simp only [List.getD_eq_getElem?_getD, List.getElem?_map]
  cases rs[f]? <;> rfl
theorem zm_rr_tr (h : Nat → Nat → Nat) (bs : List (Nat × Nat)) (v : Value) : zm_rr (zm_hr h bs) (zm_tr bs v) = zm_rr h v := by
  cases v <;> simp [zm_rr, zm_tr, zm_hr, zm_fw_iv]
theorem zm_e_sub {cA : FieldType → ClassId} {h : Nat → Nat → Nat} {bs : List (Nat × Nat)} {M N : zm_I} {k n : Nat} (d : zm_D × List Value) (h1 : N.1 k = M.1 n) (h2 : N.2 k = M.2 n) : zm_e cA (zm_hr h bs) N k (d.1, d.2.map (zm_tr bs)) = zm_e cA h M n d := by
  obtain ⟨ci | ⟨ty, len⟩, rs⟩ := d
  · have hv : ∀ (ty : FieldType) (f : Nat), zm_cv (zm_hr h bs) (zm_vA N k (rs.map (zm_tr bs)) ty f) = zm_cv h (zm_vA M n rs ty f) := by
      intro ty f
      cases ty <;> simp only [zm_vA, h1, h2, zm_tr_getD, zm_cv_tr] <;> rfl
    simp only [zm_e, hv]
  · have hr : zm_row (zm_hr h bs) N k (rs.map (zm_tr bs)) ty = zm_row h M n rs ty := by
      cases ty <;> simp only [zm_row, h1, h2, zm_tr_getD, zm_rr_tr]
    simp only [zm_e, hr]
theorem zm_sub_get {bs : List (Nat × Nat)} {wl : zm_L} {k : Nat} (hb : zm_bound wl.length bs = true) (hk : k < zm_tot bs) : ∃ d, wl[zm_fw bs k]? = some d ∧ (zm_sub bs wl)[k]? = some (d.1, d.2.map (zm_tr bs)) := by
  have hl := zm_fw_bd bs _ k hb hk
  refine ⟨wl[zm_fw bs k], List.getElem?_eq_getElem hl, ?_⟩
  simp only [zm_sub, List.getElem?_map, List.getElem?_range hk, Option.map_some, List.getElem?_eq_getElem hl]
theorem zm_sub_len {bs : List (Nat × Nat)} {wl : zm_L} : (zm_sub bs wl).length = zm_tot bs := by simp [zm_sub]
section ZMC
variable {p : Program} {l : Launch} {e : Env} {R : Room} {s : State} {m : MethodId} {args : Array Value} {below : List Frame} {meth : Method} {c : Code}
theorem zm_callW {Q : State → Prop} {D : va_G} {cA : FieldType → ClassId} {h : Nat → Nat → Nat} {wl : zm_L} {A0 A1 : Nat → Prop} {H0 H : Heap} {locs : List Loc} {free : Addr → Prop} {a : Array Value} {r : Option Value × zm_I} {pc c0 s0 : Nat} {la : Array Slot} {st0 rest : List Value}
    (hr : va_Run p l e R s m args below meth c H locs c0 s0 0 0 (F0 m pc la st0) rest (zm_Q D cA h wl A1 r a) free) (hS : va_S A0 H0 H locs) (hA : ∀ q, q < H.size → A1 q → A0 q) (hf : ∀ q, free q → A0 q)
    (kk : ∀ (H1 : Heap) (locs1 : List Loc), va_P D zm_cl (zm_ws cA h wl r.2) H1 → H.size ≤ H1.size → (∀ q : Nat, q < H.size → ¬ A1 q → H1[q]? = H[q]?) → va_S A0 H0 H1 locs1 → W p l e R s m args below meth c H1 locs1 c0 s0 Q (F0 m (pc + 3) la ((r.1.map (zm_cv h)).toList ++ rest))) :
    W p l e R s m args below meth c H locs c0 s0 Q (F0 m pc la st0) := by
  intro T hT X
  obtain ⟨v, st₀, t, T', L, h0, X', hL, e1, e2, ⟨hv, hP, hz, hk⟩, st⟩ := hr T hT X
  cases hv
  rw [h0] at hz hk
  obtain ⟨t2, a1, b1⟩ := kk T'.heap (locs ++ L) (by rw [e1]; exact hP) (by rw [e1]; exact hz) (fun q h1 h2 => by rw [e1]; exact hk q h1 h2)
    ⟨Nat.le_trans hS.1 (by rw [e1]; exact hz), fun q h1 h2 => by rw [e1, hk q (Nat.lt_of_lt_of_le h1 hS.1) (fun z => h2 (hA q (Nat.lt_of_lt_of_le h1 hS.1) z))]; exact hS.2.1 q h1 h2, fun q hq => by
      rcases List.mem_append.mp hq with h | h
      · exact hS.2.2 q h
      · exact hf _ (hL q h)⟩ T' rfl X'
  exact ⟨t2, st t2 a1, b1⟩
theorem zm_blind {D : va_G} {cA : FieldType → ClassId} {h : Nat → Nat → Nat} {wl : zm_L} {sz : Nat} {av : List Value} {M : zm_I} : FrameBlind (zm_Pc D cA h wl sz av M) := by
  intro a U g mk q
  obtain ⟨q0, q1, qP, qK, qD, qw, ⟨adV, qz, qz3, qz4⟩, qr⟩ := q
  exact ⟨q0, q1, qP, va_K.moved (u := U) (U := U.calling g mk a) (Vm.Alike.refl U.vm) qK, qD, qw, ⟨adV, vk_S.moved (u := U) (U := U.calling g mk a) (Vm.Alike.refl U.vm) qz, va_Z.moved (u := U) (U := U.calling g mk a) (Vm.Alike.refl U.vm) qz3, va_Zq.moved (u := U) (U := U.calling g mk a) (Vm.Alike.refl U.vm) qz4⟩, fun i x hx => (qr i x hx).same (U := U.calling g mk a) rfl⟩
/-- the call itself, of any kind -/
theorem zm_runC {D : va_G} {cA : FieldType → ClassId} {own : String} {cc : ByteArray} {nL : Nat} {T : zm_T} {hB : Nat → Nat → Nat} {AB : Nat → Prop} {c0 s0 : Nat} (B : zm_B p s m args meth c own cc nL T D cA hB AB R c0 s0) {idx : Nat} {C : zm_C} (hC : zm_callok l R own idx C) {ct : Nat} {ins : Instr} (hi : (ct = 0 ∧ ins = .invokevirtual idx) ∨ (ct = 1 ∧ ins = .invokestatic idx)) {pc : Nat} (hd : decode cc pc = .ok (ins, 3))
    (hct : (match C.2.1 with
    | some _ => Nat.beq ct 0
    | none => Nat.beq ct 1) = true)
    {h : Nat → Nat → Nat} {wl : zm_L} {M : zm_I} {H : Heap} {locs : List Loc} {la : Array Slot} (hla : la.size = nL) {as rest : List Value} (hn : as.length = C.1) (hsum : (rest.map fun v => v.category).sum ≤ 8) (hP : va_P D zm_cl (zm_ws cA h wl M) H) (hrv : zm_recv wl as C.2.1 = true)
    {h' : Nat → Nat → Nat} {wl' : zm_L} {M' : zm_I} {av : List Value} {r : Option Value × zm_I} (hF : C.2.2.2.2 wl' av M' = some r) (hav : av.map (zm_cv h') = as.map (zm_cv h)) (hP' : va_P D zm_cl (zm_ws cA h' wl' M') H) (hD' : va_D (fun _ => True) (zm_ws cA h' wl' M')) (hw' : zm_wok wl') (hZ' : ∀ U : State, U.heap = H → s.WarmedH U.vm → zm_Z (h' 1) (va_A (zm_ws cA h' wl' M') H.size) U H)
    (hrS : ∀ k, k < 13 → ∃ cellB : Cell, H[h 1 k]? = some cellB ∧ cellB.vm.isStatics = false ∧ s.vm.findClass RJ0 = some cellB.cls) :
    va_Run p l e R s m args below meth c H locs c0 s0 0 0 (F0 m pc la ((as.map (zm_cv h)).reverse ++ rest)) rest (zm_Q D cA h' wl' (va_A (zm_ws cA h' wl' M') H.size) r (as.map (zm_cv h)).toArray) (va_A (zm_ws cA h' wl' M') H.size) := by
  obtain ⟨hx, hb, hml, hown, hts, hK, hr, hlk, hZ, hcs, hsc⟩ := B
  obtain ⟨y, bytes, maxL, ret, rm, n, hcon, hrc, hrs, hR, hcode, hlink, hini, hyd, hkind⟩ := hC
  have hM := hcon D cA h' wl' H.size av M' r hF
  have hG : GoodIn zm_tbl (Jvm.Cond.code y bytes maxL ret :: zm_tbl) := by
    intro w hw
    rcases List.mem_cons.mp hw with rfl | hw
    · exact zm_good _ hcode
    · exact zm_good _ hw
  have hfix : CallFix p m c cc nL s args zm_tbl own := ⟨hx, hb, hml, hown, hts⟩
  have hpc : ∀ U : State, U.heap = H → s.WarmedH U.vm → zm_Pc D cA h' wl' H.size av M' (as.map (zm_cv h)).toArray U := by
    intro U hU hW
    exact ⟨by rw [hav], by rw [hU], by rw [hU]; exact hP', va_K.moved hW.alike hK, hD', hw', by rw [hU]; exact hZ' U hU hW⟩
  cases hc : C.2.1 with
  | some ci =>
    rw [hc] at hkind hct hrv
    obtain ⟨hCn, hinst, hsel, hrk⟩ := hkind
    have hct := Nat.eq_of_beq_eq_true hct
    subst hct
    have hGV : GoodIn zm_tbl (wsV own idx y.cls y (Jvm.Cond.code y bytes maxL ret :: zm_tbl)) := by
      intro w hw
      unfold wsV at hw
      rcases List.mem_append.mp hw with hw | hw
      · simp only [List.mem_cons, List.not_mem_nil, or_false] at hw
        rcases hw with rfl | rfl | rfl | rfl
        · exact zm_good _ hlink
        · exact zm_good _ hinst
        · exact zm_good _ hsel
        · exact zm_good _ hini
      · exact hG w hw
    rcases hi with ⟨-, rfl⟩ | ⟨hq, -⟩
    · cases as with
      | nil => simp [zm_recv] at hrv
      | cons v As =>
        simp only [zm_recv] at hrv
        have hrec : ∃ b, zm_cv h v = .ref b ∧ ∃ cellB : Cell, H[b]? = some cellB ∧ cellB.vm.isStatics = false ∧ s.vm.findClass y.cls = some cellB.cls := by
          unfold zm_isO at hrv
          split at hrv
          · next nh =>
            split at hrv
            · next ci' rs hw =>
              have hci := Nat.eq_of_beq_eq_true hrv
              subst hci
              refine ⟨h 0 nh, rfl, ?_⟩
              obtain ⟨r0, g1, cell, q1, q2, q3, -⟩ := hP nh _ (zm_ws_at hw)
              refine ⟨cell, q1, by rw [q3]; rfl, ?_⟩
              rcases hrk with ⟨rr, hcl, hcls⟩ | ⟨he, -⟩
              · have e9 : r0 = rr := Option.some.inj (g1.symm.trans hcl)
                subst e9
                rw [q2, ← hcls]
                exact (hK.1 ci' _ hcl).2.1
              · exfalso
                subst he
                have g2 : zm_cl[99]? = some r0 := g1
                simp [zm_cl] at g2
            · cases hrv
          · next k =>
            rw [Bool.and_eq_true] at hrv
            have hci := Nat.eq_of_beq_eq_true hrv.1
            have hk : k < 13 := Nat.le_of_ble_eq_true hrv.2
            refine ⟨h 1 k, rfl, ?_⟩
            rcases hrk with ⟨rr, hcl, hcls⟩ | ⟨-, hy⟩
            · exfalso
              subst hci
              simp [zm_cl] at hcl
            · rw [hy]
              exact hrS k hk
          · cases hrv
        obtain ⟨b9, hb9, hrec⟩ := hrec
        refine va_runV (b := b9) (As := As.map (zm_cv h)) hfix hM (cwV n hts hGV rfl hrc hrs ⟨rfl, hyd⟩ hR) ⟨zm_blind, hrec, ?_⟩ rfl ?_ hla ?_ (lv_room hsum) hd ⟨hcs.1, hcs.2⟩
        · rw [← hb9]; exact hpc
        · simp only [List.length_map]; simp only [List.length_cons] at hn; omega
        · simp [hb9]
    · cases hq
  | none =>
    rw [hc] at hkind hct
    obtain ⟨hCn, hstat⟩ := hkind
    have hct := Nat.eq_of_beq_eq_true hct
    subst hct
    rcases hi with ⟨hq, -⟩ | ⟨-, rfl⟩
    · cases hq
    · refine va_runS (As := as.map (zm_cv h)) hfix hM ⟨callB_of n hts hG rfl hrc hrs (hts _ hini) (hts _ hlink) hyd hR, hts _ hstat⟩ ⟨zm_blind, hpc⟩ rfl ?_ hla rfl (lv_room hsum) hd ⟨hcs.1, hcs.2⟩
      simp only [List.length_map]; omega
end ZMC
end
section
/-! CALLS, RETURNS, EVERY INSTRUCTION, EVERY RUN -/
theorem zm_tolist (h : Nat → Nat → Nat) (v : Option Value) (rest : List Value) : (v.map (zm_cv h)).toList ++ rest.map (zm_cv h) = (v.toList ++ rest).map (zm_cv h) := by
  cases v <;> simp
section ZMA
variable {p : Program} {l : Launch} {e : Env} {R : Room} {s : State} {m : MethodId} {args : Array Value} {below : List Frame} {meth : Method} {c : Code}
variable {Q : State → Prop} {D : va_G} {cA : FieldType → ClassId} {h : Nat → Nat → Nat} {wl : zm_L} {A : Nat → Prop} {nL c0 s0 : Nat} {own : String} {cc : ByteArray} {T : zm_T} {pc : Nat} {ls : List (Option Value)} {st : List Value} {M : zm_I} {r : Option Value × zm_I} {k : zm_S → zm_R} {kn : zm_N}
theorem zm_i_call (B : zm_B p s m args meth c own cc nL T D cA h A R c0 s0) (hO : ∀ (idx : Nat) (C : zm_C), zm_look T.2.2.1 idx = some C → zm_callok l R own idx C) (hD : va_D A (zm_ws cA h wl M)) (hA : ∀ q, s.heap.size ≤ q → A q) (hw : zm_wok wl) {ct idx : Nat} {ins : Instr} (hi : (ct = 0 ∧ ins = .invokevirtual idx) ∨ (ct = 1 ∧ ins = .invokestatic idx)) (hd : decode cc pc = .ok (ins, 3)) (hh : zm_cl3 kn T wl ct idx ls st M = some r)
    (hn : ∀ ls' st' M', kn ls' st' M' = some r → zm_G p l e R s m args below meth c Q D cA h wl A nL c0 s0 (pc + 3, ls', st', M')) : zm_G p l e R s m args below meth c Q D cA h wl A nL c0 s0 (pc, ls, st, M) := by
  intro H locs la hl hP hS
  have hZ0 : zm_Z (h 1) A s s.heap := B.2.2.2.2.2.2.2.2.1
  unfold zm_cl3 at hh
  split at hh
  · next C hC =>
    split at hh
    · next hb =>
      simp only [Bool.and_eq_true, Nat.ble_eq] at hb
      obtain ⟨⟨hb1, hb2⟩, hb3⟩ := hb
      have hst : st.map (zm_cv h) = ((st.take C.1).reverse.map (zm_cv h)).reverse ++ (st.drop C.1).map (zm_cv h) := by
        rw [← List.map_reverse, List.reverse_reverse, ← List.map_append, List.take_append_drop]
      have hsum : (((st.drop C.1).map (zm_cv h)).map fun v => v.category).sum ≤ 8 := by
        rw [List.map_map]
        have e9 : ((fun v : Value => v.category) ∘ zm_cv h) = fun v => v.category := by funext v; exact zm_cv_cat h v
        rw [e9]
        exact hb2
      have hlen : (st.take C.1).reverse.length = C.1 := by simp; omega
      generalize (st.take C.1).reverse = as at hh hst hlen
      dsimp only
      rw [hst]
      unfold zm_app at hh
      split at hh
      · cases hh
      · next hrv =>
        split at hh
        · split at hh
          · next v N hF =>
            have hfree : ∀ q, va_A (zm_ws cA h wl M) H.size q → A q := by
              intro q hq
              rcases hq with ⟨k9, e9, hq⟩ | hq
              · exact hD.2 k9 _ hq
              · exact hA q (Nat.le_trans hS.1 hq)
            have hrun := zm_runC (locs := locs) (e := e) (below := below) B (hO _ _ hC) hi hd hb3 hl.2.1 hlen hsum hP hrv hF rfl hP (hD.weaken (fun _ _ _ _ => trivial)) hw (fun U _ hW => zm_Z_go hZ0 hS hW hfree) (fun k hk => by obtain ⟨⟨adV, h1, -, -⟩, -⟩ := hZ0; exact vk_recv h1 hk hS)
            refine zm_callW hrun hS (fun q _ hq => hfree q hq) hfree (fun H1 locs1 hP1 _ _ hS1 => ?_)
            rw [zm_tolist]
            exact hn _ _ _ hh H1 locs1 la hl hP1 hS1
          · cases hh
        · split at hh
          · cases hh
          · next bs hbs =>
            split at hh
            · cases hh
            · next hdb =>
              simp only [Bool.and_eq_true] at hdb
              obtain ⟨hdis, hbd⟩ := hdb
              split at hh
              · next v N hF =>
                have hget : ∀ {X : zm_I} {k9 : Nat} {q : Nat × va_E}, (zm_ws cA (zm_hr h bs) (zm_sub bs wl) X)[k9]? = some q → ∃ d, k9 < zm_tot bs ∧ wl[zm_fw bs k9]? = some d ∧ q = (h 0 (zm_fw bs k9), zm_e cA (zm_hr h bs) X k9 (d.1, d.2.map (zm_tr bs))) := by
                  intro X k9 q hq
                  obtain ⟨d, h1, rfl⟩ := zm_ws_of hq
                  have hk : k9 < zm_tot bs := by
                    have := (List.getElem?_eq_some_iff.mp h1).1
                    rwa [zm_sub_len] at this
                  obtain ⟨d0, g1, g2⟩ := zm_sub_get hbd hk
                  rw [h1] at g2
                  cases g2
                  exact ⟨d0, hk, g1, rfl⟩
                have hP' : va_P D zm_cl (zm_ws cA (zm_hr h bs) (zm_sub bs wl) (fun n => M.1 (zm_fw bs n), fun n => M.2 (zm_fw bs n))) H := by
                  intro k9 q hq
                  obtain ⟨d, hk, g1, rfl⟩ := hget hq
                  rw [zm_e_sub (N := (fun n => M.1 (zm_fw bs n), fun n => M.2 (zm_fw bs n))) (k := k9) (M := M) (n := zm_fw bs k9) d rfl rfl]
                  exact hP _ _ (zm_ws_at g1)
                have hD' : va_D (fun _ => True) (zm_ws cA (zm_hr h bs) (zm_sub bs wl) (fun n => M.1 (zm_fw bs n), fun n => M.2 (zm_fw bs n))) := by
                  refine ⟨fun i j p q hi hj hpq => ?_, fun _ _ _ => trivial⟩
                  obtain ⟨d1, hk1, g1, rfl⟩ := hget hi
                  obtain ⟨d2, hk2, g2, rfl⟩ := hget hj
                  have := hD.1 _ _ _ _ (zm_ws_at g1) (zm_ws_at g2) hpq
                  have e9 := congrArg (zm_iv bs) this
                  rwa [zm_iv_fw bs i hdis hk1, zm_iv_fw bs j hdis hk2] at e9
                have hw' : zm_wok (zm_sub bs wl) := by
                  intro n C9 len rs hq
                  have hk : n < zm_tot bs := by
                    have := (List.getElem?_eq_some_iff.mp hq).1
                    rwa [zm_sub_len] at this
                  obtain ⟨⟨d01, d02⟩, g1, g2⟩ := zm_sub_get hbd hk
                  rw [hq] at g2
                  simp only [Option.some.injEq, Prod.mk.injEq] at g2
                  rw [← g2.1] at g1
                  exact hw _ _ _ _ g1
                have hin : ∀ q, (∃ (k9 : Nat) (e9 : va_E), (zm_ws cA (zm_hr h bs) (zm_sub bs wl) (fun n => M.1 (zm_fw bs n), fun n => M.2 (zm_fw bs n)))[k9]? = some (q, e9)) → ∃ k9, k9 < zm_tot bs ∧ q = h 0 (zm_fw bs k9) ∧ A q := by
                  intro q ⟨k9, e9, hq⟩
                  obtain ⟨d, hk, g1, g2⟩ := hget hq
                  have e1 : q = h 0 (zm_fw bs k9) := congrArg Prod.fst g2
                  exact ⟨k9, hk, e1, by rw [e1]; exact hD.2 _ _ (zm_ws_at g1)⟩
                have hfree : ∀ q, va_A (zm_ws cA (zm_hr h bs) (zm_sub bs wl) (fun n => M.1 (zm_fw bs n), fun n => M.2 (zm_fw bs n))) H.size q → A q := by
                  intro q hq
                  rcases hq with hq | hq
                  · obtain ⟨_, _, _, g⟩ := hin q hq
                    exact g
                  · exact hA q (Nat.le_trans hS.1 hq)
                have hrun := zm_runC (locs := locs) (e := e) (below := below) B (hO _ _ hC) hi hd hb3 hl.2.1 hlen hsum hP hrv (h' := zm_hr h bs) hF (by rw [List.map_map]; apply List.map_congr_left; intro v _; exact zm_cv_tr h bs v) hP' hD' hw' (fun U _ hW => zm_Z_go hZ0 hS hW hfree) (fun k hk => by obtain ⟨⟨adV, h1, -, -⟩, -⟩ := hZ0; exact vk_recv h1 hk hS)
                refine zm_callW hrun hS (fun q _ hq => hfree q hq) hfree (fun H1 locs1 hP1 _ hkeep hS1 => ?_)
                have e8 : (v.map (zm_cv (zm_hr h bs))) = (v.map (zm_bk bs)).map (zm_cv h) := by
                  cases v with
                  | none => rfl
                  | some v => simp only [Option.map_some]; rw [zm_cv_bk]
                dsimp only
                rw [e8, zm_tolist]
                refine hn _ _ _ hh H1 locs1 la hl ?_ hS1
                intro n q hq
                obtain ⟨d, g1, rfl⟩ := zm_ws_of hq
                dsimp only at g1 ⊢
                cases hin9 : zm_in bs n with
                | true =>
                  have hk9 := zm_in_iv bs n hin9
                  obtain ⟨d0, f1, f2⟩ := zm_sub_get hbd hk9
                  rw [zm_fw_iv, g1] at f1
                  cases f1
                  have := hP1 (zm_iv bs n) _ (zm_ws_at f2)
                  rw [zm_e_sub (M := zm_mrg bs M N) (n := n) d (by funext i; simp only [zm_mrg, hin9]) (by funext i; simp only [zm_mrg, hin9])] at this
                  rw [show zm_hr h bs 0 (zm_iv bs n) = h 0 (zm_fw bs (zm_iv bs n)) from rfl, zm_fw_iv] at this
                  exact this
                | false =>
                  have hold := hP n _ (zm_ws_at g1)
                  rw [zm_e_congr (M := M) (M' := zm_mrg bs M N) d (by funext i; simp only [zm_mrg, hin9]) (by funext i; simp only [zm_mrg, hin9])]
                  refine hold.kept (hkeep (h 0 n) hold.lt (fun hq9 => ?_))
                  rcases hq9 with hq9 | hq9
                  · obtain ⟨k9, hk9, e9, -⟩ := hin _ hq9
                    obtain ⟨d0, f1, -⟩ := zm_sub_get hbd hk9
                    have := hD.1 _ _ _ _ (zm_ws_at (cA := cA) (h := h) (M := M) g1) (zm_ws_at (cA := cA) (h := h) (M := M) f1) e9
                    rw [this, zm_in_fw bs k9 hk9] at hin9
                    cases hin9
                  · exact absurd hold.lt (Nat.not_lt.mpr hq9)
              · cases hh
    · cases hh
  · cases hh
theorem zm_i_ret (B : zm_B p s m args meth c own cc nL T D cA h A R c0 s0) {ct : Nat} {ins : Instr} (hi : (ct = 0 ∧ ins = .ireturn) ∨ (ct = 1 ∧ ins = .lreturn) ∨ (ct = 2 ∧ ins = .areturn) ∨ (ct = 3 ∧ ins = .return_)) (hd : decode cc pc = .ok (ins, 1)) (hh : zm_ret T ct st M = some r) : zm_G p l e R s m args below meth c (MQ below (zm_Q D cA h wl A r) args s c0 s0 A) D cA h wl A nL c0 s0 (pc, ls, st, M) := by
  intro H locs la hl hP hS
  obtain ⟨hx, hb, hml, hown, hts, hK, hr, hlk, hZ, hcs, hsc⟩ := B
  unfold zm_ret at hh
  split at hh
  · split at hh
    · next hT =>
      split at hh
      · next hc =>
        have hc := Nat.eq_of_beq_eq_true hc
        subst hc
        rcases hi with ⟨hc, -⟩ | ⟨hc, -⟩ | ⟨hc, -⟩ | ⟨-, rfl⟩
        · cases hc
        · cases hc
        · cases hc
        · cases hh
          exact W.vret hx hb (by rw [hr, hT]) (fun t ht hW => ⟨rfl, by rw [ht]; exact hP, hS.F ht⟩) hS.2.2 hd
      · cases hh
    · cases hh
  · next x =>
    split at hh
    · cases hh
    · next hc =>
      have hc := Nat.eq_of_beq_eq_true hc
      subst hc
      rcases hi with ⟨-, rfl⟩ | ⟨hc, -⟩ | ⟨hc, -⟩ | ⟨hc, -⟩
      · split at hh
        · next hT =>
          cases hh
          exact W.zret (ty := .int) hx hb (by rw [hr, hT]) rfl (fun t ht hW => ⟨rfl, by rw [ht]; exact hP, hS.F ht⟩) hS.2.2 hd
        · next hT =>
          split at hh
          · next h01 =>
            cases hh
            exact W.zret (ty := .boolean) hx hb (by rw [hr, hT]) (by rcases h01 with rfl | rfl <;> rfl) (fun t ht hW => ⟨rfl, by rw [ht]; exact hP, hS.F ht⟩) hS.2.2 hd
          · cases hh
        · cases hh
      all_goals cases hc
  · next x =>
    split at hh
    · cases hh
    · next hc =>
      have hc := Nat.eq_of_beq_eq_true hc
      subst hc
      rcases hi with ⟨hc, -⟩ | ⟨-, rfl⟩ | ⟨hc, -⟩ | ⟨hc, -⟩
      · cases hc
      · split at hh
        · next hT =>
          cases hh
          exact W.lret hx hb (by rw [hr, hT]) (fun t ht hW => ⟨rfl, by rw [ht]; exact hP, hS.F ht⟩) hS.2.2 hd
        · cases hh
      all_goals cases hc
  · next x =>
    split at hh
    · cases hh
    · next hc =>
      have hc := Nat.eq_of_beq_eq_true hc
      subst hc
      rcases hi with ⟨hc, -⟩ | ⟨hc, -⟩ | ⟨-, rfl⟩ | ⟨hc, -⟩
      · cases hc
      · cases hc
      · split at hh
        · next hT =>
          cases hh
          exact W.aret hx hb (by rw [hr, hT]) (Or.inl ⟨_, rfl⟩) (Or.inr ⟨_, rfl⟩) (fun t ht hW => ⟨rfl, by rw [ht]; exact hP, hS.F ht⟩) hS.2.2 hd
        · cases hh
      · cases hc
  · split at hh
    · cases hh
    · next hc =>
      have hc := Nat.eq_of_beq_eq_true hc
      subst hc
      rcases hi with ⟨hc, -⟩ | ⟨hc, -⟩ | ⟨-, rfl⟩ | ⟨hc, -⟩
      · cases hc
      · cases hc
      · split at hh
        · next hT =>
          cases hh
          exact W.aret hx hb (by rw [hr, hT]) (Or.inl ⟨_, rfl⟩) (Or.inl rfl) (fun t ht hW => ⟨rfl, by rw [ht]; exact hP, hS.F ht⟩) hS.2.2 hd
        · cases hh
      · cases hc
  · cases hh
theorem zm_i_stk (B : zm_B p s m args meth c own cc nL T D cA h A R c0 s0) {i : Instr} (hdec : zm_dec cc pc i = true) (hh : zm_stk k kn i pc ls st M = some r)
    (hk : ∀ S, k S = some r → zm_G p l e R s m args below meth c Q D cA h wl A nL c0 s0 S) (hn : ∀ ls' st' M', kn ls' st' M' = some r → zm_G p l e R s m args below meth c Q D cA h wl A nL c0 s0 (pc + zm_len i, ls', st', M')) : zm_G p l e R s m args below meth c Q D cA h wl A nL c0 s0 (pc, ls, st, M) := by
  intro H locs la hl hP hS
  obtain ⟨hx, hb, hml, hown, hts, hK, hr, hlk, hZ, hcs, hsc⟩ := B
  unfold zm_stk at hh
  split at hh
  · have hd := zm_dec_o hdec rfl
    split at hh
    · exact lv_i2l hx hb hd rfl (hn _ _ _ hh H locs la hl hP hS)
    · cases hh
  · have hd := zm_dec_o hdec rfl
    split at hh
    · exact lv_l2i hx hb hd rfl (hn _ _ _ hh H locs la hl hP hS)
    · cases hh
  · have hd := zm_dec_o hdec rfl
    split at hh
    · exact W.lcmp hx hb hd (hn _ _ _ hh H locs la hl hP hS)
    · cases hh
  · have hd := zm_dec_o hdec rfl
    split at hh
    · exact lv_dup hx hb hd rfl (hn _ _ _ hh H locs la hl hP hS)
    · exact lv_dup hx hb hd rfl (hn _ _ _ hh H locs la hl hP hS)
    · cases hh
  · have hd := zm_dec_o hdec rfl
    split at hh
    · exact lv_dup2_11 hx hb hd rfl rfl (hn _ _ _ hh H locs la hl hP hS)
    · exact lv_dup2_2 hx hb hd rfl (hn _ _ _ hh H locs la hl hP hS)
    · cases hh
  · have hd := zm_dec_o hdec rfl
    split at hh
    · exact lv_pop hx hb hd rfl (hn _ _ _ hh H locs la hl hP hS)
    · cases hh
  · next off =>
    have hd := zm_dec_o hdec rfl
    have ht := zm_dec_tg hdec (o := off) List.mem_cons_self
    split at hh
    · next t => exact lv_ifnullN hx hb hd ht (hk (zm_tg pc off, ls, t, M) hh H locs la hl hP hS)
    · exact lv_ifnull hx hb hd (hn _ _ _ hh H locs la hl hP hS)
    · cases hh
  · next off =>
    have hd := zm_dec_o hdec rfl
    have ht := zm_dec_tg hdec (o := off) List.mem_cons_self
    split at hh
    · next t => exact lv_ifnonnull hx hb hd ht (hk (zm_tg pc off, ls, _, M) hh H locs la hl hP hS)
    · exact lv_ifnonnullN hx hb hd (hn _ _ _ hh H locs la hl hP hS)
    · cases hh
  · next i n =>
    have hd := zm_dec_o hdec rfl
    split at hh
    · next x hx9 =>
      have hi : i < ls.length := (List.getElem?_eq_some_iff.mp hx9).1
      obtain ⟨j, hj⟩ := List.getElem?_of_mem (zm_prs_in (h := h) hx9)
      exact lv_iinc hx hb hd (zm_lok_has hl) hj rfl (by rw [← hl.1]; exact hi) rfl (fun la' hla' => hn _ _ _ hh H locs la' (zm_lok_1 (v := .int (x + Int32.ofInt n)) hl hi hla') hP hS)
    · cases hh
  · cases hh
/-- ONE INSTRUCTION OF ANY KIND -/
theorem zm_i (hcw : zm_cwok) (hma : zm_mathok) (B : zm_B p s m args meth c own cc nL T D cA h A R c0 s0) (hO1 : ∀ (idx : Nat) (v : Value), zm_look T.2.1 idx = some v → zm_cok own idx v) (hO2 : ∀ (idx : Nat) (C : zm_C), zm_look T.2.2.1 idx = some C → zm_callok l R own idx C) (hD : va_D A (zm_ws cA h wl M)) (hA : ∀ q, s.heap.size ≤ q → A q) (hw : zm_wok wl) {i : Instr} {a b : Nat} (hdec : zm_dec cc pc i = true) (hio : zm_iok R own i a b) (hQ : Q = MQ below (zm_Q D cA h wl A r) args s c0 s0 A) (hh : zm_ins T wl k kn i a b pc ls st M = some r)
    (hk : ∀ S, k S = some r → zm_G p l e R s m args below meth c Q D cA h wl A nL c0 s0 S) (hn : ∀ ls' st' M', kn ls' st' M' = some r → zm_G p l e R s m args below meth c Q D cA h wl A nL c0 s0 (pc + zm_len i, ls', st', M')) : zm_G p l e R s m args below meth c Q D cA h wl A nL c0 s0 (pc, ls, st, M) := by
  have B0 := B
  obtain ⟨hx, hb, hml, hown, hts, hK, hr, hlk, hZ, hcs, hsc⟩ := B0
  have LD0 : ∀ {x : Nat}, zm_ld kn 0 x ls st M = some r → (∀ (H : Heap) (locs : List Loc) (la : Array Slot) (y : Int32), la[x]? = some (.val (.int y)) → W p l e R s m args below meth c H locs c0 s0 Q (F0 m (pc + zm_len i) la (.int y :: st.map (zm_cv h))) → W p l e R s m args below meth c H locs c0 s0 Q (F0 m pc la (st.map (zm_cv h)))) → zm_G p l e R s m args below meth c Q D cA h wl A nL c0 s0 (pc, ls, st, M) := by
    intro x hh hrow H locs la hl hP hS
    obtain ⟨y, h1, h2⟩ := zm_ld_0 hh
    exact hrow H locs la y (hl.2.2.2 _ _ h1) (hn _ _ _ h2 H locs la hl hP hS)
  have LD1 : ∀ {x : Nat}, zm_ld kn 1 x ls st M = some r → (∀ (H : Heap) (locs : List Loc) (la : Array Slot) (y : Int64), la[x]? = some (.val (.long y)) → W p l e R s m args below meth c H locs c0 s0 Q (F0 m (pc + zm_len i) la (.long y :: st.map (zm_cv h))) → W p l e R s m args below meth c H locs c0 s0 Q (F0 m pc la (st.map (zm_cv h)))) → zm_G p l e R s m args below meth c Q D cA h wl A nL c0 s0 (pc, ls, st, M) := by
    intro x hh hrow H locs la hl hP hS
    obtain ⟨y, h1, h2⟩ := zm_ld_1 hh
    exact hrow H locs la y (hl.2.2.2 _ _ h1) (hn _ _ _ h2 H locs la hl hP hS)
  have LD2 : ∀ {x : Nat}, zm_ld kn 2 x ls st M = some r → (∀ (H : Heap) (locs : List Loc) (la : Array Slot) (y : Nat), la[x]? = some (.val (.ref y)) → W p l e R s m args below meth c H locs c0 s0 Q (F0 m (pc + zm_len i) la (.ref y :: st.map (zm_cv h))) → W p l e R s m args below meth c H locs c0 s0 Q (F0 m pc la (st.map (zm_cv h)))) → (∀ (H : Heap) (locs : List Loc) (la : Array Slot), la[x]? = some (.val .null) → W p l e R s m args below meth c H locs c0 s0 Q (F0 m (pc + zm_len i) la (.null :: st.map (zm_cv h))) → W p l e R s m args below meth c H locs c0 s0 Q (F0 m pc la (st.map (zm_cv h)))) → zm_G p l e R s m args below meth c Q D cA h wl A nL c0 s0 (pc, ls, st, M) := by
    intro x hh hrow hrowN H locs la hl hP hS
    rcases zm_ld_2 hh with ⟨y, h1, h2⟩ | ⟨h1, h2⟩ | ⟨y, h1, h2⟩
    · exact hrow H locs la (h 0 y) (hl.2.2.2 _ _ h1) (hn _ _ _ h2 H locs la hl hP hS)
    · exact hrowN H locs la (hl.2.2.2 _ _ h1) (hn _ _ _ h2 H locs la hl hP hS)
    · exact hrow H locs la (h 1 y) (hl.2.2.2 _ _ h1) (hn _ _ _ h2 H locs la hl hP hS)
  cases i
  case iload_n x => exact LD0 hh (fun H locs la y h1 h2 => lv_iload_n hx hb (zm_dec_o hdec rfl) rfl h1 h2)
  case iload x => exact LD0 hh (fun H locs la y h1 h2 => lv_iload hx hb (zm_dec_o hdec rfl) h1 h2)
  case lload_n x => exact LD1 hh (fun H locs la y h1 h2 => lv_lload_n hx hb (zm_dec_o hdec rfl) rfl h1 h2)
  case lload x => exact LD1 hh (fun H locs la y h1 h2 => lv_lload hx hb (zm_dec_o hdec rfl) h1 h2)
  case aload_n x => exact LD2 hh (fun H locs la y h1 h2 => lv_aload_n hx hb (zm_dec_o hdec rfl) rfl h1 h2) (fun H locs la h1 h2 => lv_aload_nN hx hb (zm_dec_o hdec rfl) rfl h1 h2)
  case aload x => exact LD2 hh (fun H locs la y h1 h2 => lv_aload hx hb (zm_dec_o hdec rfl) h1 h2) (fun H locs la h1 h2 => lv_aloadN hx hb (zm_dec_o hdec rfl) h1 h2)
  case istore_n x =>
    intro H locs la hl hP hS
    obtain ⟨y, t, rfl, h1, h2⟩ := zm_st_0 hh
    exact lv_istore_n hx hb (zm_dec_o hdec rfl) rfl (zm_lok_has hl) (by rw [← hl.1]; exact h1) rfl (fun la' hla' => hn _ _ _ h2 H locs la' (zm_lok_1 (v := .int y) hl h1 hla') hP hS)
  case istore x =>
    intro H locs la hl hP hS
    obtain ⟨y, t, rfl, h1, h2⟩ := zm_st_0 hh
    exact lv_istore hx hb (zm_dec_o hdec rfl) (zm_lok_has hl) (by rw [← hl.1]; exact h1) rfl (fun la' hla' => hn _ _ _ h2 H locs la' (zm_lok_1 (v := .int y) hl h1 hla') hP hS)
  case lstore_n x =>
    intro H locs la hl hP hS
    obtain ⟨y, t, rfl, h1, h2⟩ := zm_st_1 hh
    exact lv_lstore_n hx hb (zm_dec_o hdec rfl) rfl (zm_lok_has hl) (by rw [← hl.1]; exact h1) rfl (fun la' hla' => hn _ _ _ h2 H locs la' (zm_lok_2 (v := .long y) hl h1 hla') hP hS)
  case lstore x =>
    intro H locs la hl hP hS
    obtain ⟨y, t, rfl, h1, h2⟩ := zm_st_1 hh
    exact lv_lstore hx hb (zm_dec_o hdec rfl) (zm_lok_has hl) (by rw [← hl.1]; exact h1) rfl (fun la' hla' => hn _ _ _ h2 H locs la' (zm_lok_2 (v := .long y) hl h1 hla') hP hS)
  case astore_n x =>
    intro H locs la hl hP hS
    rcases zm_st_2 hh with ⟨y, t, rfl, h1, h2⟩ | ⟨t, rfl, h1, h2⟩
    · exact lv_astore_n hx hb (zm_dec_o hdec rfl) rfl (zm_lok_has hl) (by rw [← hl.1]; exact h1) rfl (fun la' hla' => hn _ _ _ h2 H locs la' (zm_lok_1 (v := .ref y) hl h1 hla') hP hS)
    · exact lv_astore_nN hx hb (zm_dec_o hdec rfl) rfl (zm_lok_has hl) (by rw [← hl.1]; exact h1) rfl (fun la' hla' => hn _ _ _ h2 H locs la' (zm_lok_1 (v := .null) hl h1 hla') hP hS)
  case astore x =>
    intro H locs la hl hP hS
    rcases zm_st_2 hh with ⟨y, t, rfl, h1, h2⟩ | ⟨t, rfl, h1, h2⟩
    · exact lv_astore hx hb (zm_dec_o hdec rfl) (zm_lok_has hl) (by rw [← hl.1]; exact h1) rfl (fun la' hla' => hn _ _ _ h2 H locs la' (zm_lok_1 (v := .ref y) hl h1 hla') hP hS)
    · exact lv_astoreN hx hb (zm_dec_o hdec rfl) (zm_lok_has hl) (by rw [← hl.1]; exact h1) rfl (fun la' hla' => hn _ _ _ h2 H locs la' (zm_lok_1 (v := .null) hl h1 hla') hP hS)
  case iconst n => exact fun H locs la hl hP hS => lv_iconst hx hb (zm_dec_o hdec rfl) rfl (hn _ _ _ hh H locs la hl hP hS)
  case bipush n => exact fun H locs la hl hP hS => lv_bipush hx hb (zm_dec_o hdec rfl) rfl (hn _ _ _ hh H locs la hl hP hS)
  case sipush n => exact fun H locs la hl hP hS => lv_sipush hx hb (zm_dec_o hdec rfl) rfl (hn _ _ _ hh H locs la hl hP hS)
  case lconst n => exact fun H locs la hl hP hS => lv_lconst hx hb (zm_dec_o hdec rfl) rfl (hn _ _ _ hh H locs la hl hP hS)
  case aconst_null => exact fun H locs la hl hP hS => lv_null hx hb (zm_dec_o hdec rfl) (hn _ _ _ hh H locs la hl hP hS)
  case ldc x => exact zm_i_cst B hO1 (Or.inl ⟨rfl, rfl, rfl⟩) (zm_dec_o hdec rfl) hh hn
  case ldc_w x => exact zm_i_cst B hO1 (Or.inr (Or.inr ⟨rfl, rfl, rfl⟩)) (zm_dec_o hdec rfl) hh hn
  case ldc2_w x => exact zm_i_cst B hO1 (Or.inr (Or.inl ⟨rfl, rfl, rfl⟩)) (zm_dec_o hdec rfl) hh hn
  case iadd => intro H locs la hl hP hS; obtain ⟨y, x, t, rfl, h2⟩ := zm_b2_o hh; exact lv_iadd hx hb (zm_dec_o hdec rfl) (hn _ _ _ h2 H locs la hl hP hS)
  case isub => intro H locs la hl hP hS; obtain ⟨y, x, t, rfl, h2⟩ := zm_b2_o hh; exact lv_isub hx hb (zm_dec_o hdec rfl) (hn _ _ _ h2 H locs la hl hP hS)
  case imul => intro H locs la hl hP hS; obtain ⟨y, x, t, rfl, h2⟩ := zm_b2_o hh; exact lv_imul hx hb (zm_dec_o hdec rfl) (hn _ _ _ h2 H locs la hl hP hS)
  case iand => intro H locs la hl hP hS; obtain ⟨y, x, t, rfl, h2⟩ := zm_b2_o hh; exact lv_iand hx hb (zm_dec_o hdec rfl) (hn _ _ _ h2 H locs la hl hP hS)
  case ior => intro H locs la hl hP hS; obtain ⟨y, x, t, rfl, h2⟩ := zm_b2_o hh; exact lv_ior hx hb (zm_dec_o hdec rfl) (hn _ _ _ h2 H locs la hl hP hS)
  case ixor => intro H locs la hl hP hS; obtain ⟨y, x, t, rfl, h2⟩ := zm_b2_o hh; exact lv_ixor hx hb (zm_dec_o hdec rfl) (hn _ _ _ h2 H locs la hl hP hS)
  case ishl => intro H locs la hl hP hS; obtain ⟨y, x, t, rfl, h2⟩ := zm_b2_o hh; exact lv_ishl hx hb (zm_dec_o hdec rfl) (hn _ _ _ h2 H locs la hl hP hS)
  case ishr => intro H locs la hl hP hS; obtain ⟨y, x, t, rfl, h2⟩ := zm_b2_o hh; exact lv_ishr hx hb (zm_dec_o hdec rfl) (hn _ _ _ h2 H locs la hl hP hS)
  case iushr => intro H locs la hl hP hS; obtain ⟨y, x, t, rfl, h2⟩ := zm_b2_o hh; exact lv_iushr hx hb (zm_dec_o hdec rfl) rfl (hn _ _ _ h2 H locs la hl hP hS)
  case idiv => intro H locs la hl hP hS; obtain ⟨y, x, t, rfl, h1, h2⟩ := zm_b2z_o hh; exact lv_idiv hx hb (zm_dec_o hdec rfl) h1 (hn _ _ _ h2 H locs la hl hP hS)
  case irem => intro H locs la hl hP hS; obtain ⟨y, x, t, rfl, h1, h2⟩ := zm_b2z_o hh; exact lv_irem hx hb (zm_dec_o hdec rfl) h1 (hn _ _ _ h2 H locs la hl hP hS)
  case ineg => intro H locs la hl hP hS; obtain ⟨x, t, rfl, h2⟩ := zm_u_o hh; exact lv_ineg hx hb (zm_dec_o hdec rfl) (hn _ _ _ h2 H locs la hl hP hS)
  case i2b => intro H locs la hl hP hS; obtain ⟨x, t, rfl, h2⟩ := zm_u_o hh; exact lv_i2b hx hb (zm_dec_o hdec rfl) rfl (hn _ _ _ h2 H locs la hl hP hS)
  case i2s => intro H locs la hl hP hS; obtain ⟨x, t, rfl, h2⟩ := zm_u_o hh; exact lv_i2s hx hb (zm_dec_o hdec rfl) rfl (hn _ _ _ h2 H locs la hl hP hS)
  case ladd => intro H locs la hl hP hS; obtain ⟨y, x, t, rfl, h2⟩ := zm_l2_o hh; exact lv_ladd hx hb (zm_dec_o hdec rfl) (hn _ _ _ h2 H locs la hl hP hS)
  case lsub => intro H locs la hl hP hS; obtain ⟨y, x, t, rfl, h2⟩ := zm_l2_o hh; exact lv_lsub hx hb (zm_dec_o hdec rfl) (hn _ _ _ h2 H locs la hl hP hS)
  case lmul => intro H locs la hl hP hS; obtain ⟨y, x, t, rfl, h2⟩ := zm_l2_o hh; exact lv_lmul hx hb (zm_dec_o hdec rfl) (hn _ _ _ h2 H locs la hl hP hS)
  case land => intro H locs la hl hP hS; obtain ⟨y, x, t, rfl, h2⟩ := zm_l2_o hh; exact lv_land hx hb (zm_dec_o hdec rfl) (hn _ _ _ h2 H locs la hl hP hS)
  case lor => intro H locs la hl hP hS; obtain ⟨y, x, t, rfl, h2⟩ := zm_l2_o hh; exact lv_lor hx hb (zm_dec_o hdec rfl) (hn _ _ _ h2 H locs la hl hP hS)
  case ldiv => intro H locs la hl hP hS; obtain ⟨y, x, t, rfl, h1, h2⟩ := zm_l2z_o hh; exact lv_ldiv hx hb (zm_dec_o hdec rfl) h1 (hn _ _ _ h2 H locs la hl hP hS)
  case lrem => intro H locs la hl hP hS; obtain ⟨y, x, t, rfl, h1, h2⟩ := zm_l2z_o hh; exact lv_lrem hx hb (zm_dec_o hdec rfl) h1 (hn _ _ _ h2 H locs la hl hP hS)
  case lshl => intro H locs la hl hP hS; obtain ⟨y, x, t, rfl, h2⟩ := zm_ls_o hh; exact lv_lshl hx hb (zm_dec_o hdec rfl) rfl (hn _ _ _ h2 H locs la hl hP hS)
  case lshr => intro H locs la hl hP hS; obtain ⟨y, x, t, rfl, h2⟩ := zm_ls_o hh; exact lv_lshr hx hb (zm_dec_o hdec rfl) rfl (hn _ _ _ h2 H locs la hl hP hS)
  case lushr => intro H locs la hl hP hS; obtain ⟨y, x, t, rfl, h2⟩ := zm_ls_o hh; exact lv_lushr hx hb (zm_dec_o hdec rfl) rfl (hn _ _ _ h2 H locs la hl hP hS)
  case ifCond co off => exact zm_i_if1 B (zm_dec_o hdec rfl) (zm_dec_tg hdec (o := off) List.mem_cons_self) hh hk hn
  case if_icmp co off => exact zm_i_if2 B (zm_dec_o hdec rfl) (zm_dec_tg hdec (o := off) List.mem_cons_self) hh hk hn
  case goto off => exact fun H locs la hl hP hS => lv_goto hx hb (zm_dec_o hdec rfl) (zm_dec_tg hdec (o := off) List.mem_cons_self) (hk (zm_tg pc off, ls, st, M) hh H locs la hl hP hS)
  case tableswitch d lo hi os =>
    obtain ⟨len, hd⟩ := zm_dec_sw hdec
    exact zm_i_sw B hd (fun o ho => zm_dec_tg hdec ho) hh hk
  case getfield x => exact zm_i_gf hcw B (zm_dec_o hdec rfl) hio hh hn
  case putfield x => exact zm_i_pf hcw B hD (zm_dec_o hdec rfl) hio hh hn
  case iaload => exact zm_i_al B (Or.inl ⟨rfl, rfl⟩) hw (zm_dec_o hdec rfl) hh hn
  case laload => exact zm_i_al B (Or.inr (Or.inl ⟨rfl, rfl⟩)) hw (zm_dec_o hdec rfl) hh hn
  case baload => exact zm_i_al B (Or.inr (Or.inr (Or.inl ⟨rfl, rfl⟩))) hw (zm_dec_o hdec rfl) hh hn
  case aaload => exact zm_i_al B (Or.inr (Or.inr (Or.inr ⟨rfl, rfl⟩))) hw (zm_dec_o hdec rfl) hh hn
  case iastore => exact zm_i_as B hD (Or.inl ⟨rfl, rfl⟩) (zm_dec_o hdec rfl) hh hn
  case lastore => exact zm_i_as B hD (Or.inr (Or.inl ⟨rfl, rfl⟩)) (zm_dec_o hdec rfl) hh hn
  case bastore => exact zm_i_as B hD (Or.inr (Or.inr ⟨rfl, rfl⟩)) (zm_dec_o hdec rfl) hh hn
  case arraylength => exact zm_i_aln B (zm_dec_o hdec rfl) hh hn
  case invokevirtual x => exact zm_i_call B hO2 hD hA hw (Or.inl ⟨rfl, rfl⟩) (zm_dec_o hdec rfl) hh hn
  case invokestatic x =>
    match a, hio, hh with
    | 0, _, hh => exact zm_i_call B hO2 hD hA hw (Or.inr ⟨rfl, rfl⟩) (zm_dec_o hdec rfl) hh hn
    | 1, hio, hh => exact zm_i_m (a := 0) hma B (zm_dec_o hdec rfl) hio hh hn
    | 2, hio, hh => exact zm_i_m (a := 1) hma B (zm_dec_o hdec rfl) hio hh hn
    | a + 3, hio, hh => exact zm_i_m (a := a + 2) hma B (zm_dec_o hdec rfl) hio hh hn
  case ireturn => rw [hQ]; exact zm_i_ret B (Or.inl ⟨rfl, rfl⟩) (zm_dec_o hdec rfl) hh
  case lreturn => rw [hQ]; exact zm_i_ret B (Or.inr (Or.inl ⟨rfl, rfl⟩)) (zm_dec_o hdec rfl) hh
  case areturn => rw [hQ]; exact zm_i_ret B (Or.inr (Or.inr (Or.inl ⟨rfl, rfl⟩))) (zm_dec_o hdec rfl) hh
  case return_ => rw [hQ]; exact zm_i_ret B (Or.inr (Or.inr (Or.inr ⟨rfl, rfl⟩))) (zm_dec_o hdec rfl) hh
  all_goals exact zm_i_stk B hdec hh hk hn
end ZMA
end
section
/-! THE VALUE OF A RUN, without fuel -/
def zm_tK (f : (zm_S → zm_R) → zm_N → zm_R) : Prop := ∀ (k : zm_S → zm_R) (kn : zm_N) (r : Option Value × zm_I), f k kn = some r → (∃ ls st M, kn ls st M = some r ∧ ∀ (k' : zm_S → zm_R) (kn' : zm_N), kn' ls st M = some r → f k' kn' = some r) ∨ (∃ S, k S = some r ∧ ∀ (k' : zm_S → zm_R) (kn' : zm_N), k' S = some r → f k' kn' = some r) ∨ (∀ (k' : zm_S → zm_R) (kn' : zm_N), f k' kn' = some r)
theorem zm_t_ld (ct i : Nat) (ls : List (Option Value)) (st : List Value) (M : zm_I) : zm_tK (fun _ kn => zm_ld kn ct i ls st M) := by
  intro k kn r h
  dsimp only at h ⊢
  unfold zm_ld at h ⊢
  repeat' split at h
  all_goals first
    | (cases h; done)
    | (refine Or.inl ⟨_, _, _, h, fun k' kn' h' => ?_⟩; simp_all)
theorem zm_t_st (ct i : Nat) (ls : List (Option Value)) (st : List Value) (M : zm_I) : zm_tK (fun _ kn => zm_st kn ct i ls st M) := by
  intro k kn r h
  dsimp only at h ⊢
  unfold zm_st at h ⊢
  repeat' split at h
  all_goals first
    | (cases h; done)
    | (refine Or.inl ⟨_, _, _, h, fun k' kn' h' => ?_⟩; simp_all)
theorem zm_t_b2 (f : Int32 → Int32 → Int32) (ls : List (Option Value)) (st : List Value) (M : zm_I) : zm_tK (fun _ kn => zm_b2 kn f ls st M) := by
  intro k kn r h
  dsimp only at h ⊢
  unfold zm_b2 at h ⊢
  repeat' split at h
  all_goals first
    | (cases h; done)
    | (refine Or.inl ⟨_, _, _, h, fun k' kn' h' => ?_⟩; simp_all)
theorem zm_t_b2z (f : Int32 → Int32 → Int32) (ls : List (Option Value)) (st : List Value) (M : zm_I) : zm_tK (fun _ kn => zm_b2z kn f ls st M) := by
  intro k kn r h
  dsimp only at h ⊢
  unfold zm_b2z at h ⊢
  repeat' split at h
  all_goals first
    | (cases h; done)
    | (refine Or.inl ⟨_, _, _, h, fun k' kn' h' => ?_⟩; simp_all)
theorem zm_t_l2 (f : Int64 → Int64 → Int64) (ls : List (Option Value)) (st : List Value) (M : zm_I) : zm_tK (fun _ kn => zm_l2 kn f ls st M) := by
  intro k kn r h
  dsimp only at h ⊢
  unfold zm_l2 at h ⊢
  repeat' split at h
  all_goals first
    | (cases h; done)
    | (refine Or.inl ⟨_, _, _, h, fun k' kn' h' => ?_⟩; simp_all)
theorem zm_t_l2z (f : Int64 → Int64 → Int64) (ls : List (Option Value)) (st : List Value) (M : zm_I) : zm_tK (fun _ kn => zm_l2z kn f ls st M) := by
  intro k kn r h
  dsimp only at h ⊢
  unfold zm_l2z at h ⊢
  repeat' split at h
  all_goals first
    | (cases h; done)
    | (refine Or.inl ⟨_, _, _, h, fun k' kn' h' => ?_⟩; simp_all)
theorem zm_t_ls (f : Int64 → Int32 → Int64) (ls : List (Option Value)) (st : List Value) (M : zm_I) : zm_tK (fun _ kn => zm_ls kn f ls st M) := by
  intro k kn r h
  dsimp only at h ⊢
  unfold zm_ls at h ⊢
  repeat' split at h
  all_goals first
    | (cases h; done)
    | (refine Or.inl ⟨_, _, _, h, fun k' kn' h' => ?_⟩; simp_all)
theorem zm_t_u (f : Int32 → Int32) (ls : List (Option Value)) (st : List Value) (M : zm_I) : zm_tK (fun _ kn => zm_u kn f ls st M) := by
  intro k kn r h
  dsimp only at h ⊢
  unfold zm_u at h ⊢
  repeat' split at h
  all_goals first
    | (cases h; done)
    | (refine Or.inl ⟨_, _, _, h, fun k' kn' h' => ?_⟩; simp_all)
theorem zm_t_m1 (f : Int32 → Int32) (ls : List (Option Value)) (st : List Value) (M : zm_I) : zm_tK (fun _ kn => zm_m1 kn f ls st M) := by
  intro k kn r h
  dsimp only at h ⊢
  unfold zm_m1 at h ⊢
  repeat' split at h
  all_goals first
    | (cases h; done)
    | (refine Or.inl ⟨_, _, _, h, fun k' kn' h' => ?_⟩; simp_all)
theorem zm_t_m2 (f : Int32 → Int32 → Int32) (ls : List (Option Value)) (st : List Value) (M : zm_I) : zm_tK (fun _ kn => zm_m2 kn f ls st M) := by
  intro k kn r h
  dsimp only at h ⊢
  unfold zm_m2 at h ⊢
  repeat' split at h
  all_goals first
    | (cases h; done)
    | (refine Or.inl ⟨_, _, _, h, fun k' kn' h' => ?_⟩; simp_all)
theorem zm_t_gf (wl : zm_L) (a b : Nat) (ls : List (Option Value)) (st : List Value) (M : zm_I) : zm_tK (fun _ kn => zm_gf kn wl a b ls st M) := by
  intro k kn r h
  dsimp only at h ⊢
  unfold zm_gf at h ⊢
  repeat' split at h
  all_goals first
    | (cases h; done)
    | (refine Or.inl ⟨_, _, _, h, fun k' kn' h' => ?_⟩; simp_all)
theorem zm_t_pf (wl : zm_L) (a b : Nat) (ls : List (Option Value)) (st : List Value) (M : zm_I) : zm_tK (fun _ kn => zm_pf kn wl a b ls st M) := by
  intro k kn r h
  dsimp only at h ⊢
  unfold zm_pf at h ⊢
  repeat' split at h
  all_goals first
    | (cases h; done)
    | (refine Or.inl ⟨_, _, _, h, fun k' kn' h' => ?_⟩; simp_all)
theorem zm_t_al (sc : Option (Nat × (Nat → Int32))) (wl : zm_L) (ct : Nat) (ls : List (Option Value)) (st : List Value) (M : zm_I) : zm_tK (fun _ kn => zm_al kn sc wl ct ls st M) := by
  intro k kn r h
  dsimp only at h ⊢
  unfold zm_al at h ⊢
  repeat' split at h
  all_goals first
    | (cases h; done)
    | (refine Or.inl ⟨_, _, _, h, fun k' kn' h' => ?_⟩; simp_all)
theorem zm_t_as (wl : zm_L) (ct : Nat) (ls : List (Option Value)) (st : List Value) (M : zm_I) : zm_tK (fun _ kn => zm_as kn wl ct ls st M) := by
  intro k kn r h
  dsimp only at h ⊢
  unfold zm_as at h ⊢
  repeat' split at h
  all_goals first
    | (cases h; done)
    | (refine Or.inl ⟨_, _, _, h, fun k' kn' h' => ?_⟩; simp_all)
theorem zm_t_aln (sc : Option (Nat × (Nat → Int32))) (wl : zm_L) (ls : List (Option Value)) (st : List Value) (M : zm_I) : zm_tK (fun _ kn => zm_aln kn sc wl ls st M) := by
  intro k kn r h
  dsimp only at h ⊢
  unfold zm_aln at h ⊢
  repeat' split at h
  all_goals first
    | (cases h; done)
    | (refine Or.inl ⟨_, _, _, h, fun k' kn' h' => ?_⟩; simp_all)
theorem zm_t_cst (T : zm_T) (ct idx : Nat) (ls : List (Option Value)) (st : List Value) (M : zm_I) : zm_tK (fun _ kn => zm_cst kn T ct idx ls st M) := by
  intro k kn r h
  dsimp only at h ⊢
  unfold zm_cst at h ⊢
  repeat' split at h
  all_goals first
    | (cases h; done)
    | (refine Or.inl ⟨_, _, _, h, fun k' kn' h' => ?_⟩; simp_all)
theorem zm_t_cl3 (T : zm_T) (wl : zm_L) (ct idx : Nat) (ls : List (Option Value)) (st : List Value) (M : zm_I) : zm_tK (fun _ kn => zm_cl3 kn T wl ct idx ls st M) := by
  intro k kn r h
  dsimp only at h ⊢
  unfold zm_cl3 zm_app at h ⊢
  repeat' split at h
  all_goals first
    | (cases h; done)
    | (refine Or.inl ⟨_, _, _, h, fun k' kn' h' => ?_⟩; simp_all)
theorem zm_t_if1 (c : ClassFile.Cond) (pc : Nat) (off : Int) (ls : List (Option Value)) (st : List Value) (M : zm_I) : zm_tK (fun k kn => zm_if1 k kn c pc off ls st M) := by
  intro k kn r h
  dsimp only at h ⊢
  unfold zm_if1 at h ⊢
  repeat' split at h
  all_goals first
    | (cases h; done)
    | (refine Or.inl ⟨_, _, _, h, fun k' kn' h' => ?_⟩; first | exact h' | (rw [if_pos (by assumption)]; exact h') | (rw [if_neg (by assumption)]; exact h') | (simp_all; done))
    | (refine Or.inr (Or.inl ⟨_, h, fun k' kn' h' => ?_⟩); first | exact h' | (rw [if_pos (by assumption)]; exact h') | (rw [if_neg (by assumption)]; exact h') | (rw [if_neg (by assumption)]; simp_all; done) | (simp_all; done))
theorem zm_t_if2 (c : ClassFile.Cond) (pc : Nat) (off : Int) (ls : List (Option Value)) (st : List Value) (M : zm_I) : zm_tK (fun k kn => zm_if2 k kn c pc off ls st M) := by
  intro k kn r h
  dsimp only at h ⊢
  unfold zm_if2 at h ⊢
  repeat' split at h
  all_goals first
    | (cases h; done)
    | (refine Or.inl ⟨_, _, _, h, fun k' kn' h' => ?_⟩; first | exact h' | (rw [if_pos (by assumption)]; exact h') | (rw [if_neg (by assumption)]; exact h') | (simp_all; done))
    | (refine Or.inr (Or.inl ⟨_, h, fun k' kn' h' => ?_⟩); first | exact h' | (rw [if_pos (by assumption)]; exact h') | (rw [if_neg (by assumption)]; exact h') | (rw [if_neg (by assumption)]; simp_all; done) | (simp_all; done))
theorem zm_t_sw (pc : Nat) (d lo hi : Int) (os : Array Int) (ls : List (Option Value)) (st : List Value) (M : zm_I) : zm_tK (fun k kn => zm_sw k pc d lo hi os ls st M) := by
  intro k kn r h
  dsimp only at h ⊢
  unfold zm_sw at h ⊢
  repeat' split at h
  all_goals first
    | (cases h; done)
    | (refine Or.inl ⟨_, _, _, h, fun k' kn' h' => ?_⟩; first | exact h' | (rw [if_pos (by assumption)]; exact h') | (rw [if_neg (by assumption)]; exact h') | (simp_all; done))
    | (refine Or.inr (Or.inl ⟨_, h, fun k' kn' h' => ?_⟩); first | exact h' | (rw [if_pos (by assumption)]; exact h') | (rw [if_neg (by assumption)]; exact h') | (rw [if_neg (by assumption)]; simp_all; done) | (simp_all; done))
theorem zm_t_stk (i : Instr) (pc : Nat) (ls : List (Option Value)) (st : List Value) (M : zm_I) : zm_tK (fun k kn => zm_stk k kn i pc ls st M) := by
  intro k kn r h
  dsimp only at h ⊢
  unfold zm_stk at h ⊢
  repeat' split at h
  all_goals first
    | (cases h; done)
    | (refine Or.inl ⟨_, _, _, h, fun k' kn' h' => ?_⟩; first | exact h' | (rw [if_pos (by assumption)]; exact h') | (rw [if_neg (by assumption)]; exact h') | (simp_all; done))
    | (refine Or.inr (Or.inl ⟨_, h, fun k' kn' h' => ?_⟩); first | exact h' | (rw [if_pos (by assumption)]; exact h') | (rw [if_neg (by assumption)]; exact h') | (rw [if_neg (by assumption)]; simp_all; done) | (simp_all; done))
theorem zm_t_ins (T : zm_T) (wl : zm_L) (i : Instr) (a b pc : Nat) (ls : List (Option Value)) (st : List Value) (M : zm_I) : zm_tK (fun k kn => zm_ins T wl k kn i a b pc ls st M) := by
  have nx : ∀ (st' : List Value), zm_tK (fun _ kn => kn ls st' M) := fun st' k kn r h => Or.inl ⟨_, _, _, h, fun _ _ h' => h'⟩
  have rt : ∀ ct, zm_tK (fun _ _ => zm_ret T ct st M) := fun ct k kn r h => Or.inr (Or.inr fun _ _ => h)
  cases i
  case invokestatic x =>
    match a with
    | 0 => exact zm_t_cl3 _ _ _ _ ls st M
    | 1 => exact zm_t_m2 _ ls st M
    | 2 => exact zm_t_m2 _ ls st M
    | a + 3 => exact zm_t_m1 _ ls st M
  case goto off => exact fun k kn r h => Or.inr (Or.inl ⟨_, h, fun _ _ h' => h'⟩)
  all_goals dsimp only [zm_ins]
  all_goals first
    | exact zm_t_ld _ _ ls st M
    | exact zm_t_st _ _ ls st M
    | exact nx _
    | exact zm_t_cst _ _ _ ls st M
    | exact zm_t_b2 _ ls st M
    | exact zm_t_b2z _ ls st M
    | exact zm_t_u _ ls st M
    | exact zm_t_l2 _ ls st M
    | exact zm_t_l2z _ ls st M
    | exact zm_t_ls _ ls st M
    | exact zm_t_if1 _ _ _ ls st M
    | exact zm_t_if2 _ _ _ ls st M
    | exact zm_t_sw _ _ _ _ _ ls st M
    | exact zm_t_gf _ _ _ ls st M
    | exact zm_t_pf _ _ _ ls st M
    | exact zm_t_al _ _ _ ls st M
    | exact zm_t_as _ _ ls st M
    | exact zm_t_aln _ _ ls st M
    | exact zm_t_cl3 _ _ _ _ ls st M
    | exact rt _
    | exact zm_t_stk _ _ ls st M
theorem zm_t_seq (T : zm_T) (wl : zm_L) : ∀ (b : List (Instr × Nat × Nat)) (pc : Nat) (ls : List (Option Value)) (st : List Value) (M : zm_I) (k : zm_S → zm_R) (r : Option Value × zm_I), zm_seq T wl k b pc ls st M = some r → (∃ S, k S = some r ∧ ∀ k' : zm_S → zm_R, k' S = some r → zm_seq T wl k' b pc ls st M = some r) ∨ (∀ k' : zm_S → zm_R, zm_seq T wl k' b pc ls st M = some r)
  | [], pc, ls, st, M, k, r, h => Or.inl ⟨_, h, fun _ h' => h'⟩
  | (i, a, b) :: c, pc, ls, st, M, k, r, h => by
    rcases zm_t_ins T wl i a b pc ls st M k _ r h with ⟨ls', st', M', h1, h2⟩ | ⟨S, h1, h2⟩ | h1
    · rcases zm_t_seq T wl c _ ls' st' M' k r h1 with ⟨S, g1, g2⟩ | g1
      · exact Or.inl ⟨S, g1, fun k' h' => h2 k' _ (g2 k' h')⟩
      · exact Or.inr fun k' => h2 k' _ (g1 k')
    · exact Or.inl ⟨S, h1, fun k' h' => h2 k' _ h'⟩
    · exact Or.inr fun k' => h1 k' _
theorem zm_t_step (T : zm_T) (wl : zm_L) (S : zm_S) (k : zm_S → zm_R) (r : Option Value × zm_I) (h : zm_step T wl k S = some r) : (∃ S', k S' = some r ∧ ∀ k' : zm_S → zm_R, k' S' = some r → zm_step T wl k' S = some r) ∨ (∀ k' : zm_S → zm_R, zm_step T wl k' S = some r) := by
  unfold zm_step at h ⊢
  split at h
  · exact zm_t_seq T wl _ _ _ _ _ k r h
  · cases h
theorem zm_mono (T : zm_T) (wl : zm_L) : ∀ (n d : Nat) (S : zm_S) (r : Option Value × zm_I), zm_run T wl n S = some r → zm_run T wl (n + d) S = some r
  | 0, d, S, r, h => by cases h
  | n + 1, d, S, r, h => by
    rw [Nat.add_right_comm]
    rcases zm_t_step T wl S _ r h with ⟨S', h1, h2⟩ | h1
    · exact h2 _ (zm_mono T wl n d S' r h1)
    · exact h1 _
noncomputable def zm_V (T : zm_T) (wl : zm_L) (S : zm_S) : zm_R := @dite zm_R (∃ n, zm_run T wl n S ≠ none) (Classical.propDecidable _) (fun h => zm_run T wl (Classical.choose h) S) (fun _ => none)
theorem zm_V_of {T : zm_T} {wl : zm_L} {n : Nat} {S : zm_S} {r : Option Value × zm_I} (h : zm_run T wl n S = some r) : zm_V T wl S = some r := by
  have hex : ∃ n, zm_run T wl n S ≠ none := ⟨n, by rw [h]; simp⟩
  unfold zm_V
  rw [dif_pos hex]
  have hs := Classical.choose_spec hex
  generalize Classical.choose hex = j at hs ⊢
  cases hj : zm_run T wl j S with
  | none => exact absurd hj hs
  | some r' =>
    have h1 := zm_mono T wl n j S r h
    have h2 := zm_mono T wl j n S r' hj
    rw [Nat.add_comm, h1] at h2
    exact h2.symm
theorem zm_V_run {T : zm_T} {wl : zm_L} {S : zm_S} {r : Option Value × zm_I} (h : zm_V T wl S = some r) : ∃ n, zm_run T wl n S = some r := by
  unfold zm_V at h
  split at h
  · next hex => exact ⟨_, h⟩
  · cases h
theorem zm_V_eq (T : zm_T) (wl : zm_L) (S : zm_S) : zm_V T wl S = zm_step T wl (zm_V T wl) S := by
  cases hs : zm_step T wl (zm_V T wl) S with
  | some r =>
    rcases zm_t_step T wl S _ r hs with ⟨S', h1, h2⟩ | h1
    · obtain ⟨n, hn⟩ := zm_V_run h1
      exact zm_V_of (n := n + 1) (h2 _ hn)
    · exact zm_V_of (n := 1) (h1 _)
  | none =>
    cases hv : zm_V T wl S with
    | none => rfl
    | some r =>
      obtain ⟨n, hn⟩ := zm_V_run hv
      cases n with
      | zero => cases hn
      | succ n =>
        rcases zm_t_step T wl S _ r hn with ⟨S', h1, h2⟩ | h1
        · rw [h2 _ (zm_V_of h1)] at hs; cases hs
        · rw [h1] at hs; cases hs
end
