/-! 08y.classes, 08z.bytes, 09.check, 10.jdk -/
section
/-! NO CLASS OF OURS IS ONE OF TWO, printed by program (wip/law/mk.py) -/
theorem zpd_RJ0 : RJ0 ≠ "java/lang/invoke/MethodHandle" ∧ RJ0 ≠ "java/lang/invoke/VarHandle" := ⟨by decide, by decide⟩
theorem zpd_RJ1 : RJ1 ≠ "java/lang/invoke/MethodHandle" ∧ RJ1 ≠ "java/lang/invoke/VarHandle" := ⟨by decide, by decide⟩
theorem zpd_RJ13 : RJ13 ≠ "java/lang/invoke/MethodHandle" ∧ RJ13 ≠ "java/lang/invoke/VarHandle" := ⟨by decide, by decide⟩
theorem zpd_RJ2 : RJ2 ≠ "java/lang/invoke/MethodHandle" ∧ RJ2 ≠ "java/lang/invoke/VarHandle" := ⟨by decide, by decide⟩
theorem zpd_RJ3 : RJ3 ≠ "java/lang/invoke/MethodHandle" ∧ RJ3 ≠ "java/lang/invoke/VarHandle" := ⟨by decide, by decide⟩
theorem zpd_RJ6 : RJ6 ≠ "java/lang/invoke/MethodHandle" ∧ RJ6 ≠ "java/lang/invoke/VarHandle" := ⟨by decide, by decide⟩
theorem zpd_RJ7 : RJ7 ≠ "java/lang/invoke/MethodHandle" ∧ RJ7 ≠ "java/lang/invoke/VarHandle" := ⟨by decide, by decide⟩
theorem zpd_RJ9 : RJ9 ≠ "java/lang/invoke/MethodHandle" ∧ RJ9 ≠ "java/lang/invoke/VarHandle" := ⟨by decide, by decide⟩
theorem zpd_RX0 : RX0 ≠ "java/lang/invoke/MethodHandle" ∧ RX0 ≠ "java/lang/invoke/VarHandle" := ⟨by decide, by decide⟩
theorem zpl_RX0 : plainName RX0 = true := by decide
theorem zpd_RX1 : RX1 ≠ "java/lang/invoke/MethodHandle" ∧ RX1 ≠ "java/lang/invoke/VarHandle" := ⟨by decide, by decide⟩
theorem zpl_RX1 : plainName RX1 = true := by decide
theorem zpd_RX10 : RX10 ≠ "java/lang/invoke/MethodHandle" ∧ RX10 ≠ "java/lang/invoke/VarHandle" := ⟨by decide, by decide⟩
theorem zpl_RX10 : plainName RX10 = true := by decide
theorem zpd_RX2 : RX2 ≠ "java/lang/invoke/MethodHandle" ∧ RX2 ≠ "java/lang/invoke/VarHandle" := ⟨by decide, by decide⟩
theorem zpl_RX2 : plainName RX2 = true := by decide
theorem zpd_RX3 : RX3 ≠ "java/lang/invoke/MethodHandle" ∧ RX3 ≠ "java/lang/invoke/VarHandle" := ⟨by decide, by decide⟩
theorem zpl_RX3 : plainName RX3 = true := by decide
theorem zpd_RX4 : RX4 ≠ "java/lang/invoke/MethodHandle" ∧ RX4 ≠ "java/lang/invoke/VarHandle" := ⟨by decide, by decide⟩
theorem zpl_RX4 : plainName RX4 = true := by decide
theorem zpd_RX5 : RX5 ≠ "java/lang/invoke/MethodHandle" ∧ RX5 ≠ "java/lang/invoke/VarHandle" := ⟨by decide, by decide⟩
theorem zpl_RX5 : plainName RX5 = true := by decide
theorem zpd_RX6 : RX6 ≠ "java/lang/invoke/MethodHandle" ∧ RX6 ≠ "java/lang/invoke/VarHandle" := ⟨by decide, by decide⟩
theorem zpl_RX6 : plainName RX6 = true := by decide
theorem zpd_RX7 : RX7 ≠ "java/lang/invoke/MethodHandle" ∧ RX7 ≠ "java/lang/invoke/VarHandle" := ⟨by decide, by decide⟩
theorem zpl_RX7 : plainName RX7 = true := by decide
theorem zpd_RX8 : RX8 ≠ "java/lang/invoke/MethodHandle" ∧ RX8 ≠ "java/lang/invoke/VarHandle" := ⟨by decide, by decide⟩
theorem zpl_RX8 : plainName RX8 = true := by decide
theorem zpd_RX9 : RX9 ≠ "java/lang/invoke/MethodHandle" ∧ RX9 ≠ "java/lang/invoke/VarHandle" := ⟨by decide, by decide⟩
theorem zpl_RX9 : plainName RX9 = true := by decide
end
section
/-! INSTRUCTIONS BY THEIR BYTES: printed by program (wip/law/genb8.py); a block is held against the code's bytes in one walk -/
theorem zb8_u1 : ∀ {cc : ByteArray} {p : Nat} {b : UInt8} {r : List UInt8}, cc.data.toList.drop p = b :: r → (Reader.u1 : Decoder Nat) cc p = .ok (b.toNat, p + 1)
  | ⟨⟨l⟩⟩, p, b, r, h => by
    have h : l.drop p = b :: r := h
    have hp : p < l.length := by
      have := congrArg List.length h
      rw [List.length_drop, List.length_cons] at this
      omega
    have hb : l[p] = b := by
      rw [List.drop_eq_getElem_cons hp] at h
      exact (List.cons.inj h).1
    have hi : p < (ByteArray.mk (Array.mk l)).size := hp
    show (do if h : p < (ByteArray.mk (Array.mk l)).size then do set (p + 1); Pure.pure (ByteArray.mk (Array.mk l))[p].toNat else MonadExcept.throw (HasTruncated.truncated p) : Decoder Nat) (ByteArray.mk (Array.mk l)) p = _
    rw [dif_pos hi]
    show Except.ok ((l[p]).toNat, p + 1) = _
    rw [hb]
theorem zb8_bind {α β : Type} {x : Decoder α} {f : α → Decoder β} {cc : ByteArray} {p q : Nat} {a : α} (h : x cc p = .ok (a, q)) : (x >>= f) cc p = f a cc q := by
  show (do let (a, s) ← x cc p; f a cc s : Except DecodeError (β × Nat)) = _
  rw [h]
  rfl
theorem zb8_map {α β : Type} {x : Decoder α} {g : α → β} {cc : ByteArray} {p q : Nat} {a : α} (h : x cc p = .ok (a, q)) : (g <$> x) cc p = .ok (g a, q) := by
  show (do let (a, s) ← x cc p; .ok (g a, s) : Except DecodeError (β × Nat)) = _
  rw [h]
  rfl
theorem zb8_next {l : List UInt8} {p : Nat} {b : UInt8} {r : List UInt8} (h : l.drop p = b :: r) : l.drop (p + 1) = r := by
  rw [← List.drop_drop, h]
  rfl
theorem zb8_u2 {cc : ByteArray} {p : Nat} {b c : UInt8} {r : List UInt8} (h : cc.data.toList.drop p = b :: c :: r) : (Reader.u2 : Decoder Nat) cc p = .ok (b.toNat * 256 + c.toNat, p + 2) := by
  show (Reader.u1 >>= fun hi => Reader.u1 >>= fun lo => Pure.pure (hi * 256 + lo) : Decoder Nat) cc p = _
  rw [zb8_bind (zb8_u1 h), zb8_bind (zb8_u1 (zb8_next h))]
  rfl
def zb8_Kis (pc k : Nat) (x : Decoder Instr) : Prop := ∃ K : Nat → Decoder Instr, Decoder.instr pc = (Reader.u1 >>= K) ∧ K k = x
theorem zb8_go {cc : ByteArray} {pc k q n : Nat} {b : UInt8} {r : List UInt8} {x : Decoder Instr} {i : Instr} (hK : zb8_Kis pc k x) (h : cc.data.toList.drop pc = b :: r) (hb : b.toNat = k) (hx : x cc (pc + 1) = .ok (i, q)) (hq : q = pc + n) : decode cc pc = .ok (i, n) := by
  obtain ⟨K, h1, h2⟩ := hK
  show (do let (instr, next) ← Decoder.instr pc cc pc; Pure.pure (instr, next - pc) : Except DecodeError (Instr × Nat)) = _
  rw [h1, zb8_bind (zb8_u1 h), hb, h2, hx, hq]
  show Except.ok (i, pc + n - pc) = _
  rw [Nat.add_sub_cancel_left]
def zb8_0 (k : Nat) : List UInt8 → Bool
  | b :: _ => Nat.beq b.toNat k
  | _ => false
def zb8_1 (k n : Nat) : List UInt8 → Bool
  | b :: c :: _ => Nat.beq b.toNat k && Nat.beq c.toNat n
  | _ => false
def zb8_2 (k n : Nat) : List UInt8 → Bool
  | b :: c :: d :: _ => Nat.beq b.toNat k && Nat.beq (c.toNat * 256 + d.toNat) n
  | _ => false
def zb8_s1 (k : Nat) (o : Int) : List UInt8 → Bool
  | b :: c :: _ => Nat.beq b.toNat k && decide (Reader.signed 8 c.toNat = o)
  | _ => false
def zb8_s2 (k : Nat) (o : Int) : List UInt8 → Bool
  | b :: c :: d :: _ => Nat.beq b.toNat k && decide (Reader.signed 16 (c.toNat * 256 + d.toNat) = o)
  | _ => false
def zb8_ii (k n : Nat) (o : Int) : List UInt8 → Bool
  | b :: c :: d :: _ => Nat.beq b.toNat k && Nat.beq c.toNat n && decide (Reader.signed 8 d.toNat = o)
  | _ => false
section ZD
variable {cc : ByteArray} {pc k n : Nat} {o : Int} {i : Instr}
theorem zb8_0_ok (hK : zb8_Kis pc k (Pure.pure i)) (h : zb8_0 k (cc.data.toList.drop pc) = true) : decode cc pc = .ok (i, 1) := by
  unfold zb8_0 at h
  split at h
  · next b r e => exact zb8_go hK e (Nat.eq_of_beq_eq_true h) rfl rfl
  · cases h
theorem zb8_1_ok {C : Nat → Instr} (hK : zb8_Kis pc k (Reader.u1 >>= fun a => Pure.pure (C a))) (h : zb8_1 k n (cc.data.toList.drop pc) = true) : decode cc pc = .ok (C n, 2) := by
  unfold zb8_1 at h
  split at h
  · next b c r e =>
    simp only [Bool.and_eq_true] at h
    refine zb8_go hK e (Nat.eq_of_beq_eq_true h.1) ?_ rfl
    rw [zb8_bind (zb8_u1 (zb8_next e)), Nat.eq_of_beq_eq_true h.2]
    rfl
  · cases h
theorem zb8_2_ok {C : Nat → Instr} (hK : zb8_Kis pc k (Reader.u2 >>= fun a => Pure.pure (C a))) (h : zb8_2 k n (cc.data.toList.drop pc) = true) : decode cc pc = .ok (C n, 3) := by
  unfold zb8_2 at h
  split at h
  · next b c d r e =>
    simp only [Bool.and_eq_true] at h
    refine zb8_go hK e (Nat.eq_of_beq_eq_true h.1) ?_ rfl
    rw [zb8_bind (zb8_u2 (zb8_next e)), Nat.eq_of_beq_eq_true h.2]
    rfl
  · cases h
theorem zb8_s1_ok {C : Int → Instr} (hK : zb8_Kis pc k (Reader.s1 >>= fun a => Pure.pure (C a))) (h : zb8_s1 k o (cc.data.toList.drop pc) = true) : decode cc pc = .ok (C o, 2) := by
  unfold zb8_s1 at h
  split at h
  · next b c r e =>
    simp only [Bool.and_eq_true, decide_eq_true_eq] at h
    refine zb8_go hK e (Nat.eq_of_beq_eq_true h.1) ?_ rfl
    rw [zb8_bind (show (Reader.s1 : Decoder Int) cc (pc + 1) = _ from zb8_map (g := Reader.signed 8) (zb8_u1 (zb8_next e))), h.2]
    rfl
  · cases h
theorem zb8_s2_ok {C : Int → Instr} (hK : zb8_Kis pc k (Reader.s2 >>= fun a => Pure.pure (C a))) (h : zb8_s2 k o (cc.data.toList.drop pc) = true) : decode cc pc = .ok (C o, 3) := by
  unfold zb8_s2 at h
  split at h
  · next b c d r e =>
    simp only [Bool.and_eq_true, decide_eq_true_eq] at h
    refine zb8_go hK e (Nat.eq_of_beq_eq_true h.1) ?_ rfl
    rw [zb8_bind (show (Reader.s2 : Decoder Int) cc (pc + 1) = _ from zb8_map (g := Reader.signed 16) (zb8_u2 (zb8_next e))), h.2]
    rfl
  · cases h
theorem zb8_ii_ok (hK : zb8_Kis pc k (Reader.u1 >>= fun a => Reader.s1 >>= fun b => Pure.pure (.iinc a b))) (h : zb8_ii k n o (cc.data.toList.drop pc) = true) : decode cc pc = .ok (.iinc n o, 3) := by
  unfold zb8_ii at h
  split at h
  · next b c d r e =>
    simp only [Bool.and_eq_true, decide_eq_true_eq] at h
    refine zb8_go hK e (Nat.eq_of_beq_eq_true h.1.1) ?_ rfl
    rw [zb8_bind (zb8_u1 (zb8_next e)), zb8_bind (show (Reader.s1 : Decoder Int) cc (pc + 1 + 1) = _ from zb8_map (g := Reader.signed 8) (zb8_u1 (zb8_next (zb8_next e)))), Nat.eq_of_beq_eq_true h.1.2, h.2]
    rfl
  · cases h
end ZD
def zb8_c : ClassFile.Cond → Nat
  | .eq => 0
  | .ne => 1
  | .lt => 2
  | .ge => 3
  | .gt => 4
  | .le => 5

def zb8_enc (i : Instr) (bs : List UInt8) : Bool := match i with
  | .iaload => zb8_0 46 bs
  | .laload => zb8_0 47 bs
  | .aaload => zb8_0 50 bs
  | .baload => zb8_0 51 bs
  | .iastore => zb8_0 79 bs
  | .lastore => zb8_0 80 bs
  | .aastore => zb8_0 83 bs
  | .bastore => zb8_0 84 bs
  | .pop => zb8_0 87 bs
  | .pop2 => zb8_0 88 bs
  | .dup => zb8_0 89 bs
  | .dup2 => zb8_0 92 bs
  | .iadd => zb8_0 96 bs
  | .ladd => zb8_0 97 bs
  | .isub => zb8_0 100 bs
  | .lsub => zb8_0 101 bs
  | .imul => zb8_0 104 bs
  | .lmul => zb8_0 105 bs
  | .idiv => zb8_0 108 bs
  | .ldiv => zb8_0 109 bs
  | .irem => zb8_0 112 bs
  | .lrem => zb8_0 113 bs
  | .ineg => zb8_0 116 bs
  | .lneg => zb8_0 117 bs
  | .ishl => zb8_0 120 bs
  | .lshl => zb8_0 121 bs
  | .ishr => zb8_0 122 bs
  | .lshr => zb8_0 123 bs
  | .iushr => zb8_0 124 bs
  | .lushr => zb8_0 125 bs
  | .iand => zb8_0 126 bs
  | .land => zb8_0 127 bs
  | .ior => zb8_0 128 bs
  | .lor => zb8_0 129 bs
  | .ixor => zb8_0 130 bs
  | .lxor => zb8_0 131 bs
  | .i2l => zb8_0 133 bs
  | .l2i => zb8_0 136 bs
  | .i2b => zb8_0 145 bs
  | .i2s => zb8_0 147 bs
  | .lcmp => zb8_0 148 bs
  | .ireturn => zb8_0 172 bs
  | .lreturn => zb8_0 173 bs
  | .areturn => zb8_0 176 bs
  | .return_ => zb8_0 177 bs
  | .arraylength => zb8_0 190 bs
  | .aconst_null => zb8_0 1 bs
  | .caload => zb8_0 52 bs
  | .i2c => zb8_0 146 bs
  | .iload n => zb8_1 21 n bs
  | .lload n => zb8_1 22 n bs
  | .aload n => zb8_1 25 n bs
  | .istore n => zb8_1 54 n bs
  | .lstore n => zb8_1 55 n bs
  | .astore n => zb8_1 58 n bs
  | .ldc n => zb8_1 18 n bs
  | .ldc_w n => zb8_2 19 n bs
  | .ldc2_w n => zb8_2 20 n bs
  | .getfield n => zb8_2 180 n bs
  | .putfield n => zb8_2 181 n bs
  | .invokevirtual n => zb8_2 182 n bs
  | .invokespecial n => zb8_2 183 n bs
  | .invokestatic n => zb8_2 184 n bs
  | .bipush n => zb8_s1 16 n bs
  | .sipush n => zb8_s2 17 n bs
  | .goto n => zb8_s2 167 n bs
  | .ifnull n => zb8_s2 198 n bs
  | .ifnonnull n => zb8_s2 199 n bs
  | .iload_n n => zb8_0 (26 + n.val) bs
  | .lload_n n => zb8_0 (30 + n.val) bs
  | .aload_n n => zb8_0 (42 + n.val) bs
  | .istore_n n => zb8_0 (59 + n.val) bs
  | .lstore_n n => zb8_0 (63 + n.val) bs
  | .astore_n n => zb8_0 (75 + n.val) bs
  | .lconst n => zb8_0 (9 + n.val) bs
  | .iconst n => zb8_0 (n + 3).toNat bs && decide (-1 ≤ n) && decide (n ≤ 5)
  | .iinc n o => zb8_ii 132 n o bs
  | .ifCond c o => zb8_s2 (153 + zb8_c c) o bs
  | .if_icmp c o => zb8_s2 (159 + zb8_c c) o bs
  | _ => false
theorem zb8_enc_ok {cc : ByteArray} {pc : Nat} {i : Instr} (h : zb8_enc i (cc.data.toList.drop pc) = true) : decode cc pc = .ok (i, zm_len i) := by
  cases i
  case iaload => exact zb8_0_ok (k := 46) (by delta zb8_Kis Decoder.instr; exact ⟨_, rfl, rfl⟩) h
  case laload => exact zb8_0_ok (k := 47) (by delta zb8_Kis Decoder.instr; exact ⟨_, rfl, rfl⟩) h
  case aaload => exact zb8_0_ok (k := 50) (by delta zb8_Kis Decoder.instr; exact ⟨_, rfl, rfl⟩) h
  case baload => exact zb8_0_ok (k := 51) (by delta zb8_Kis Decoder.instr; exact ⟨_, rfl, rfl⟩) h
  case iastore => exact zb8_0_ok (k := 79) (by delta zb8_Kis Decoder.instr; exact ⟨_, rfl, rfl⟩) h
  case lastore => exact zb8_0_ok (k := 80) (by delta zb8_Kis Decoder.instr; exact ⟨_, rfl, rfl⟩) h
  case aastore => exact zb8_0_ok (k := 83) (by delta zb8_Kis Decoder.instr; exact ⟨_, rfl, rfl⟩) h
  case bastore => exact zb8_0_ok (k := 84) (by delta zb8_Kis Decoder.instr; exact ⟨_, rfl, rfl⟩) h
  case pop => exact zb8_0_ok (k := 87) (by delta zb8_Kis Decoder.instr; exact ⟨_, rfl, rfl⟩) h
  case pop2 => exact zb8_0_ok (k := 88) (by delta zb8_Kis Decoder.instr; exact ⟨_, rfl, rfl⟩) h
  case dup => exact zb8_0_ok (k := 89) (by delta zb8_Kis Decoder.instr; exact ⟨_, rfl, rfl⟩) h
  case dup2 => exact zb8_0_ok (k := 92) (by delta zb8_Kis Decoder.instr; exact ⟨_, rfl, rfl⟩) h
  case iadd => exact zb8_0_ok (k := 96) (by delta zb8_Kis Decoder.instr; exact ⟨_, rfl, rfl⟩) h
  case ladd => exact zb8_0_ok (k := 97) (by delta zb8_Kis Decoder.instr; exact ⟨_, rfl, rfl⟩) h
  case isub => exact zb8_0_ok (k := 100) (by delta zb8_Kis Decoder.instr; exact ⟨_, rfl, rfl⟩) h
  case lsub => exact zb8_0_ok (k := 101) (by delta zb8_Kis Decoder.instr; exact ⟨_, rfl, rfl⟩) h
  case imul => exact zb8_0_ok (k := 104) (by delta zb8_Kis Decoder.instr; exact ⟨_, rfl, rfl⟩) h
  case lmul => exact zb8_0_ok (k := 105) (by delta zb8_Kis Decoder.instr; exact ⟨_, rfl, rfl⟩) h
  case idiv => exact zb8_0_ok (k := 108) (by delta zb8_Kis Decoder.instr; exact ⟨_, rfl, rfl⟩) h
  case ldiv => exact zb8_0_ok (k := 109) (by delta zb8_Kis Decoder.instr; exact ⟨_, rfl, rfl⟩) h
  case irem => exact zb8_0_ok (k := 112) (by delta zb8_Kis Decoder.instr; exact ⟨_, rfl, rfl⟩) h
  case lrem => exact zb8_0_ok (k := 113) (by delta zb8_Kis Decoder.instr; exact ⟨_, rfl, rfl⟩) h
  case ineg => exact zb8_0_ok (k := 116) (by delta zb8_Kis Decoder.instr; exact ⟨_, rfl, rfl⟩) h
  case lneg => exact zb8_0_ok (k := 117) (by delta zb8_Kis Decoder.instr; exact ⟨_, rfl, rfl⟩) h
  case ishl => exact zb8_0_ok (k := 120) (by delta zb8_Kis Decoder.instr; exact ⟨_, rfl, rfl⟩) h
  case lshl => exact zb8_0_ok (k := 121) (by delta zb8_Kis Decoder.instr; exact ⟨_, rfl, rfl⟩) h
  case ishr => exact zb8_0_ok (k := 122) (by delta zb8_Kis Decoder.instr; exact ⟨_, rfl, rfl⟩) h
  case lshr => exact zb8_0_ok (k := 123) (by delta zb8_Kis Decoder.instr; exact ⟨_, rfl, rfl⟩) h
  case iushr => exact zb8_0_ok (k := 124) (by delta zb8_Kis Decoder.instr; exact ⟨_, rfl, rfl⟩) h
  case lushr => exact zb8_0_ok (k := 125) (by delta zb8_Kis Decoder.instr; exact ⟨_, rfl, rfl⟩) h
  case iand => exact zb8_0_ok (k := 126) (by delta zb8_Kis Decoder.instr; exact ⟨_, rfl, rfl⟩) h
  case land => exact zb8_0_ok (k := 127) (by delta zb8_Kis Decoder.instr; exact ⟨_, rfl, rfl⟩) h
  case ior => exact zb8_0_ok (k := 128) (by delta zb8_Kis Decoder.instr; exact ⟨_, rfl, rfl⟩) h
  case lor => exact zb8_0_ok (k := 129) (by delta zb8_Kis Decoder.instr; exact ⟨_, rfl, rfl⟩) h
  case ixor => exact zb8_0_ok (k := 130) (by delta zb8_Kis Decoder.instr; exact ⟨_, rfl, rfl⟩) h
  case lxor => exact zb8_0_ok (k := 131) (by delta zb8_Kis Decoder.instr; exact ⟨_, rfl, rfl⟩) h
  case i2l => exact zb8_0_ok (k := 133) (by delta zb8_Kis Decoder.instr; exact ⟨_, rfl, rfl⟩) h
  case l2i => exact zb8_0_ok (k := 136) (by delta zb8_Kis Decoder.instr; exact ⟨_, rfl, rfl⟩) h
  case i2b => exact zb8_0_ok (k := 145) (by delta zb8_Kis Decoder.instr; exact ⟨_, rfl, rfl⟩) h
  case i2s => exact zb8_0_ok (k := 147) (by delta zb8_Kis Decoder.instr; exact ⟨_, rfl, rfl⟩) h
  case lcmp => exact zb8_0_ok (k := 148) (by delta zb8_Kis Decoder.instr; exact ⟨_, rfl, rfl⟩) h
  case ireturn => exact zb8_0_ok (k := 172) (by delta zb8_Kis Decoder.instr; exact ⟨_, rfl, rfl⟩) h
  case lreturn => exact zb8_0_ok (k := 173) (by delta zb8_Kis Decoder.instr; exact ⟨_, rfl, rfl⟩) h
  case areturn => exact zb8_0_ok (k := 176) (by delta zb8_Kis Decoder.instr; exact ⟨_, rfl, rfl⟩) h
  case return_ => exact zb8_0_ok (k := 177) (by delta zb8_Kis Decoder.instr; exact ⟨_, rfl, rfl⟩) h
  case arraylength => exact zb8_0_ok (k := 190) (by delta zb8_Kis Decoder.instr; exact ⟨_, rfl, rfl⟩) h
  case aconst_null => exact zb8_0_ok (k := 1) (by delta zb8_Kis Decoder.instr; exact ⟨_, rfl, rfl⟩) h
  case caload => exact zb8_0_ok (k := 52) (by delta zb8_Kis Decoder.instr; exact ⟨_, rfl, rfl⟩) h
  case i2c => exact zb8_0_ok (k := 146) (by delta zb8_Kis Decoder.instr; exact ⟨_, rfl, rfl⟩) h
  case iload n => exact zb8_1_ok (k := 21) (C := .iload) (by delta zb8_Kis Decoder.instr; exact ⟨_, rfl, rfl⟩) h
  case lload n => exact zb8_1_ok (k := 22) (C := .lload) (by delta zb8_Kis Decoder.instr; exact ⟨_, rfl, rfl⟩) h
  case aload n => exact zb8_1_ok (k := 25) (C := .aload) (by delta zb8_Kis Decoder.instr; exact ⟨_, rfl, rfl⟩) h
  case istore n => exact zb8_1_ok (k := 54) (C := .istore) (by delta zb8_Kis Decoder.instr; exact ⟨_, rfl, rfl⟩) h
  case lstore n => exact zb8_1_ok (k := 55) (C := .lstore) (by delta zb8_Kis Decoder.instr; exact ⟨_, rfl, rfl⟩) h
  case astore n => exact zb8_1_ok (k := 58) (C := .astore) (by delta zb8_Kis Decoder.instr; exact ⟨_, rfl, rfl⟩) h
  case ldc n => exact zb8_1_ok (k := 18) (C := .ldc) (by delta zb8_Kis Decoder.instr; exact ⟨_, rfl, rfl⟩) h
  case ldc_w n => exact zb8_2_ok (k := 19) (C := .ldc_w) (by delta zb8_Kis Decoder.instr; exact ⟨_, rfl, rfl⟩) h
  case ldc2_w n => exact zb8_2_ok (k := 20) (C := .ldc2_w) (by delta zb8_Kis Decoder.instr; exact ⟨_, rfl, rfl⟩) h
  case getfield n => exact zb8_2_ok (k := 180) (C := .getfield) (by delta zb8_Kis Decoder.instr; exact ⟨_, rfl, rfl⟩) h
  case putfield n => exact zb8_2_ok (k := 181) (C := .putfield) (by delta zb8_Kis Decoder.instr; exact ⟨_, rfl, rfl⟩) h
  case invokevirtual n => exact zb8_2_ok (k := 182) (C := .invokevirtual) (by delta zb8_Kis Decoder.instr; exact ⟨_, rfl, rfl⟩) h
  case invokespecial n => exact zb8_2_ok (k := 183) (C := .invokespecial) (by delta zb8_Kis Decoder.instr; exact ⟨_, rfl, rfl⟩) h
  case invokestatic n => exact zb8_2_ok (k := 184) (C := .invokestatic) (by delta zb8_Kis Decoder.instr; exact ⟨_, rfl, rfl⟩) h
  case bipush n => exact zb8_s1_ok (k := 16) (C := .bipush) (by delta zb8_Kis Decoder.instr; exact ⟨_, rfl, rfl⟩) h
  case sipush n => exact zb8_s2_ok (k := 17) (C := .sipush) (by delta zb8_Kis Decoder.instr; exact ⟨_, rfl, rfl⟩) h
  case goto n => exact zb8_s2_ok (k := 167) (C := .goto) (by delta zb8_Kis Decoder.instr; exact ⟨_, rfl, rfl⟩) h
  case ifnull n => exact zb8_s2_ok (k := 198) (C := .ifnull) (by delta zb8_Kis Decoder.instr; exact ⟨_, rfl, rfl⟩) h
  case ifnonnull n => exact zb8_s2_ok (k := 199) (C := .ifnonnull) (by delta zb8_Kis Decoder.instr; exact ⟨_, rfl, rfl⟩) h
  case iload_n n =>
    match n, h with
    | ⟨0, _⟩, h => exact zb8_0_ok (k := 26) (by delta zb8_Kis Decoder.instr; exact ⟨_, rfl, rfl⟩) h
    | ⟨1, _⟩, h => exact zb8_0_ok (k := 27) (by delta zb8_Kis Decoder.instr; exact ⟨_, rfl, rfl⟩) h
    | ⟨2, _⟩, h => exact zb8_0_ok (k := 28) (by delta zb8_Kis Decoder.instr; exact ⟨_, rfl, rfl⟩) h
    | ⟨3, _⟩, h => exact zb8_0_ok (k := 29) (by delta zb8_Kis Decoder.instr; exact ⟨_, rfl, rfl⟩) h
  case lload_n n =>
    match n, h with
    | ⟨0, _⟩, h => exact zb8_0_ok (k := 30) (by delta zb8_Kis Decoder.instr; exact ⟨_, rfl, rfl⟩) h
    | ⟨1, _⟩, h => exact zb8_0_ok (k := 31) (by delta zb8_Kis Decoder.instr; exact ⟨_, rfl, rfl⟩) h
    | ⟨2, _⟩, h => exact zb8_0_ok (k := 32) (by delta zb8_Kis Decoder.instr; exact ⟨_, rfl, rfl⟩) h
    | ⟨3, _⟩, h => exact zb8_0_ok (k := 33) (by delta zb8_Kis Decoder.instr; exact ⟨_, rfl, rfl⟩) h
  case aload_n n =>
    match n, h with
    | ⟨0, _⟩, h => exact zb8_0_ok (k := 42) (by delta zb8_Kis Decoder.instr; exact ⟨_, rfl, rfl⟩) h
    | ⟨1, _⟩, h => exact zb8_0_ok (k := 43) (by delta zb8_Kis Decoder.instr; exact ⟨_, rfl, rfl⟩) h
    | ⟨2, _⟩, h => exact zb8_0_ok (k := 44) (by delta zb8_Kis Decoder.instr; exact ⟨_, rfl, rfl⟩) h
    | ⟨3, _⟩, h => exact zb8_0_ok (k := 45) (by delta zb8_Kis Decoder.instr; exact ⟨_, rfl, rfl⟩) h
  case istore_n n =>
    match n, h with
    | ⟨0, _⟩, h => exact zb8_0_ok (k := 59) (by delta zb8_Kis Decoder.instr; exact ⟨_, rfl, rfl⟩) h
    | ⟨1, _⟩, h => exact zb8_0_ok (k := 60) (by delta zb8_Kis Decoder.instr; exact ⟨_, rfl, rfl⟩) h
    | ⟨2, _⟩, h => exact zb8_0_ok (k := 61) (by delta zb8_Kis Decoder.instr; exact ⟨_, rfl, rfl⟩) h
    | ⟨3, _⟩, h => exact zb8_0_ok (k := 62) (by delta zb8_Kis Decoder.instr; exact ⟨_, rfl, rfl⟩) h
  case lstore_n n =>
    match n, h with
    | ⟨0, _⟩, h => exact zb8_0_ok (k := 63) (by delta zb8_Kis Decoder.instr; exact ⟨_, rfl, rfl⟩) h
    | ⟨1, _⟩, h => exact zb8_0_ok (k := 64) (by delta zb8_Kis Decoder.instr; exact ⟨_, rfl, rfl⟩) h
    | ⟨2, _⟩, h => exact zb8_0_ok (k := 65) (by delta zb8_Kis Decoder.instr; exact ⟨_, rfl, rfl⟩) h
    | ⟨3, _⟩, h => exact zb8_0_ok (k := 66) (by delta zb8_Kis Decoder.instr; exact ⟨_, rfl, rfl⟩) h
  case astore_n n =>
    match n, h with
    | ⟨0, _⟩, h => exact zb8_0_ok (k := 75) (by delta zb8_Kis Decoder.instr; exact ⟨_, rfl, rfl⟩) h
    | ⟨1, _⟩, h => exact zb8_0_ok (k := 76) (by delta zb8_Kis Decoder.instr; exact ⟨_, rfl, rfl⟩) h
    | ⟨2, _⟩, h => exact zb8_0_ok (k := 77) (by delta zb8_Kis Decoder.instr; exact ⟨_, rfl, rfl⟩) h
    | ⟨3, _⟩, h => exact zb8_0_ok (k := 78) (by delta zb8_Kis Decoder.instr; exact ⟨_, rfl, rfl⟩) h
  case lconst n =>
    match n, h with
    | ⟨0, _⟩, h => exact zb8_0_ok (k := 9) (by delta zb8_Kis Decoder.instr; exact ⟨_, rfl, rfl⟩) h
    | ⟨1, _⟩, h => exact zb8_0_ok (k := 10) (by delta zb8_Kis Decoder.instr; exact ⟨_, rfl, rfl⟩) h
  case iconst n =>
    have h : (zb8_0 (n + 3).toNat (cc.data.toList.drop pc) && decide (-1 ≤ n) && decide (n ≤ 5)) = true := h
    simp only [Bool.and_eq_true, decide_eq_true_eq] at h
    obtain ⟨⟨h, h1⟩, h2⟩ := h
    have h3 : n = -1 ∨ n = 0 ∨ n = 1 ∨ n = 2 ∨ n = 3 ∨ n = 4 ∨ n = 5 := by omega
    rcases h3 with e | e | e | e | e | e | e <;> subst e
    · exact zb8_0_ok (k := 2) (by delta zb8_Kis Decoder.instr; exact ⟨_, rfl, rfl⟩) h
    · exact zb8_0_ok (k := 3) (by delta zb8_Kis Decoder.instr; exact ⟨_, rfl, rfl⟩) h
    · exact zb8_0_ok (k := 4) (by delta zb8_Kis Decoder.instr; exact ⟨_, rfl, rfl⟩) h
    · exact zb8_0_ok (k := 5) (by delta zb8_Kis Decoder.instr; exact ⟨_, rfl, rfl⟩) h
    · exact zb8_0_ok (k := 6) (by delta zb8_Kis Decoder.instr; exact ⟨_, rfl, rfl⟩) h
    · exact zb8_0_ok (k := 7) (by delta zb8_Kis Decoder.instr; exact ⟨_, rfl, rfl⟩) h
    · exact zb8_0_ok (k := 8) (by delta zb8_Kis Decoder.instr; exact ⟨_, rfl, rfl⟩) h
  case iinc n o => exact zb8_ii_ok (k := 132) (by delta zb8_Kis Decoder.instr; exact ⟨_, rfl, rfl⟩) h
  case ifCond c o =>
    cases c
    · exact zb8_s2_ok (k := 153) (C := .ifCond .eq) (by delta zb8_Kis Decoder.instr; exact ⟨_, rfl, rfl⟩) h
    · exact zb8_s2_ok (k := 154) (C := .ifCond .ne) (by delta zb8_Kis Decoder.instr; exact ⟨_, rfl, rfl⟩) h
    · exact zb8_s2_ok (k := 155) (C := .ifCond .lt) (by delta zb8_Kis Decoder.instr; exact ⟨_, rfl, rfl⟩) h
    · exact zb8_s2_ok (k := 156) (C := .ifCond .ge) (by delta zb8_Kis Decoder.instr; exact ⟨_, rfl, rfl⟩) h
    · exact zb8_s2_ok (k := 157) (C := .ifCond .gt) (by delta zb8_Kis Decoder.instr; exact ⟨_, rfl, rfl⟩) h
    · exact zb8_s2_ok (k := 158) (C := .ifCond .le) (by delta zb8_Kis Decoder.instr; exact ⟨_, rfl, rfl⟩) h
  case if_icmp c o =>
    cases c
    · exact zb8_s2_ok (k := 159) (C := .if_icmp .eq) (by delta zb8_Kis Decoder.instr; exact ⟨_, rfl, rfl⟩) h
    · exact zb8_s2_ok (k := 160) (C := .if_icmp .ne) (by delta zb8_Kis Decoder.instr; exact ⟨_, rfl, rfl⟩) h
    · exact zb8_s2_ok (k := 161) (C := .if_icmp .lt) (by delta zb8_Kis Decoder.instr; exact ⟨_, rfl, rfl⟩) h
    · exact zb8_s2_ok (k := 162) (C := .if_icmp .ge) (by delta zb8_Kis Decoder.instr; exact ⟨_, rfl, rfl⟩) h
    · exact zb8_s2_ok (k := 163) (C := .if_icmp .gt) (by delta zb8_Kis Decoder.instr; exact ⟨_, rfl, rfl⟩) h
    · exact zb8_s2_ok (k := 164) (C := .if_icmp .le) (by delta zb8_Kis Decoder.instr; exact ⟨_, rfl, rfl⟩) h
  all_goals (cases h; done)
theorem zb8_dec {cc : ByteArray} {pc : Nat} {i : Instr} (h : zb8_enc i (cc.data.toList.drop pc) = true) (ho : (zm_offs i).all (fun o => decide (0 ≤ (pc : Int) + o)) = true) : zm_dec cc pc i = true := by
  unfold zm_dec
  rw [zb8_enc_ok h]
  simp only [ho, decide_true, beq_self_eq_true, Bool.true_or, Bool.and_self]
end
section
/-! WHAT A TABLE OWES, as rows that a program decides -/
def zm_hasW (zw : List Jvm.Cond) (w : Jvm.Cond) : Bool := zw.any (fun q => decide (q = w))
theorem zm_hasW_ok {zw : List Jvm.Cond} (hz : ∀ q ∈ zw, q ∈ zm_tbl) {w : Jvm.Cond} (h : zm_hasW zw w = true) : w ∈ zm_tbl := by
  obtain ⟨q, hq, h⟩ := List.any_eq_true.mp h
  rw [← of_decide_eq_true h]
  exact hz q hq
def zm_fokB (zw : List Jvm.Cond) (own : String) (q : Nat × Nat × Nat) : Bool := match zm_cl[q.2.1]? with
  | some r => decide (q.2.2 < r.2.2) && decide ((r.2.1 q.2.2).1 = r.1) && zm_hasW zw (Jvm.Cond.fieldLink own q.1 r.1 (r.2.1 q.2.2).2.1 (r.2.1 q.2.2).2.2.1)
  | none => false
theorem zm_fokB_ok {zw : List Jvm.Cond} (hz : ∀ q ∈ zw, q ∈ zm_tbl) {own : String} {q : Nat × Nat × Nat} (h : zm_fokB zw own q = true) : zm_fok own q.1 q.2.1 q.2.2 := by
  unfold zm_fokB at h
  split at h
  · next r hr =>
    simp only [Bool.and_eq_true, decide_eq_true_eq] at h
    exact ⟨r, hr, h.1.1, h.1.2, zm_hasW_ok hz h.2⟩
  · cases h
def zm_anyF (fl : List (Nat × Nat × Nat)) (x a b : Nat) : Bool := fl.any (fun q => Nat.beq q.1 x && Nat.beq q.2.1 a && Nat.beq q.2.2 b)
def zm_mokB (zw : List Jvm.Cond) (R : Room) (own : String) (idx : Nat) (y : MethodName) : Bool := Nat.ble 1 R.frames && Nat.ble 21 R.locals && zm_hasW zw (Jvm.Cond.methodLink own idx y)
def zm_iokB (zw : List Jvm.Cond) (R : Room) (own : String) (fl : List (Nat × Nat × Nat)) (i : Instr) (a b : Nat) : Bool := match i with
  | .getfield x => zm_anyF fl x a b
  | .putfield x => zm_anyF fl x a b
  | .invokestatic x => match a with
    | 0 => true
    | 1 => zm_mokB zw R own x Lib.Math.max.name
    | 2 => zm_mokB zw R own x Lib.Math.min.name
    | _ => zm_mokB zw R own x Lib.Math.abs.name
  | _ => true
theorem zm_mokB_ok {zw : List Jvm.Cond} (hz : ∀ q ∈ zw, q ∈ zm_tbl) {R R' : Room} {own : String} {idx : Nat} {y : MethodName} (hR : R.frames ≤ R'.frames ∧ R.locals ≤ R'.locals) (h : zm_mokB zw R own idx y = true) : zm_mok R' own idx y := by
  simp only [zm_mokB, Bool.and_eq_true, Nat.ble_eq] at h
  exact ⟨by omega, by omega, zm_hasW_ok hz h.2⟩
/-- a block against the code: by its bytes, which are walked once (an instruction that zb8_enc doesn't know: by decode) -/
def zm_sokL (zw : List Jvm.Cond) (R : Room) (own : String) (cc : ByteArray) (fl : List (Nat × Nat × Nat)) : List (Instr × Nat × Nat) → Nat → List UInt8 → Bool
  | [], _, _ => true
  | (i, a, b) :: r, pc, bs => ((zb8_enc i bs && (zm_offs i).all (fun o => decide (0 ≤ (pc : Int) + o))) || zm_dec cc pc i) && zm_iokB zw R own fl i a b && zm_sokL zw R own cc fl r (pc + zm_len i) (bs.drop (zm_len i))
def zm_sokB (zw : List Jvm.Cond) (R : Room) (own : String) (cc : ByteArray) (fl : List (Nat × Nat × Nat)) (b : List (Instr × Nat × Nat)) (pc : Nat) : Bool := zm_sokL zw R own cc fl b pc (cc.data.toList.drop pc)
theorem zm_anyF_ok {zw : List Jvm.Cond} (hz : ∀ q ∈ zw, q ∈ zm_tbl) {own : String} {fl : List (Nat × Nat × Nat)} (hf : fl.all (zm_fokB zw own) = true) {x a b : Nat} (h : zm_anyF fl x a b = true) : zm_fok own x a b := by
  obtain ⟨q, hq, h⟩ := List.any_eq_true.mp h
  simp only [Bool.and_eq_true] at h
  have h1 := Nat.eq_of_beq_eq_true h.1.1
  have h2 := Nat.eq_of_beq_eq_true h.1.2
  have h3 := Nat.eq_of_beq_eq_true h.2
  have := zm_fokB_ok hz (List.all_eq_true.mp hf q hq)
  rw [h1, h2, h3] at this
  exact this
theorem zm_sokL_ok {zw : List Jvm.Cond} (hz : ∀ q ∈ zw, q ∈ zm_tbl) {R R' : Room} (hR : R.frames ≤ R'.frames ∧ R.locals ≤ R'.locals) {own : String} {cc : ByteArray} {fl : List (Nat × Nat × Nat)} (hf : fl.all (zm_fokB zw own) = true) : ∀ (b : List (Instr × Nat × Nat)) (pc : Nat), zm_sokL zw R own cc fl b pc (cc.data.toList.drop pc) = true → zm_sok R' own cc b pc
  | [], _, _ => trivial
  | (i, a, b) :: r, pc, h => by
    simp only [zm_sokL, Bool.and_eq_true, Bool.or_eq_true, List.drop_drop] at h
    refine ⟨h.1.1.elim (fun h => zb8_dec h.1 h.2) id, ?_, zm_sokL_ok hz hR hf r _ h.2⟩
    have h2 := h.1.2
    cases i
    case getfield x => exact zm_anyF_ok hz hf h2
    case putfield x => exact zm_anyF_ok hz hf h2
    case invokestatic x =>
      match a, h2 with
      | 0, _ => exact trivial
      | 1, h2 => exact zm_mokB_ok hz hR h2
      | 2, h2 => exact zm_mokB_ok hz hR h2
      | a + 3, h2 => exact zm_mokB_ok hz hR h2
    all_goals exact trivial
theorem zm_sokB_ok {zw : List Jvm.Cond} (hz : ∀ q ∈ zw, q ∈ zm_tbl) {R R' : Room} (hR : R.frames ≤ R'.frames ∧ R.locals ≤ R'.locals) {own : String} {cc : ByteArray} {fl : List (Nat × Nat × Nat)} (hf : fl.all (zm_fokB zw own) = true) (b : List (Instr × Nat × Nat)) (pc : Nat) (h : zm_sokB zw R own cc fl b pc = true) : zm_sok R' own cc b pc := zm_sokL_ok hz hR hf b pc h
theorem zm_look_mem {α : Type} : ∀ {L : List (Nat × α)} {n : Nat} {a : α}, zm_look L n = some a → (n, a) ∈ L
  | [], n, a, h => by cases h
  | (k, b) :: r, n, a, h => by
    unfold zm_look at h
    split at h
    · next hk =>
      cases h
      rw [Nat.eq_of_beq_eq_true hk]
      exact List.mem_cons_self
    · exact List.mem_cons_of_mem _ (zm_look_mem h)
def zm_cokB (zw : List Jvm.Cond) (own : String) (q : Nat × Value) : Bool := match q.2 with
  | .int v => zm_hasW zw (Jvm.Cond.constant own q.1 v)
  | .long v => zm_hasW zw (Jvm.Cond.constantLong own q.1 v)
  | .retAddr k => decide (own = RX8) && (match zm_strs[k]? with
    | some p => Nat.beq p.1 q.1
    | none => false)
  | _ => false
theorem zm_cokB_ok {zw : List Jvm.Cond} (hz : ∀ q ∈ zw, q ∈ zm_tbl) {own : String} {idx : Nat} {v : Value} (h : zm_cokB zw own (idx, v) = true) : zm_cok own idx v := by
  cases v with
  | int x => exact zm_hasW_ok hz h
  | long x => exact zm_hasW_ok hz h
  | retAddr k =>
    simp only [zm_cokB, Bool.and_eq_true, decide_eq_true_eq] at h
    refine ⟨h.1, ?_⟩
    have h2 := h.2
    split at h2
    · next p hp => exact ⟨p.2, by rw [hp, ← Nat.eq_of_beq_eq_true h2]⟩
    · cases h2
  | float x => cases h
  | double x => cases h
  | null => cases h
  | ref x => cases h
/-- all that a program decides of a table, but for its calls -/
def zm_okB (zw : List Jvm.Cond) (R : Room) (own : String) (cc : ByteArray) (fl : List (Nat × Nat × Nat)) (B : List (Nat × List (Instr × Nat × Nat))) (cs : List (Nat × Value)) : Bool := fl.all (zm_fokB zw own) && B.all (fun q => zm_sokB zw R own cc fl q.2 q.1) && cs.all (zm_cokB zw own)
def zm_allP {α : Type} (P : Nat → α → Prop) : List (Nat × α) → Prop
  | [] => True
  | (k, a) :: r => P k a ∧ zm_allP P r
theorem zm_ok3 {α : Type} {P : Nat → α → Prop} : ∀ {L : List (Nat × α)}, zm_allP P L → ∀ (n : Nat) (a : α), zm_look L n = some a → P n a
  | [], _, n, a, h => by cases h
  | (k, b) :: r, hp, n, a, h => by
    unfold zm_look at h
    split at h
    · next hk =>
      cases h
      rw [Nat.eq_of_beq_eq_true hk]
      exact hp.1
    · exact zm_ok3 hp.2 n a h
theorem zm_ok_of {zc : List (Nat × List (Nat × Jvm.Cond))} {l : Launch} (R : Room) {R' : Room} {own : String} {cc : ByteArray} {fl : List (Nat × Nat × Nat)} {B : List (Nat × List (Instr × Nat × Nat))} {cs : List (Nat × Value)} {cl : List (Nat × zm_C)} {ret : Option FieldType × Option (Nat × (Nat → Int32))} (hw : zm_walks zc = true) (h : zm_okB (zm_flat zc) R own cc fl B cs = true) (hR : R.frames ≤ R'.frames ∧ R.locals ≤ R'.locals) (hc : zm_allP (zm_callok l R' own) cl) : zm_ok l R' own cc (B, cs, cl, ret) := by
  have hz := zm_walk_ok hw
  simp only [zm_okB, Bool.and_eq_true] at h
  refine ⟨fun pc b hb => ?_, fun idx v hv => ?_, zm_ok3 hc⟩
  · exact zm_sokB_ok hz hR h.1.1 b pc (List.all_eq_true.mp h.1.2 _ (zm_look_mem hb))
  · exact zm_cokB_ok hz (List.all_eq_true.mp h.2 _ (zm_look_mem hv))
/-- what may be called: its contract and its own words -/
def zm_cee (l : Launch) (y : MethodName) (bytes : ByteArray) (maxL : Nat) (ret : Option FieldType) (rm : Room) (n na : Nat) (rv : Option Nat) (F : zm_L → List Value → zm_I → zm_R) : Prop :=
  zm_Con l y bytes maxL ret rm F ∧ rm.cells = 0 ∧ rm.slots = 0 ∧ Jvm.Cond.code y bytes maxL ret ∈ zm_tbl ∧ Jvm.Cond.initialized y.cls ∈ zm_tbl ∧
    (y.cls ≠ "java/lang/invoke/MethodHandle" ∧ y.cls ≠ "java/lang/invoke/VarHandle" ∧ (parseMethodDescriptor y.desc).map (fun d => d.parameters.length) = some n) ∧
    match rv with
    | some ci => na = n + 1 ∧ Jvm.Cond.instanceMethod y ∈ zm_tbl ∧ Jvm.Cond.selects y.cls y y ∈ zm_tbl ∧ (∃ r, zm_cl[ci]? = some r ∧ r.1 = y.cls)
    | none => na = n ∧ Jvm.Cond.static y ∈ zm_tbl
theorem zm_callok_of {l : Launch} {y : MethodName} {bytes : ByteArray} {maxL : Nat} {ret : Option FieldType} {rm : Room} {n na : Nat} {rv : Option Nat} {F : zm_L → List Value → zm_I → zm_R} (h : zm_cee l y bytes maxL ret rm n na rv F) {R : Room} {own : String} {idx : Nat} (hl : Jvm.Cond.methodLink own idx y ∈ zm_tbl) {sm : Bool} {bl : List (Nat × Nat)} (hR : rm.frames + 1 ≤ R.frames ∧ 8 + (maxL + 11) + rm.locals ≤ R.locals) : zm_callok l R own idx (na, rv, sm, bl, F) := by
  obtain ⟨h1, h2, h3, h4, h5, h6, h7⟩ := h
  refine ⟨y, bytes, maxL, ret, rm, n, h1, h2, h3, hR, h4, hl, h5, h6, ?_⟩
  cases rv with
  | none => exact h7
  | some ci => exact ⟨h7.1, h7.2.1, h7.2.2.1, Or.inl h7.2.2.2⟩
end
section
/-! TABLES, printed by program (wip/gen/gentab.py) -/
def zB_J6_bitCount_0f7a4 : List (Nat × List (Instr × Nat × Nat)) := [(0, [(.iload_n 0, 0, 0), (.iload_n 0, 0, 0), (.iconst 1, 0, 0), (.iushr, 0, 0), (.ldc_w 265, 0, 0), (.iand, 0, 0), (.isub, 0, 0), (.istore_n 0, 0, 0), (.iload_n 0, 0, 0), (.ldc_w 266, 0, 0), (.iand, 0, 0), (.iload_n 0, 0, 0), (.iconst 2, 0, 0), (.iushr, 0, 0), (.ldc_w 266, 0, 0), (.iand, 0, 0), (.iadd, 0, 0), (.istore_n 0, 0, 0), (.iload_n 0, 0, 0), (.iload_n 0, 0, 0), (.iconst 4, 0, 0), (.iushr, 0, 0), (.iadd, 0, 0), (.ldc_w 267, 0, 0), (.iand, 0, 0), (.istore_n 0, 0, 0), (.iload_n 0, 0, 0), (.iload_n 0, 0, 0), (.bipush 8, 0, 0), (.iushr, 0, 0), (.iadd, 0, 0), (.istore_n 0, 0, 0), (.iload_n 0, 0, 0), (.iload_n 0, 0, 0), (.bipush 16, 0, 0), (.iushr, 0, 0), (.iadd, 0, 0), (.istore_n 0, 0, 0), (.iload_n 0, 0, 0), (.bipush 63, 0, 0), (.iand, 0, 0), (.ireturn, 0, 0)])]
def zw_J6_bitCount_0f7a4 : List (Nat × List (Nat × Jvm.Cond)) := [(1, [(18, .initialized RJ6)]), (4, [(121, .static yJ6_bitCount_0f7a4), (123, .constant RJ6 265 (1431655765)), (124, .constant RJ6 266 (858993459)), (125, .constant RJ6 267 (252645135))])]
theorem zk_J6_bitCount_0f7a4 : zm_walks zw_J6_bitCount_0f7a4 = true := by decide +kernel
noncomputable def zT_J6_bitCount_0f7a4 : zm_T := (zB_J6_bitCount_0f7a4, [(265, .int (1431655765)), (266, .int (858993459)), (267, .int (252645135))], [], (some .int), none)
noncomputable def zF_J6_bitCount_0f7a4 : zm_L → List Value → zm_I → zm_R := zm_F zm_V zT_J6_bitCount_0f7a4 1
def zR_J6_bitCount_0f7a4 : Room := { frames := 0, cells := 0, slots := 0, locals := 0 }
theorem ze_J6_bitCount_0f7a4 (l : Launch) : zm_cee l yJ6_bitCount_0f7a4 cJ6_bitCount_0f7a4 1 (some .int) zR_J6_bitCount_0f7a4 1 1 (none) zF_J6_bitCount_0f7a4 := ⟨zm_con (T := zT_J6_bitCount_0f7a4) (by decide) (zm_ok_of (fl := []) zR_J6_bitCount_0f7a4 zk_J6_bitCount_0f7a4 (by decide +kernel) ⟨Nat.le_refl _, Nat.le_refl _⟩ trivial), rfl, rfl, zm_cw 4 122 rfl rfl, zm_wk zk_J6_bitCount_0f7a4 0 rfl, ⟨by decide, by decide, by decide +kernel⟩, rfl, zm_wk zk_J6_bitCount_0f7a4 1 rfl⟩
def zB_J13_bitCount_95d88 : List (Nat × List (Instr × Nat × Nat)) := [(0, [(.lload_n 0, 0, 0), (.lload_n 0, 0, 0), (.iconst 1, 0, 0), (.lushr, 0, 0), (.ldc2_w 314, 0, 0), (.land, 0, 0), (.lsub, 0, 0), (.lstore_n 0, 0, 0), (.lload_n 0, 0, 0), (.ldc2_w 316, 0, 0), (.land, 0, 0), (.lload_n 0, 0, 0), (.iconst 2, 0, 0), (.lushr, 0, 0), (.ldc2_w 316, 0, 0), (.land, 0, 0), (.ladd, 0, 0), (.lstore_n 0, 0, 0), (.lload_n 0, 0, 0), (.lload_n 0, 0, 0), (.iconst 4, 0, 0), (.lushr, 0, 0), (.ladd, 0, 0), (.ldc2_w 318, 0, 0), (.land, 0, 0), (.lstore_n 0, 0, 0), (.lload_n 0, 0, 0), (.lload_n 0, 0, 0), (.bipush 8, 0, 0), (.lushr, 0, 0), (.ladd, 0, 0), (.lstore_n 0, 0, 0), (.lload_n 0, 0, 0), (.lload_n 0, 0, 0), (.bipush 16, 0, 0), (.lushr, 0, 0), (.ladd, 0, 0), (.lstore_n 0, 0, 0), (.lload_n 0, 0, 0), (.lload_n 0, 0, 0), (.bipush 32, 0, 0), (.lushr, 0, 0), (.ladd, 0, 0), (.lstore_n 0, 0, 0), (.lload_n 0, 0, 0), (.l2i, 0, 0), (.bipush 127, 0, 0), (.iand, 0, 0), (.ireturn, 0, 0)])]
def zw_J13_bitCount_95d88 : List (Nat × List (Nat × Jvm.Cond)) := [(1, [(19, .initialized RJ13)]), (5, [(182, .static yJ13_bitCount_95d88), (184, .constantLong RJ13 314 (6148914691236517205)), (185, .constantLong RJ13 316 (3689348814741910323)), (186, .constantLong RJ13 318 (1085102592571150095))])]
theorem zk_J13_bitCount_95d88 : zm_walks zw_J13_bitCount_95d88 = true := by decide +kernel
noncomputable def zT_J13_bitCount_95d88 : zm_T := (zB_J13_bitCount_95d88, [(314, .long (6148914691236517205)), (316, .long (3689348814741910323)), (318, .long (1085102592571150095))], [], (some .int), none)
noncomputable def zF_J13_bitCount_95d88 : zm_L → List Value → zm_I → zm_R := zm_F zm_V zT_J13_bitCount_95d88 2
def zR_J13_bitCount_95d88 : Room := { frames := 0, cells := 0, slots := 0, locals := 0 }
theorem ze_J13_bitCount_95d88 (l : Launch) : zm_cee l yJ13_bitCount_95d88 cJ13_bitCount_95d88 2 (some .int) zR_J13_bitCount_95d88 1 1 (none) zF_J13_bitCount_95d88 := ⟨zm_con (T := zT_J13_bitCount_95d88) (by decide) (zm_ok_of (fl := []) zR_J13_bitCount_95d88 zk_J13_bitCount_95d88 (by decide +kernel) ⟨Nat.le_refl _, Nat.le_refl _⟩ trivial), rfl, rfl, zm_cw 5 183 rfl rfl, zm_wk zk_J13_bitCount_95d88 0 rfl, ⟨by decide, by decide, by decide +kernel⟩, rfl, zm_wk zk_J13_bitCount_95d88 1 rfl⟩
def zB_J7_fill_d0a16 : List (Nat × List (Instr × Nat × Nat)) := [(0, [(.iconst 0, 0, 0), (.istore_n 3, 0, 0), (.aload_n 0, 0, 0), (.arraylength, 0, 0), (.istore 4, 0, 0)]), (6, [(.iload_n 3, 0, 0), (.iload 4, 0, 0), (.if_icmp .ge 13, 0, 0)]), (12, [(.aload_n 0, 0, 0), (.iload_n 3, 0, 0), (.lload_n 1, 0, 0), (.lastore, 0, 0), (.iinc 3 1, 0, 0), (.goto (-13), 0, 0)]), (22, [(.return_, 0, 0)])]
def zw_J7_fill_d0a16 : List (Nat × List (Nat × Jvm.Cond)) := [(1, [(17, .initialized RJ7)]), (5, [(107, .static yJ7_fill_d0a16)])]
theorem zk_J7_fill_d0a16 : zm_walks zw_J7_fill_d0a16 = true := by decide +kernel
noncomputable def zT_J7_fill_d0a16 : zm_T := (zB_J7_fill_d0a16, [], [], none, none)
noncomputable def zF_J7_fill_d0a16 : zm_L → List Value → zm_I → zm_R := zm_F zm_V zT_J7_fill_d0a16 5
def zR_J7_fill_d0a16 : Room := { frames := 0, cells := 0, slots := 0, locals := 0 }
theorem ze_J7_fill_d0a16 (l : Launch) : zm_cee l yJ7_fill_d0a16 cJ7_fill_d0a16 5 none zR_J7_fill_d0a16 2 2 (none) zF_J7_fill_d0a16 := ⟨zm_con (T := zT_J7_fill_d0a16) (by decide) (zm_ok_of (fl := []) zR_J7_fill_d0a16 zk_J7_fill_d0a16 (by decide +kernel) ⟨Nat.le_refl _, Nat.le_refl _⟩ trivial), rfl, rfl, zm_cw 5 108 rfl rfl, zm_wk zk_J7_fill_d0a16 0 rfl, ⟨by decide, by decide, by decide +kernel⟩, rfl, zm_wk zk_J7_fill_d0a16 1 rfl⟩
def zB_J7_fill_53178 : List (Nat × List (Instr × Nat × Nat)) := [(0, [(.iconst 0, 0, 0), (.istore_n 2, 0, 0), (.aload_n 0, 0, 0), (.arraylength, 0, 0), (.istore_n 3, 0, 0)]), (5, [(.iload_n 2, 0, 0), (.iload_n 3, 0, 0), (.if_icmp .ge 13, 0, 0)]), (10, [(.aload_n 0, 0, 0), (.iload_n 2, 0, 0), (.iload_n 1, 0, 0), (.iastore, 0, 0), (.iinc 2 1, 0, 0), (.goto (-12), 0, 0)]), (20, [(.return_, 0, 0)])]
def zw_J7_fill_53178 : List (Nat × List (Nat × Jvm.Cond)) := [(1, [(17, .initialized RJ7)]), (3, [(104, .static yJ7_fill_53178)])]
theorem zk_J7_fill_53178 : zm_walks zw_J7_fill_53178 = true := by decide +kernel
noncomputable def zT_J7_fill_53178 : zm_T := (zB_J7_fill_53178, [], [], none, none)
noncomputable def zF_J7_fill_53178 : zm_L → List Value → zm_I → zm_R := zm_F zm_V zT_J7_fill_53178 4
def zR_J7_fill_53178 : Room := { frames := 0, cells := 0, slots := 0, locals := 0 }
theorem ze_J7_fill_53178 (l : Launch) : zm_cee l yJ7_fill_53178 cJ7_fill_53178 4 none zR_J7_fill_53178 2 2 (none) zF_J7_fill_53178 := ⟨zm_con (T := zT_J7_fill_53178) (by decide) (zm_ok_of (fl := []) zR_J7_fill_53178 zk_J7_fill_53178 (by decide +kernel) ⟨Nat.le_refl _, Nat.le_refl _⟩ trivial), rfl, rfl, zm_cw 3 105 rfl rfl, zm_wk zk_J7_fill_53178 0 rfl, ⟨by decide, by decide, by decide +kernel⟩, rfl, zm_wk zk_J7_fill_53178 1 rfl⟩
end
