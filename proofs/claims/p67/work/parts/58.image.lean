/-! IMAGE: the class makes a bench. A run that reads and writes no number does the same over any memory. -/
def zi_nm (i : Instr) (a b : Nat) : Bool := match i with
  | .getfield _ => zn_isR (zm_ty a b)
  | .putfield _ => zm_fin a b
  | .aload_n _ => true
  | .iload_n _ => true
  | .astore_n _ => true
  | .iconst _ => true
  | .bipush _ => true
  | .sipush _ => true
  | .dup => true
  | .ifCond _ _ => true
  | .if_icmp _ _ => true
  | .ifnonnull _ => true
  | .aaload => true
  | .ireturn => true
  | .return_ => true
  | .new _ => true
  | .newarray _ => true
  | .invokespecial _ => true
  | .aastore => true
  | _ => false
abbrev zi_f (M' : zm_I) : zm_S → zm_S := fun q => (q.1, q.2.1, q.2.2.1, M')
theorem zi_vA {M M' : zm_I} {n : Nat} {rs : List Value} {ty : FieldType} {k : Nat} (h : zn_isR ty = true) : zm_vA M' n rs ty k = zm_vA M n rs ty k := by
  cases ty <;> first | rfl | (cases h; done)
theorem zi_next {wl : zm_L} {i : Instr} {a b pc : Nat} {ls : List (Option Value)} {st : List Value} {M M' : zm_I} (h : zi_nm i a b = true) : zn_next wl i a b pc ls st M' = (zn_next wl i a b pc ls st M).map (zi_f M') := by
  cases i
  case aload_n x =>
    unfold zn_next
    dsimp only
    cases ls[x.val]? with
    | none => rfl
    | some o => cases o with
      | none => rfl
      | some v => cases v <;> rfl
  case iload_n x =>
    unfold zn_next
    dsimp only
    cases ls[x.val]? with
    | none => rfl
    | some o => cases o with
      | none => rfl
      | some v => cases v <;> rfl
  case astore_n x =>
    unfold zn_next
    dsimp only
    cases st with
    | nil => rfl
    | cons v r => cases v <;> first | rfl | (dsimp only; cases Nat.ble (x.val + 1) ls.length <;> rfl)
  case iconst n => rfl
  case bipush n => rfl
  case sipush n => rfl
  case dup =>
    unfold zn_next
    dsimp only
    cases st with
    | nil => rfl
    | cons v r => cases v <;> rfl
  case ifCond c off =>
    unfold zn_next
    dsimp only
    cases st with
    | nil => rfl
    | cons v r => cases v <;> first | rfl | (rename_i x; cases c <;> first | rfl | (dsimp only; by_cases hx : x < 0 <;> simp [hx]))
  case if_icmp c off =>
    unfold zn_next
    dsimp only
    cases st with
    | nil => rfl
    | cons v r =>
      cases v <;> first
        | rfl
        | (rename_i y
           cases r with
           | nil => rfl
           | cons w r =>
             cases w <;> first
               | rfl
               | (rename_i x
                  cases c <;> first
                    | rfl
                    | (dsimp only; by_cases hx : y ≤ x <;> simp [hx]; done)
                    | (dsimp only; by_cases hx : y < x <;> simp [hx]; done)
                    | (dsimp only; by_cases hx : x < y <;> simp [hx]; done)))
  case ifnonnull off =>
    unfold zn_next
    dsimp only
    cases st with
    | nil => rfl
    | cons v r => cases v <;> rfl
  case aaload =>
    unfold zn_next
    dsimp only
    cases st with
    | nil => rfl
    | cons v r =>
      cases v <;> first
        | rfl
        | (rename_i ix
           cases r with
           | nil => rfl
           | cons w r =>
             cases w <;> first
               | rfl
               | (rename_i n
                  dsimp only
                  cases wl[n]? with
                  | none => rfl
                  | some d =>
                    obtain ⟨ci | ⟨ty, len⟩, rs⟩ := d
                    · rfl
                    · cases ty <;> first
                        | rfl
                        | (dsimp only
                           by_cases hx : ix < 0 ∨ len ≤ ix.toNatClampNeg
                           · rw [if_pos hx, if_pos hx]; rfl
                           · rw [if_neg hx, if_neg hx]
                             cases rs.getD ix.toNatClampNeg .null <;> rfl)))
  case ireturn => rfl
  case return_ => rfl
  case new x => rfl
  case newarray x => rfl
  case invokespecial x => rfl
  case aastore => rfl
  case getfield x =>
    unfold zn_next
    dsimp only
    cases st with
    | nil => rfl
    | cons v r =>
      cases v <;> first
        | rfl
        | (rename_i n
           dsimp only
           cases wl[n]? with
           | none => rfl
           | some d =>
             obtain ⟨ci | ⟨ty, len⟩, rs⟩ := d
             · dsimp only
               rw [zi_vA (M := M) (M' := M') h]
               cases Nat.beq ci a <;> rfl
             · rfl)
  case putfield x =>
    have h : zm_fin a b = true := h
    unfold zn_next
    dsimp only
    rw [h]
    rfl
  all_goals cases h
theorem zi_pr {wl : zm_L} {a b pc : Nat} {ls : List (Option Value)} {st : List Value} {M M' : zm_I} : zn_pr wl a b pc ls st M' = (zn_pr wl a b pc ls st M).map (fun q => (zi_f M' q.1, q.2)) := by
  unfold zn_pr
  cases st with
  | nil => rfl
  | cons v r =>
    cases v <;> first
      | rfl
      | (cases r with
         | nil => rfl
         | cons w r =>
           cases w <;> first
             | rfl
             | (rename_i n
                dsimp only
                cases wl[n]? with
                | none => rfl
                | some d =>
                  obtain ⟨ci | ⟨ty, len⟩, rs⟩ := d
                  · dsimp only
                    cases (Nat.beq ci a && zm_fin a b && zn_isR (zm_ty a b) && Nat.ble (b + 1) rs.length) <;> rfl
                  · rfl))
theorem zi_as {wl : zm_L} {pc : Nat} {ls : List (Option Value)} {st : List Value} {M M' : zm_I} : zn_as wl pc ls st M' = (zn_as wl pc ls st M).map (fun q => (zi_f M' q.1, q.2)) := by
  unfold zn_as
  cases st with
  | nil => rfl
  | cons v r =>
    cases v <;> first
      | rfl
      | (rename_i vv
         cases r with
         | nil => rfl
         | cons w r =>
           cases w <;> first
             | rfl
             | (rename_i ix
                cases r with
                | nil => rfl
                | cons u r =>
                  cases u <;> first
                    | rfl
                    | (rename_i n
                       dsimp only
                       cases wl[n]? with
                       | none => rfl
                       | some d =>
                         obtain ⟨ci | ⟨ty, len⟩, rs⟩ := d
                         · rfl
                         · cases ty <;> first
                             | rfl
                             | (rename_i C
                                dsimp only
                                cases wl[vv]? with
                                | none => rfl
                                | some d2 =>
                                  obtain ⟨cj | ⟨ty2, len2⟩, rs2⟩ := d2
                                  · dsimp only
                                    by_cases hx : ix < 0 ∨ len ≤ ix.toNatClampNeg
                                    · rw [if_pos hx, if_pos hx]; rfl
                                    · rw [if_neg hx, if_neg hx]
                                      cases (decide (zn_nm cj = C) && Nat.ble (cj + 1) 11 && Nat.ble (ix.toNatClampNeg + 1) rs.length) <;> rfl
                                  · rfl))))
def zi_in (C : zn_C) : Prop := ∀ (wl : zm_L) (av : List Value) (M M' : zm_I), C.1 wl av M' = (C.1 wl av M).map (fun q => (q.1, M'))
def zi_tb (T : zn_T) : Bool := T.1.all (fun q => zi_nm q.2.1 q.2.2.1 q.2.2.2)
def zi_all : List (Nat × zn_C) → Prop
  | [] => True
  | q :: r => zi_in q.2 ∧ zi_all r
theorem zi_all_o : ∀ {L : List (Nat × zn_C)}, zi_all L → ∀ {idx : Nat} {C : zn_C}, zm_look L idx = some C → zi_in C
  | [], _, _, _, h => by cases h
  | (k, C0) :: r, h, idx, C, hl => by
    unfold zm_look at hl
    split at hl
    · cases hl; exact h.1
    · exact zi_all_o h.2 hl
abbrev zi_g (M' : zm_I) : zn_S → zn_S := fun q => (zi_f M' q.1, q.2)
theorem zi_ct {T : zn_T} (hC : zi_all T.2.1) {S : zn_S} {idx : Nat} {M' : zm_I} : zn_ct T (zi_g M' S) idx = (zn_ct T S idx).map (zi_g M') := by
  obtain ⟨⟨pc, ls, st, M⟩, wl, c, s⟩ := S
  unfold zn_ct
  dsimp only
  cases st with
  | nil => rfl
  | cons v r =>
    cases v <;> first
      | rfl
      | (rename_i n
         dsimp only
         cases hl : zm_look T.2.1 idx with
         | none => rfl
         | some C =>
           dsimp only
           cases (Nat.ble (r.map fun v => v.category).sum 8 && zn_cl ls r wl && Nat.ble (c + C.2.1) T.2.2.1 && Nat.ble (s + C.2.2) T.2.2.2) with
           | false => rfl
           | true =>
             dsimp only
             rw [zi_all_o hC hl wl [.ref n] M M']
             cases C.1 wl [.ref n] M with
             | none => rfl
             | some q =>
               dsimp only [Option.map]
               cases Nat.ble wl.length q.1.length <;> rfl)
theorem zi_step {T : zn_T} (hT : zi_tb T = true) (hC : zi_all T.2.1) {S : zn_S} {M' : zm_I} : zn_step T (zi_g M' S) = (zn_step T S).map (zi_g M') := by
  obtain ⟨⟨pc, ls, st, M⟩, wl, c, s⟩ := S
  unfold zn_step
  dsimp only
  cases hl : zm_look T.1 pc with
  | none => rfl
  | some q =>
    obtain ⟨i, a, b⟩ := q
    have hi : zi_nm i a b = true := List.all_eq_true.mp hT _ (zm_look_mem hl)
    have ord : (match zn_next wl i a b pc ls st M' with
      | some q => some ((q, wl, c, s) : zn_S)
      | none => none) = Option.map (zi_g M') (match zn_next wl i a b pc ls st M with
      | some q => some ((q, wl, c, s) : zn_S)
      | none => none) := by
      rw [zi_next (M := M) (M' := M') hi]
      cases zn_next wl i a b pc ls st M <;> rfl
    dsimp only
    cases i
    case new x =>
      dsimp only
      cases (zn_cl ls st wl && Nat.ble (c + 1) T.2.2.1 && Nat.ble (s + zm_nf a) T.2.2.2 && zn_okf a) <;> rfl
    case newarray t =>
      dsimp only
      cases st with
      | nil => rfl
      | cons v r =>
        cases v <;> first
          | rfl
          | (rename_i n
             dsimp only
             by_cases hn : n < 0
             · rw [if_pos hn, if_pos hn]; rfl
             · rw [if_neg hn, if_neg hn]
               cases (zn_cl ls r wl && Nat.ble (c + 1) T.2.2.1 && Nat.ble (s + n.toNatClampNeg) T.2.2.2 && zn_prim (newarray.typeOf t) && Nat.ble n.toNatClampNeg 100000) <;> rfl)
    case aastore =>
      dsimp only
      rw [zi_as (M := M) (M' := M')]
      cases zn_as wl pc ls st M <;> rfl
    case invokespecial idx =>
      dsimp only
      match a with
      | 0 =>
        cases st with
        | nil => rfl
        | cons v r =>
          cases v <;> first
            | rfl
            | (dsimp only; cases Nat.ble (r.map fun v => v.category).sum 8 <;> rfl)
      | a + 1 => exact zi_ct hC (S := ((pc, ls, st, M), wl, c, s))
    case putfield x =>
      dsimp only
      rw [zi_pr (M := M) (M' := M'), zi_next (M := M) (M' := M') hi]
      cases zn_pr wl a b pc ls st M with
      | some q => rfl
      | none => cases zn_next wl (.putfield x) a b pc ls st M <;> rfl
    all_goals first | exact ord | (cases hi; done)
theorem zi_go {T : zn_T} (hT : zi_tb T = true) (hC : zi_all T.2.1) {stop : Nat} {M' : zm_I} : ∀ (n : Nat) (S : zn_S), zn_go T stop n (zi_g M' S) = (zn_go T stop n S).map (zi_g M')
  | 0, S => rfl
  | n + 1, S => by
    unfold zn_go
    dsimp only
    cases Nat.beq S.1.1 stop with
    | true => rfl
    | false =>
      dsimp only
      rw [zi_step hT hC]
      cases zn_step T S with
      | none => rfl
      | some q => exact zi_go hT hC n q
theorem zi_run {T : zn_T} (hT : zi_tb T = true) (hC : zi_all T.2.1) {nL stop fuel a b : Nat} : zi_in (zn_run T nL stop fuel, a, b) := by
  intro wl av M M'
  show zn_run T nL stop fuel wl av M' = (zn_run T nL stop fuel wl av M).map (fun q => (q.1, M'))
  unfold zn_run
  cases Nat.ble (zm_sl av).length nL with
  | false => rfl
  | true =>
    dsimp only
    have e := zi_go hT hC (stop := stop) (M' := M') fuel ((0, zm_pad nL (zm_sl av), [], M), wl, 0, 0)
    have e : zn_go T stop fuel ((0, zm_pad nL (zm_sl av), [], M'), wl, 0, 0) = _ := e
    rw [e]
    cases zn_go T stop fuel ((0, zm_pad nL (zm_sl av), [], M), wl, 0, 0) with
    | none => rfl
    | some S =>
      obtain ⟨⟨pc, ls, st, M1⟩, w1, c, s⟩ := S
      dsimp only [Option.map]
      cases st with
      | nil =>
        dsimp only
        cases (Nat.beq c T.2.2.1 && Nat.beq s T.2.2.2) <;> rfl
      | cons v r => rfl
def zi_z0 : zm_I := (fun _ _ => 0, fun _ _ => 0)
def zi_S0 (ks : List Nat) (k : Nat) (M : zm_I) : zn_S := ((0, [some (.ref 0), some (.int (Int32.ofNat k)), none], [], M), zL_w ks, 0, 0)
def zi_S1 (ks : List Nat) (k : Nat) (M : zm_I) : zn_S := ((38, [some (.ref 0), some (.int (Int32.ofNat k)), some (.ref (196 + 10 * ks.length))], [], M), zL_w (ks ++ [k]), 10, 171)
def zi_chk (ks : List Nat) (k : Nat) : Bool := match zn_go zU_img 38 60 (zi_S0 ks k zi_z0) with
  | some S => Nat.beq S.1.1 38 && decide (S.1.2.1 = [some (.ref 0), some (.int (Int32.ofNat k)), some (.ref (196 + 10 * ks.length))]) && decide (S.1.2.2.1 = []) && zn_eqL S.2.1 (zL_w (ks ++ [k])) && Nat.beq S.2.2.1 10 && Nat.beq S.2.2.2 171
  | none => false
theorem zi_chk_ok : zK_all.all (fun ks => (List.range 3).all (fun k => match zK_ix ks k with
  | some _ => true
  | none => zi_chk ks k)) = true := by decide +kernel
theorem zi_tX0 : zi_tb zU_X0_init = true := by decide +kernel
theorem zi_timg : zi_tb zU_img = true := by decide +kernel
theorem zi_aimg : zi_all zU_img.2.1 := ⟨zi_run zi_tX0 trivial, trivial⟩
theorem zi_goM {ks : List Nat} (h : ks ∈ zK_all) {k : Nat} (hk : k < 3) (hi : zK_ix ks k = none) (M : zm_I) : zn_go zU_img 38 60 (zi_S0 ks k M) = some (zi_S1 ks k M) := by
  have hc := List.all_eq_true.mp (List.all_eq_true.mp zi_chk_ok ks h) k (List.mem_range.mpr hk)
  rw [hi] at hc
  have hc : zi_chk ks k = true := hc
  have e := zi_go zi_timg zi_aimg (stop := 38) (M' := M) 60 (zi_S0 ks k zi_z0)
  have e : zn_go zU_img 38 60 (zi_S0 ks k M) = _ := e
  rw [e]
  unfold zi_chk at hc
  cases hz : zn_go zU_img 38 60 (zi_S0 ks k zi_z0) with
  | none => rw [hz] at hc; cases hc
  | some S =>
    rw [hz] at hc
    obtain ⟨⟨pc, ls, st, M1⟩, w1, c, s⟩ := S
    simp only [Bool.and_eq_true, decide_eq_true_eq] at hc
    obtain ⟨⟨⟨⟨⟨h1, h2⟩, h3⟩, h4⟩, h5⟩, h6⟩ := hc
    have h1 := Nat.eq_of_beq_eq_true h1
    have h4 := zn_eqL_ok h4
    have h5 := Nat.eq_of_beq_eq_true h5
    have h6 := Nat.eq_of_beq_eq_true h6
    subst h1 h2 h3 h4 h5 h6
    rfl
/-! rows over any world -/
theorem zy_gf {kn : zm_N} {wl : zm_L} {n ci f : Nat} {rs : List Value} {ls : List (Option Value)} {st : List Value} {M : zm_I} (h : wl[n]? = some (.inl ci, rs)) : zm_gf kn wl ci f ls (.ref n :: st) M = kn ls (zm_vA M n rs (zm_ty ci f) f :: st) M := by
  unfold zm_gf
  simp only [h, Nat.beq_refl]
theorem zy_alq {kn : zm_N} {wl : zm_L} {n len : Nat} {C : String} {rs : List Value} {x : Int32} {ls : List (Option Value)} {st : List Value} {M : zm_I} (h : wl[n]? = some (.inr (.object C, len), rs)) (hx : ¬ (x < 0 ∨ len ≤ x.toNatClampNeg)) : zm_al kn none wl 3 ls (.int x :: .ref n :: st) M = match rs.getD x.toNatClampNeg .null with
  | .ref q => kn ls (.ref q :: st) M
  | .null => kn ls (.null :: st) M
  | _ => none := by
  unfold zm_al
  simp only [h]
  rw [if_neg hx]
  rfl
theorem zi_three {l : Int32} (h0 : ¬ l < 0) (h3 : l < 3) : ∃ k, k < 3 ∧ l = Int32.ofNat k := by
  have h0 := Int32.not_lt.mp h0
  rw [Int32.le_iff_toInt_le] at h0
  rw [Int32.lt_iff_toInt_lt] at h3
  have e0 : (0 : Int32).toInt = 0 := by decide
  have e3 : (3 : Int32).toInt = 3 := by decide
  refine ⟨l.toInt.toNat, by omega, Int32.toInt_inj.mp ?_⟩
  rw [Int32.toInt_ofNat_of_lt (by omega)]
  omega
theorem zi_k3 : ∀ k, k < 3 → ¬ (Int32.ofNat k < 0 ∨ 3 ≤ (Int32.ofNat k).toNatClampNeg) ∧ (Int32.ofNat k).toNatClampNeg = k ∧ ¬ Int32.ofNat k < 0 ∧ Int32.ofNat k < 3 := by decide
theorem zK_rD (ks : List Nat) : ∀ k, k < 3 → [zK_r ks 0, zK_r ks 1, zK_r ks 2].getD k .null = zK_r ks k := by
  intro k hk
  match k, hk with
  | 0, _ => rfl
  | 1, _ => rfl
  | 2, _ => rfl
  | k + 3, h => omega
abbrev zi_ls (k : Nat) (o : Option Value) : List (Option Value) := [some (.ref 0), some (.int (Int32.ofNat k)), o]
/-- the stretch that reads images[k] -/
theorem zi_read {T : zm_T} {b0 : List (Instr × Nat × Nat)} {off : Int} {pcT pcN : Nat} (hT : zm_look T.1 12 = some [(.aload_n 0, 0, 0), (.getfield 26, 9, 3), (.iload_n 1, 0, 0), (.aaload, 0, 0), (.astore_n 2, 0, 0), (.aload_n 2, 0, 0), (.ifnonnull off, 0, 0)]) (hs : T.2.2.2.2 = none) (hp : zm_tg 20 off = pcT) {ks : List Nat} {k : Nat} (hk : k < 3) (M : zm_I) (K : zm_S → zm_R) : zm_step T (zL_w ks) K (12, zi_ls k none, [], M) = match zK_ix ks k with
  | some i => K (pcT, zi_ls k (some (.ref (196 + 10 * i))), [], M)
  | none => K (23, zi_ls k (some .null), [], M) := by
  obtain ⟨h1, h2, -, -⟩ := zi_k3 k hk
  unfold zm_step
  simp only [hT]
  have e1 : zm_seq T (zL_w ks) K [(.aload_n 0, 0, 0), (.getfield 26, 9, 3), (.iload_n 1, 0, 0), (.aaload, 0, 0), (.astore_n 2, 0, 0), (.aload_n 2, 0, 0), (.ifnonnull off, 0, 0)] 12 (zi_ls k none) [] M = zm_gf (zm_seq T (zL_w ks) K [(.iload_n 1, 0, 0), (.aaload, 0, 0), (.astore_n 2, 0, 0), (.aload_n 2, 0, 0), (.ifnonnull off, 0, 0)] 16) (zL_w ks) 9 3 (zi_ls k none) [.ref 0] M := rfl
  rw [e1, zy_gf (zK_0 ks)]
  have e2 : zm_seq T (zL_w ks) K [(.iload_n 1, 0, 0), (.aaload, 0, 0), (.astore_n 2, 0, 0), (.aload_n 2, 0, 0), (.ifnonnull off, 0, 0)] 16 (zi_ls k none) [zm_vA M 0 zK_c0 (zm_ty 9 3) 3] M = zm_al (zm_seq T (zL_w ks) K [(.astore_n 2, 0, 0), (.aload_n 2, 0, 0), (.ifnonnull off, 0, 0)] 18) T.2.2.2.2 (zL_w ks) 3 (zi_ls k none) [.int (Int32.ofNat k), .ref 164] M := rfl
  rw [e2, hs, zy_alq (zK_164 ks) h1, h2, zK_rD ks k hk]
  subst hp
  unfold zK_r
  cases zK_ix ks k <;> rfl
