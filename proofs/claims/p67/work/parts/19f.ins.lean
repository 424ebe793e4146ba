/-! AN ABSTRACT RUN: one instruction of any kind, a stretch -/
/-- what an abstract run is of: world and its number, blocks, bounds, what may be written, fixed locals, supports, constants, what is returned, what it comes to, its arguments, contracts by number -/
abbrev zt_H : Type := (zm_L × Nat × zt_Sg) × (zt_G × zt_W × List Nat × zt_U) × List (Nat × Value) × (Option FieldType × List zt_O × List zt_A) × List (Nat × List zt_K)
def zt_at : List zt_A → Nat → Nat
  | [], _ => 0
  | _ :: _, 0 => 0
  | a :: r, j + 1 => match zt_isL a with
    | true => 2 + zt_at r j
    | false => 1 + zt_at r j
def zt_rtO (K : List Nat) (as : List zt_A) (σ : zt_St) (v : Option zt_A) (o : zt_O) : Bool := (match o.1 with
  | none => (match v with
    | none => true
    | some _ => false)
  | some b => (match v with
    | none => false
    | some a => zt_sub1 (zt_nn a (a.2.2.2.2.filter (fun nm => Nat.beq nm.1 1))) b)) && o.2.1.all (fun q => Nat.ble (q.1 + 1) as.length && K.any (Nat.beq (zt_at as q.1)) && (match σ.1[zt_at as q.1]? with
  | some (some a) => Nat.ble a.1 1 && zt_le q.2.1 a.2.1 && zt_le a.2.2.1 q.2.2
  | _ => false)) && o.2.2.1.all (fun c => Nat.beq c.1.1 1 && zt_subC σ.2.2.1 c) && o.2.2.2.all (fun f => σ.2.2.2.any (Nat.beq f))
def zt_rt (K : List Nat) (as : List zt_A) (ret : Option FieldType) (O : List zt_O) (ct : Nat) (σ : zt_St) : zt_R := match σ.2.1 with
  | [] => match ret with
    | none => match Nat.beq ct 3 && O.any (zt_rtO K as σ none) with
      | true => some ([], [])
      | false => none
    | some _ => none
  | a :: r => match r with
    | _ :: _ => none
    | [] => match (match ret with
      | some .int => Nat.beq a.1 0 && Nat.beq ct 0
      | some .boolean => Nat.beq a.1 0 && Nat.beq ct 0 && zt_le (.ofNat 0) a.2.1 && zt_le a.2.2.1 (.ofNat 1)
      | some .long => zt_isL a && Nat.beq ct 1
      | some (.object _) => (Nat.beq a.1 2 || Nat.beq a.1 3) && Nat.beq ct 2
      | _ => false) && O.any (zt_rtO K as σ (some a)) with
      | true => some ([], [])
      | false => none
def zt_pick (f : zt_K → Option (List zt_St)) : List zt_K → Option (List zt_St)
  | [] => none
  | K :: r => match f K with
    | some L => some L
    | none => zt_pick f r
def zt_cl (H : zt_H) (ct idx : Nat) (σ : zt_St) : zt_R := match zm_look H.2.2.2.2 idx with
  | some ks => match zt_pick (fun K => match Nat.ble K.1.1 σ.2.1.length && Nat.ble (zt_ct9 (σ.2.1.drop K.1.1)) 8 && (match K.1.2.1 with
      | some _ => Nat.beq ct 0
      | none => Nat.beq ct 1) with
    | true => zt_call H.1.1 H.1.2.1 H.1.2.2 H.2.1.2.1 H.2.1.2.2.2 K (σ.2.1.take K.1.1).reverse (σ.1, σ.2.1.drop K.1.1, σ.2.2)
    | false => none) ks with
    | some L => some (L, [])
    | none => none
  | none => none
def zt_kst (n lo hi : Int) (σ : zt_St) : zt_R := match zt_le lo n && zt_le n hi with
  | true => zt_pu (zt_ct n) σ
  | false => none
def zt_ins (H : zt_H) (i : Instr) (a b pc : Nat) (σ : zt_St) : zt_R := match i with
  | .iload_n x => zt_ld 0 x.val σ
  | .iload x => zt_ld 0 x σ
  | .lload_n x => zt_ld 1 x.val σ
  | .lload x => zt_ld 1 x σ
  | .aload_n x => zt_ld 2 x.val σ
  | .aload x => zt_ld 2 x σ
  | .istore_n x => zt_st H.2.1.2.2.2 H.2.1.2.2.1 0 x.val σ
  | .istore x => zt_st H.2.1.2.2.2 H.2.1.2.2.1 0 x σ
  | .lstore_n x => zt_st H.2.1.2.2.2 H.2.1.2.2.1 1 x.val σ
  | .lstore x => zt_st H.2.1.2.2.2 H.2.1.2.2.1 1 x σ
  | .astore_n x => zt_st H.2.1.2.2.2 H.2.1.2.2.1 2 x.val σ
  | .astore x => zt_st H.2.1.2.2.2 H.2.1.2.2.1 2 x σ
  | .iconst n => zt_kst n (.negSucc 2147483647) (.ofNat 2147483647) σ
  | .bipush n => zt_kst n (.negSucc 127) (.ofNat 127) σ
  | .sipush n => zt_kst n (.negSucc 32767) (.ofNat 32767) σ
  | .lconst n => match Nat.ble n.val 1 with
    | true => zt_pu (zt_lct (.ofNat n.val)) σ
    | false => none
  | .aconst_null => zt_pu (3, .ofNat 0, .ofNat 0, 0, []) σ
  | .ldc x => zt_cn H.2.2.1 0 x σ
  | .ldc_w x => zt_cn H.2.2.1 2 x σ
  | .ldc2_w x => zt_cn H.2.2.1 1 x σ
  | .iadd => zt_b2 zt_add σ
  | .isub => zt_b2 zt_sub σ
  | .imul => zt_b2 zt_mul σ
  | .iand => zt_b2 zt_and σ
  | .ior => zt_b2 zt_any σ
  | .ixor => zt_b2 zt_any σ
  | .ishl => zt_b2 zt_shl σ
  | .ishr => zt_b2 zt_any σ
  | .iushr => zt_b2 zt_any σ
  | .idiv => zt_b2 zt_div σ
  | .irem => zt_b2 zt_rem σ
  | .ineg => zt_u zt_neg σ
  | .i2b => zt_u zt_i2b σ
  | .i2s => zt_u zt_i2s σ
  | .ladd => zt_l2 zt_ladd σ
  | .lsub => zt_l2 zt_lsub σ
  | .lmul => zt_l2 zt_lany σ
  | .land => zt_l2 zt_lany σ
  | .lor => zt_l2 zt_lany σ
  | .ldiv => zt_l2z σ
  | .lrem => zt_l2z σ
  | .lshl => zt_ls2 σ
  | .lshr => zt_ls2 σ
  | .lushr => zt_ls2 σ
  | .ifCond c off => zt_if1 c pc off σ
  | .if_icmp c off => zt_if2 c pc off σ
  | .goto off => some ([], [(zm_tg pc off, σ)])
  | .tableswitch d lo hi os => zt_sw pc d lo hi os σ
  | .getfield _ => zt_gf H.1.1 H.2.1.1 a b σ
  | .putfield _ => zt_pf H.1.1 H.2.1.1 H.2.1.2.1 H.2.1.2.2.2 a b σ
  | .iaload => zt_al1 H.1.1 H.2.1.1 0 σ
  | .laload => zt_al1 H.1.1 H.2.1.1 1 σ
  | .baload => zt_al1 H.1.1 H.2.1.1 2 σ
  | .aaload => zt_ala H.1.1 σ
  | .iastore => zt_as1 H.1.1 H.2.1.1 H.2.1.2.1 H.2.1.2.2.2 0 σ
  | .lastore => zt_as1 H.1.1 H.2.1.1 H.2.1.2.1 H.2.1.2.2.2 1 σ
  | .bastore => zt_as1 H.1.1 H.2.1.1 H.2.1.2.1 H.2.1.2.2.2 2 σ
  | .arraylength => zt_aln H.1.1 σ
  | .invokevirtual x => zt_cl H 0 x σ
  | .invokestatic x => match a with
    | 0 => zt_cl H 1 x σ
    | 1 => zt_m2 zt_mx σ
    | 2 => zt_m2 zt_mn σ
    | _ => zt_m1 zt_abs σ
  | .ireturn => zt_rt H.2.1.2.2.1 H.2.2.2.1.2.2 H.2.2.2.1.1 H.2.2.2.1.2.1 0 σ
  | .lreturn => zt_rt H.2.1.2.2.1 H.2.2.2.1.2.2 H.2.2.2.1.1 H.2.2.2.1.2.1 1 σ
  | .areturn => zt_rt H.2.1.2.2.1 H.2.2.2.1.2.2 H.2.2.2.1.1 H.2.2.2.1.2.1 2 σ
  | .return_ => zt_rt H.2.1.2.2.1 H.2.2.2.1.2.2 H.2.2.2.1.1 H.2.2.2.1.2.1 3 σ
  | i => zt_stk H.2.1.2.2.2 H.2.1.2.2.1 i pc σ
/-- that what an abstract run is of fits a table and a run of it -/
def zt_fits (Om : zt_Om) (H : zt_H) (E : zt_E) (T : zm_T) (wl : zm_L) (as : List Value) : Prop :=
  (zt_Wd H.1.1 wl ∧ Om[H.1.2.1]? = some (H.1.1, E.1) ∧ H.1.2.2.all (zt_sbB Om) = true) ∧ (H.2.1.1 = E.1 ∧ H.2.1.2.1 = E.2.1 ∧ H.2.1.2.2.1 = E.2.2.1 ∧ zt_UR H.2.1.2.2.2 E.2.2.2.1) ∧ H.2.2.1 = T.2.1 ∧ (H.2.2.2.1.1 = T.2.2.2.1 ∧ zt_sts [] E.2.2.2.2.1 (fun _ => 0) H.2.2.2.1.2.2 as ∧ ∀ (k : Nat) (v : Value), (zm_sl as)[k]? = some (some v) → E.2.2.2.2.2[k]? = some (some v)) ∧ ∀ (idx : Nat) (ks : List zt_K), zm_look H.2.2.2.2 idx = some ks → ∃ C, zm_look T.2.2.1 idx = some C ∧ ∀ K ∈ ks, K.1 = (C.1, C.2.1, C.2.2.1, C.2.2.2.1) ∧ zt_Con Om E.2.2.2.1 K C.2.2.2.2
def zt_post (E : zt_E) (as : List Value) (O : List zt_O) (v : Option Value) (N : zm_I) : Prop := zt_Gs E.1 N ∧ zt_fr E.2.1 E.2.2.2.2.1 N ∧ ∃ o ∈ O, zt_res1 E.2.2.2.1 as v N o
section ZTF
variable {E : zt_E} {s : Nat → Int} {ls : List (Option Value)} {st : List Value} {M : zm_I} {k : zm_S → zm_R} {kn : zm_N} {σ : zt_St} {R : List zt_St × List (Nat × zt_St)} {Om : zt_Om} {H : zt_H} {T : zm_T} {wl : zm_L} {as : List Value}
theorem zt_at_ok : ∀ (xs : List zt_A) (vs : List Value) (j : Nat) (v : Value), zt_sts ls M s xs vs → vs[j]? = some v → (zm_sl vs)[zt_at xs j]? = some (some v)
  | [], [], j, v, _, h => by simp at h
  | a :: xs, w :: vs, 0, v, hv, h => by
    cases h
    show (zm_sl (w :: vs))[0]? = _
    cases w <;> rfl
  | a :: xs, w :: vs, j + 1, v, hv, h => by
    have ih := zt_at_ok xs vs j v hv.2 (by simpa using h)
    have hb := hv.1
    unfold zt_at
    split
    · next hl =>
      obtain ⟨x, rfl, -⟩ := zt_isL_ok hb hl
      rw [Nat.add_comm]
      exact ih
    · next hl =>
      have hs : zm_sl (w :: vs) = some w :: zm_sl vs := by
        obtain ⟨kb, lo, hi, sd, ms⟩ := a
        match kb, hl, hb with
        | 0, _, hb => obtain ⟨x, rfl, -⟩ := hb; rfl
        | 1, hl, _ => cases hl
        | 2, _, hb => have hb : w = .ref lo.toNat := hb; subst hb; rfl
        | 3, _, hb => have hb : w = .null := hb; subst hb; rfl
        | 4, _, hb => have hb : w = .retAddr lo.toNat := hb; subst hb; rfl
        | 5, hl, _ => cases hl
        | kb + 6, _, hb => exact hb.elim
      rw [hs, Nat.add_comm]
      exact ih
  | [], _ :: _, _, _, h, _ => h.elim
  | _ :: _, [], _, _, h, _ => h.elim
theorem zt_sts_len : ∀ (xs : List zt_A) (vs : List Value), zt_sts ls M s xs vs → xs.length = vs.length
  | [], [], _ => rfl
  | _ :: xs, _ :: vs, h => by simp [zt_sts_len xs vs h.2]
  | [], _ :: _, h => h.elim
  | _ :: _, [], h => h.elim
theorem zt_rtO_ok (hH : zt_fits Om H E T wl as) (hS : zt_S E s σ ls st M) {v : Option Value} {va : Option zt_A} (hv : match va with
    | none => v = none
    | some a => ∃ w, v = some w ∧ zt_v ls M s a w) {o : zt_O} (h : zt_rtO H.2.1.2.2.1 H.2.2.2.1.2.2 σ va o = true) : zt_res1 E.2.2.2.1 as v M o := by
  obtain ⟨-, ⟨-, -, hK, -⟩, -, ⟨-, hA, hL⟩, -⟩ := hH
  simp only [zt_rtO, Bool.and_eq_true] at h
  obtain ⟨⟨⟨h1, h2⟩, h3⟩, h4⟩ := h
  refine ⟨?_, fun q hq => ?_, fun c hc => ?_, fun f hf => ?_⟩
  · unfold zt_resv
    cases ho : o.1 with
    | none =>
      rw [ho] at h1
      cases va with
      | none => exact hv
      | some a => cases h1
    | some b =>
      rw [ho] at h1
      cases va with
      | none => cases h1
      | some a =>
        obtain ⟨w, rfl, hw⟩ := hv
        refine ⟨w, rfl, zt_sub1_ok h1 (zt_v_nn hw (fun z hz nm hnm => ?_))⟩
        obtain ⟨g1, g2⟩ := List.mem_filter.mp hnm
        have g3 := hz nm g1
        obtain ⟨t, p, q, d⟩ := nm
        have : t = 1 := Nat.eq_of_beq_eq_true g2
        subst this
        exact g3
  · have h5 := List.all_eq_true.mp h2 q hq
    simp only [Bool.and_eq_true, Nat.ble_eq] at h5
    obtain ⟨⟨h6, h7⟩, h8⟩ := h5
    split at h8
    · next a ha =>
      simp only [Bool.and_eq_true, zt_le_ok] at h8
      obtain ⟨w, g1, g2⟩ := hS.1.2 _ a ha
      obtain ⟨z, g3, g4, -⟩ := zt_v_num g2 h8.1.1
      have hlen := zt_sts_len _ _ hA
      have hlt : q.1 < as.length := by omega
      have e1 : as[q.1]? = some as[q.1] := List.getElem?_eq_getElem hlt
      have e2 := hL _ _ (zt_at_ok _ _ _ _ hA e1)
      obtain ⟨kk, h9, h10⟩ := List.any_eq_true.mp h7
      have h10 := Nat.eq_of_beq_eq_true h10
      subst h10
      rw [hK] at h9
      have e3 := hS.2.2.2.2.2.2 _ h9
      rw [g1, e2] at e3
      cases e3
      have := g4.1
      have := g4.2.1
      exact ⟨_, z, e1, g3, by omega, by omega⟩
    · cases h8
  · have h5 := List.all_eq_true.mp h3 c hc
    simp only [Bool.and_eq_true] at h5
    have h6 := zt_subC_ok h5.2 hS.2.2.1
    obtain ⟨⟨t, p, q⟩, lo, hi⟩ := c
    have : t = 1 := Nat.eq_of_beq_eq_true h5.1
    subst this
    exact h6
  · obtain ⟨f', h5, h6⟩ := List.any_eq_true.mp (List.all_eq_true.mp h4 f hf)
    rw [Nat.eq_of_beq_eq_true h6]
    exact hS.2.2.2.1 f' h5
theorem zt_rt_ok (hH : zt_fits Om H E T wl as) {ct : Nat} (hS : zt_S E s σ ls st M) (h : zt_rt H.2.1.2.2.1 H.2.2.2.1.2.2 H.2.2.2.1.1 H.2.2.2.1.2.1 ct σ = some R) : zt_dn E s (zt_post E as H.2.2.2.1.2.1) k kn R (zm_ret T ct st M) := by
  have hret := hH.2.2.2.1.1
  have key : ∀ {v : Option Value} {va : Option zt_A}, (match va with
    | none => v = none
    | some a => ∃ w, v = some w ∧ zt_v ls M s a w) → H.2.2.2.1.2.1.any (zt_rtO H.2.1.2.2.1 H.2.2.2.1.2.2 σ va) = true → zm_ret T ct st M = some (v, M) → zt_dn E s (zt_post E as H.2.2.2.1.2.1) k kn R (zm_ret T ct st M) := by
    intro v va hv ho hx
    obtain ⟨o, h1, h2⟩ := List.any_eq_true.mp ho
    exact Or.inr (Or.inr ⟨v, M, hx, hS.2.2.2.2.1, hS.2.2.2.2.2.1, o, h1, zt_rtO_ok hH hS hv h2⟩)
  unfold zt_rt at h
  split at h
  · next hst =>
    have hs := hS.2.1
    rw [hst] at hs
    cases st with
    | cons v t => exact hs.elim
    | nil =>
      split at h
      · next hr =>
        split at h
        · next hc =>
          simp only [Bool.and_eq_true] at hc
          refine key (v := none) (va := none) rfl hc.2 ?_
          unfold zm_ret
          dsimp only
          rw [← hret, hr]
          dsimp only
          rw [hc.1]
        · cases h
      · cases h
  · next a r hst =>
    cases r with
    | cons b r => cases h
    | nil =>
      obtain ⟨v, t, rfl, hv, hS2⟩ := zt_top1 hS hst
      have ht : t = [] := by
        have := hS2.2.1
        cases t with
        | nil => rfl
        | cons _ _ => exact this.elim
      subst ht
      dsimp only at h
      split at h
      · next hc =>
        simp only [Bool.and_eq_true] at hc
        refine key (v := some v) (va := some a) ⟨v, rfl, hv⟩ hc.2 ?_
        have hc1 := hc.1
        split at hc1
        · next hr =>
          simp only [Bool.and_eq_true] at hc1
          obtain ⟨x, rfl, -⟩ := zt_v_int hv (Nat.eq_of_beq_eq_true hc1.1)
          unfold zm_ret
          dsimp only
          rw [hc1.2]
          dsimp only
          rw [← hret, hr]
        · next hr =>
          simp only [Bool.and_eq_true, zt_le_ok, Int.ofNat_eq_natCast] at hc1
          obtain ⟨x, rfl, hx, -⟩ := zt_v_int hv (Nat.eq_of_beq_eq_true hc1.1.1.1)
          have g1 := hx.1
          have g2 := hx.2.1
          have z0 : (0 : Int32).toInt = 0 := by decide
          have z1 : (1 : Int32).toInt = 1 := by decide
          have h01 : x = 0 ∨ x = 1 := by
            rcases (show x.toInt = 0 ∨ x.toInt = 1 by omega) with g | g
            · exact Or.inl (Int32.toInt_inj.mp (by rw [g, z0]))
            · exact Or.inr (Int32.toInt_inj.mp (by rw [g, z1]))
          unfold zm_ret
          dsimp only
          rw [hc1.1.1.2]
          dsimp only
          rw [← hret, hr]
          exact if_pos h01
        · next hr =>
          simp only [Bool.and_eq_true] at hc1
          obtain ⟨x, rfl, -⟩ := zt_isL_ok hv hc1.1
          unfold zm_ret
          dsimp only
          rw [hc1.2]
          dsimp only
          rw [← hret, hr]
        · next hr =>
          simp only [Bool.and_eq_true, Bool.or_eq_true] at hc1
          rcases hc1.1 with g | g
          · have e := zt_v_ref hv (Nat.eq_of_beq_eq_true g)
            subst e
            unfold zm_ret
            dsimp only
            rw [hc1.2]
            dsimp only
            rw [← hret, hr]
          · have e := zt_v_nul hv (Nat.eq_of_beq_eq_true g)
            subst e
            unfold zm_ret
            dsimp only
            rw [hc1.2]
            dsimp only
            rw [← hret, hr]
        · cases hc1
      · cases h
theorem zt_sts_take : ∀ (n : Nat) (xs : List zt_A) (vs : List Value), zt_sts ls M s xs vs → zt_sts ls M s (xs.take n) (vs.take n) ∧ zt_sts ls M s (xs.drop n) (vs.drop n)
  | 0, xs, vs, h => ⟨by simp [zt_sts], h⟩
  | n + 1, [], [], h => ⟨h, h⟩
  | n + 1, x :: xs, v :: vs, h => by
    obtain ⟨h1, h2⟩ := zt_sts_take n xs vs h.2
    exact ⟨⟨h.1, h1⟩, h2⟩
  | _ + 1, [], _ :: _, h => h.elim
  | _ + 1, _ :: _, [], h => h.elim
theorem zt_sts_app : ∀ (xs ys : List zt_A) (vs ws : List Value), zt_sts ls M s xs vs → zt_sts ls M s ys ws → zt_sts ls M s (xs ++ ys) (vs ++ ws)
  | [], ys, [], ws, _, h => h
  | x :: xs, ys, v :: vs, ws, h1, h2 => ⟨h1.1, zt_sts_app xs ys vs ws h1.2 h2⟩
  | [], _, _ :: _, _, h, _ => h.elim
  | _ :: _, _, [], _, h, _ => h.elim
theorem zt_sts_rev : ∀ (xs : List zt_A) (vs : List Value), zt_sts ls M s xs vs → zt_sts ls M s xs.reverse vs.reverse
  | [], [], _ => trivial
  | x :: xs, v :: vs, h => by
    rw [List.reverse_cons, List.reverse_cons]
    exact zt_sts_app _ _ _ _ (zt_sts_rev xs vs h.2) ⟨h.1, trivial⟩
  | [], _ :: _, h => h.elim
  | _ :: _, [], h => h.elim
theorem zt_pick_ok {f : zt_K → Option (List zt_St)} : ∀ {ks : List zt_K} {L : List zt_St}, zt_pick f ks = some L → ∃ K ∈ ks, f K = some L
  | [], L, h => by cases h
  | K :: r, L, h => by
    unfold zt_pick at h
    split at h
    · next L' hL =>
      cases h
      exact ⟨K, List.mem_cons_self, hL⟩
    · obtain ⟨K', h1, h2⟩ := zt_pick_ok h
      exact ⟨K', List.mem_cons_of_mem _ h1, h2⟩
theorem zt_cl_ok {Post : Option Value → zm_I → Prop} (hH : zt_fits Om H E T wl as) {ct idx : Nat} (hS : zt_S E s σ ls st M) (h : zt_cl H ct idx σ = some R) : zt_dn E s Post k kn R (zm_cl3 kn T wl ct idx ls st M) := by
  obtain ⟨⟨hw, hOm, hSg⟩, ⟨hG, hWr, hKl, hU⟩, -, -, hKs⟩ := hH
  unfold zt_cl at h
  split at h
  · next ks hks =>
    split at h
    · next L hL =>
      cases h
      obtain ⟨K, hK1, hK2⟩ := zt_pick_ok hL
      split at hK2
      · next hc =>
        simp only [Bool.and_eq_true] at hc
        obtain ⟨C, hC1, hC2⟩ := hKs idx ks hks
        obtain ⟨hC3, hC4⟩ := hC2 K hK1
        obtain ⟨t1, t2⟩ := zt_sts_take K.1.1 _ _ hS.2.1
        have t3 := zt_sts_rev _ _ t1
        have hS2 : zt_S E s (σ.1, σ.2.1.drop K.1.1, σ.2.2) ls (st.drop K.1.1) M := ⟨hS.1, t2, hS.2.2⟩
        rw [hWr] at hK2
        obtain ⟨τ, h1, v, N, h2, h3⟩ := zt_call_ok hU hOm hSg hw hC4 hC3 hS2 t3 hK2 (fun v N => kn ls (v.toList ++ st.drop K.1.1) N)
        refine Or.inl ⟨τ, h1, _, _, _, ?_, h3⟩
        unfold zm_cl3
        rw [hC1]
        dsimp only
        have e1 : C.1 = K.1.1 := by rw [hC3]
        have e2 : C.2.1 = K.1.2.1 := by rw [hC3]
        have hlen := zt_sts_len _ _ hS.2.1
        have g1 : Nat.ble C.1 st.length = true := by rw [e1, ← hlen]; exact hc.1.1
        have g2 : Nat.ble ((st.drop C.1).map fun v => v.category).sum 8 = true := by rw [e1]; exact zt_ct9_ok _ _ t2 hc.1.2
        have g3 : (match C.2.1 with
          | some _ => Nat.beq ct 0
          | none => Nat.beq ct 1) = true := by rw [e2]; exact hc.2
        split
        · rw [e1]
          exact h2
        · next hb =>
          simp only [g1, g2, Bool.true_and] at hb
          exact absurd (hb.symm.trans g3) (by decide)
      · cases hK2
    · cases h
  · cases h
theorem zt_kst_ok {Post : Option Value → zm_I → Prop} {n lo hi : Int} {x : Int32} (hS : zt_S E s σ ls st M) (h : zt_kst n lo hi σ = some R) (hx : lo ≤ n → n ≤ hi → x.toInt = n) : zt_dn E s Post k kn R (kn ls (.int x :: st) M) := by
  unfold zt_kst at h
  split at h
  · next hc =>
    simp only [Bool.and_eq_true, zt_le_ok] at hc
    exact zt_pu_ok hS (zt_v_ct (hx hc.1 hc.2)) rfl h
  · cases h
theorem zt_m2_ok {Post : Option Value → zm_I → Prop} {f : zt_A → zt_A → Option zt_A} {g : Int32 → Int32 → Int32} (hf : zt_ok2 f g) (hS : zt_S E s σ ls st M) (h : zt_m2 f σ = some R) : zt_dn E s Post k kn R (zm_m2 kn g ls st M) := by
  unfold zt_m2 at h
  split at h
  · next y x r hr =>
    split at h
    · next hc =>
      obtain ⟨w, v, t, rfl, hw, hv, hS2⟩ := zt_two hS hr
      have h8 := zt_ct9_ok _ _ hS2.2.1 hc
      have h9 := zt_b2_ok (Post := Post) (k := k) (kn := kn) hf hS h
      have e : zm_m2 kn g ls (w :: v :: t) M = zm_b2 kn g ls (w :: v :: t) M := by
        unfold zm_m2 zm_b2
        cases w <;> cases v <;> simp only [h8]
      rw [e]
      exact h9
    · cases h
  · cases h
theorem zt_m1_ok {Post : Option Value → zm_I → Prop} {f : zt_A → zt_A} {g : Int32 → Int32} (hf : zt_ok1 f g) (hS : zt_S E s σ ls st M) (h : zt_m1 f σ = some R) : zt_dn E s Post k kn R (zm_m1 kn g ls st M) := by
  unfold zt_m1 at h
  split at h
  · next x r hr =>
    split at h
    · next hc =>
      obtain ⟨v, t, rfl, hv, hS2⟩ := zt_top1 hS hr
      have h8 := zt_ct9_ok _ _ hS2.2.1 hc
      have h9 := zt_u_ok (Post := Post) (k := k) (kn := kn) hf hS h
      have e : zm_m1 kn g ls (v :: t) M = zm_u kn g ls (v :: t) M := by
        unfold zm_m1 zm_u
        cases v <;> simp only [h8]
      rw [e]
      exact h9
    · cases h
  · cases h
theorem zt_ins_ok (hH : zt_fits Om H E T wl as) {i : Instr} {a b pc : Nat} (hS : zt_S E s σ ls st M) (h : zt_ins H i a b pc σ = some R) : zt_dn E s (zt_post E as H.2.2.2.1.2.1) k kn R (zm_ins T wl k kn i a b pc ls st M) := by
  have hH0 := hH
  obtain ⟨⟨hw, hOm, hSg⟩, ⟨hG, hWr, hKl, hU⟩, hcs, -, -⟩ := hH
  cases i
  case invokestatic x =>
    match a, h with
    | 0, h => exact zt_cl_ok (ct := 1) (idx := x) hH0 hS h
    | 1, h => exact zt_m2_ok zt_mx_ok hS h
    | 2, h => exact zt_m2_ok zt_mn_ok hS h
    | a + 3, h => exact zt_m1_ok zt_abs_ok hS h
  case goto off =>
    cases h
    exact Or.inr (Or.inl ⟨_, List.mem_cons_self, _, _, _, rfl, hS⟩)
  case iconst n => exact zt_kst_ok hS h (fun h1 h2 => Int32.toInt_ofInt_of_le (by have e : (Int.negSucc 2147483647) = -2147483648 := rfl; omega) (by have e : (Int.ofNat 2147483647) = 2147483647 := rfl; omega))
  case bipush n => exact zt_kst_ok hS h (fun h1 h2 => by
    have e1 : (Int.negSucc 127) = -128 := rfl
    have e2 : (Int.ofNat 127) = 127 := rfl
    rw [Int8.toInt_toInt32]
    exact Int8.toInt_ofInt_of_le (by omega) (by omega))
  case sipush n => exact zt_kst_ok hS h (fun h1 h2 => by
    have e1 : (Int.negSucc 32767) = -32768 := rfl
    have e2 : (Int.ofNat 32767) = 32767 := rfl
    rw [Int16.toInt_toInt32]
    exact Int16.toInt_ofInt_of_le (by omega) (by omega))
  case lconst n =>
    simp only [zt_ins] at h
    split at h
    · next hn =>
      have hn := Nat.le_of_ble_eq_true hn
      refine zt_pu_ok hS (zt_v_lct (x := Int64.ofNat n.val) ?_) rfl h
      rw [Int64.toInt_ofNat_of_lt (by omega)]
      rfl
    · cases h
  case aconst_null => exact zt_pu_ok (a := (3, .ofNat 0, .ofNat 0, 0, [])) (v := .null) hS rfl rfl h
  case ldc x => exact zt_cn_ok (ct := 0) (idx := x) hS (by rw [← hcs]; exact h)
  case ldc_w x => exact zt_cn_ok (ct := 2) (idx := x) hS (by rw [← hcs]; exact h)
  case ldc2_w x => exact zt_cn_ok (ct := 1) (idx := x) hS (by rw [← hcs]; exact h)
  case istore_n x => exact zt_st_ok (ct := 0) (i := x.val) hU hS (by rw [← hKl]; exact h)
  case istore x => exact zt_st_ok (ct := 0) (i := x) hU hS (by rw [← hKl]; exact h)
  case lstore_n x => exact zt_st_ok (ct := 1) (i := x.val) hU hS (by rw [← hKl]; exact h)
  case lstore x => exact zt_st_ok (ct := 1) (i := x) hU hS (by rw [← hKl]; exact h)
  case astore_n x => exact zt_st_ok (ct := 2) (i := x.val) hU hS (by rw [← hKl]; exact h)
  case astore x => exact zt_st_ok (ct := 2) (i := x) hU hS (by rw [← hKl]; exact h)
  case getfield x => exact zt_gf_ok (ci := a) (f := b) hw hS (by rw [← hG]; exact h)
  case putfield x => exact zt_pf_ok (ci := a) (f := b) hU hw hS (by rw [← hG, ← hWr]; exact h)
  case iaload => exact zt_al1_ok (ct := 0) hw hS (by rw [← hG]; exact h)
  case laload => exact zt_al1_ok (ct := 1) hw hS (by rw [← hG]; exact h)
  case baload => exact zt_al1_ok (ct := 2) hw hS (by rw [← hG]; exact h)
  case aaload => exact zt_ala_ok hw hS h
  case iastore => exact zt_as1_ok (ct := 0) hU hw hS (by rw [← hG, ← hWr]; exact h)
  case lastore => exact zt_as1_ok (ct := 1) hU hw hS (by rw [← hG, ← hWr]; exact h)
  case bastore => exact zt_as1_ok (ct := 2) hU hw hS (by rw [← hG, ← hWr]; exact h)
  case arraylength => exact zt_aln_ok hw hS h
  case invokevirtual x => exact zt_cl_ok (ct := 0) (idx := x) hH0 hS h
  case ireturn => exact zt_rt_ok (ct := 0) hH0 hS h
  case lreturn => exact zt_rt_ok (ct := 1) hH0 hS h
  case areturn => exact zt_rt_ok (ct := 2) hH0 hS h
  case return_ => exact zt_rt_ok (ct := 3) hH0 hS h
  case iload_n x => exact zt_ld_ok (ct := 0) (i := x.val) hS h
  case iload x => exact zt_ld_ok (ct := 0) (i := x) hS h
  case lload_n x => exact zt_ld_ok (ct := 1) (i := x.val) hS h
  case lload x => exact zt_ld_ok (ct := 1) (i := x) hS h
  case aload_n x => exact zt_ld_ok (ct := 2) (i := x.val) hS h
  case aload x => exact zt_ld_ok (ct := 2) (i := x) hS h
  case iadd => exact zt_b2_ok zt_add_ok hS h
  case isub => exact zt_b2_ok zt_sub_ok hS h
  case imul => exact zt_b2_ok zt_mul_ok hS h
  case iand => exact zt_b2_ok zt_and_ok hS h
  case ior => exact zt_b2_ok (zt_any_ok _) hS h
  case ixor => exact zt_b2_ok (zt_any_ok _) hS h
  case ishl => exact zt_b2_ok zt_shl_ok hS h
  case ishr => exact zt_b2_ok (zt_any_ok _) hS h
  case iushr => exact zt_b2_ok (zt_any_ok _) hS h
  case idiv => exact zt_b2z_ok zt_div_ok hS h
  case irem => exact zt_b2z_ok zt_rem_ok hS h
  case ineg => exact zt_u_ok zt_neg_ok hS h
  case i2b => exact zt_u_ok zt_i2b_ok hS h
  case i2s => exact zt_u_ok zt_i2s_ok hS h
  case ladd => exact zt_l2_ok zt_ladd_ok hS h
  case lsub => exact zt_l2_ok zt_lsub_ok hS h
  case lmul => exact zt_l2_ok (zt_lany_ok _) hS h
  case land => exact zt_l2_ok (zt_lany_ok _) hS h
  case lor => exact zt_l2_ok (zt_lany_ok _) hS h
  case ldiv => exact zt_l2z_ok hS h
  case lrem => exact zt_l2z_ok hS h
  case lshl => exact zt_ls2_ok hS h
  case lshr => exact zt_ls2_ok hS h
  case lushr => exact zt_ls2_ok hS h
  case ifCond c off => exact zt_if1_ok hS h
  case if_icmp c off => exact zt_if2_ok hS h
  case tableswitch d lo hi os => exact zt_sw_ok hS h
  all_goals (dsimp only [zm_ins]; refine zt_stk_ok (U := H.2.1.2.2.2) (pc := pc) hU hS ?_; rw [← hKl]; exact h)
end ZTF
