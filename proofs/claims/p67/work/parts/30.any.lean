/-! MAKING: runs that make cells. Handles are in the order of making: the world grows behind, h is taken on. -/
def zn_isRet : Instr → Bool
  | .ireturn => true
  | .lreturn => true
  | .areturn => true
  | .return_ => true
  | _ => false
section ZNI
variable {p : Program} {l : Launch} {e : Env} {R : Room} {s : State} {m : MethodId} {args : Array Value} {below : List Frame} {meth : Method} {c : Code}
variable {Q : State → Prop} {D : va_G} {cA : FieldType → ClassId} {h : Nat → Nat → Nat} {wl : zm_L} {A : Nat → Prop} {nL c0 s0 : Nat} {own : String} {cc : ByteArray} {T : zm_T} {pc : Nat} {ls : List (Option Value)} {st : List Value} {M : zm_I} {r : Option Value × zm_I} {k : zm_S → zm_R} {kn : zm_N}
/-- one instruction of any kind but a return, whatever is to be come to -/
theorem zn_i (hcw : zm_cwok) (hma : zm_mathok) (B : zm_B p s m args meth c own cc nL T D cA h A R c0 s0) (hO1 : ∀ (idx : Nat) (v : Value), zm_look T.2.1 idx = some v → zm_cok own idx v) (hO2 : ∀ (idx : Nat) (C : zm_C), zm_look T.2.2.1 idx = some C → zm_callok l R own idx C) (hD : va_D A (zm_ws cA h wl M)) (hA : ∀ q, s.heap.size ≤ q → A q) (hw : zm_wok wl) {i : Instr} {a b : Nat} (hdec : zm_dec cc pc i = true) (hio : zm_iok R own i a b) (hnr : zn_isRet i = false) (hh : zm_ins T wl k kn i a b pc ls st M = some r)
    (hk : ∀ S, k S = some r → zm_G p l e R s m args below meth c Q D cA h wl A nL c0 s0 S) (hn : ∀ ls' st' M', kn ls' st' M' = some r → zm_G p l e R s m args below meth c Q D cA h wl A nL c0 s0 (pc + zm_len i, ls', st', M')) : zm_G p l e R s m args below meth c Q D cA h wl A nL c0 s0 (pc, ls, st, M) := by
  have B0 := B
  obtain ⟨hx, hb, hml, hown, hts, hK, hr, hlk, hZ, hcs, hsc⟩ := B0
  have LD0 : ∀ {x : Nat}, zm_ld kn 0 x ls st M = some r → (∀ (H : Heap) (locs : List Loc) (la : Array Slot) (y : Int32), la[x]? = some (.val (.int y)) → W p l e R s m args below meth c H locs c0 s0 Q (F0 m (pc + zm_len i) la (.int y :: st.map (zm_cv h))) → W p l e R s m args below meth c H locs c0 s0 Q (F0 m pc la (st.map (zm_cv h)))) → zm_G p l e R s m args below meth c Q D cA h wl A nL c0 s0 (pc, ls, st, M) := by
    intro x hh hrow H locs la hl hP hS
    obtain ⟨y, h1, h2⟩ := zm_ld_0 hh
    exact hrow H locs la y (hl.2.2.2 _ _ h1) (hn _ _ _ h2 H locs la hl hP hS)
  have LD1 : ∀ {x : Nat}, zm_ld kn 1 x ls st M = some r → (∀ (H : Heap) (locs : List Loc) (la : Array Slot) (y : Int64), la[x]? = some (.val (.long y)) → W p l e R s m args below meth c H locs c0 s0 Q (F0 m (pc + zm_len i) la (.long y :: st.map (zm_cv h))) → W p l e R s m args below meth c H locs c0 s0 Q (F0 m pc la (st.map (zm_cv h)))) → zm_G p l e R s m args below meth c Q D cA h wl A nL c0 s0 (pc, ls, st, M) := by
    intro x hh hrow H locs la hl hP hS
    obtain ⟨y, h1, h2⟩ := zm_ld_1 hh
    exact hrow H locs la y (hl.2.2.2 _ _ h1) (hn _ _ _ h2 H locs la hl hP hS)
  have LD2 : ∀ {x : Nat}, zm_ld kn 2 x ls st M = some r → (∀ (H : Heap) (locs : List Loc) (la : Array Slot) (y : Nat), la[x]? = some (.val (.ref y)) → W p l e R s m args below meth c H locs c0 s0 Q (F0 m (pc + zm_len i) la (.ref y :: st.map (zm_cv h))) → W p l e R s m args below meth c H locs c0 s0 Q (F0 m pc la (st.map (zm_cv h)))) → (∀ (H : Heap) (locs : List Loc) (la : Array Slot), la[x]? = some (.val .null) → W p l e R s m args below meth c H locs c0 s0 Q (F0 m (pc + zm_len i) la (.null :: st.map (zm_cv h))) → W p l e R s m args below meth c H locs c0 s0 Q (F0 m pc la (st.map (zm_cv h)))) → zm_G p l e R s m args below meth c Q D cA h wl A nL c0 s0 (pc, ls, st, M) := by
    intro x hh hrow hrowN H locs la hl hP hS
    rcases zm_ld_2 hh with ⟨y, h1, h2⟩ | ⟨h1, h2⟩ | ⟨y, h1, h2⟩
    · exact hrow H locs la (h 0 y) (hl.2.2.2 _ _ h1) (hn _ _ _ h2 H locs la hl hP hS)
    · exact hrowN H locs la (hl.2.2.2 _ _ h1) (hn _ _ _ h2 H locs la hl hP hS)
    · exact hrow H locs la (h 1 y) (hl.2.2.2 _ _ h1) (hn _ _ _ h2 H locs la hl hP hS)
  cases i
  case iload_n x => exact LD0 hh (fun H locs la y h1 h2 => lv_iload_n hx hb (zm_dec_o hdec rfl) rfl h1 h2)
  case iload x => exact LD0 hh (fun H locs la y h1 h2 => lv_iload hx hb (zm_dec_o hdec rfl) h1 h2)
  case lload_n x => exact LD1 hh (fun H locs la y h1 h2 => lv_lload_n hx hb (zm_dec_o hdec rfl) rfl h1 h2)
  case lload x => exact LD1 hh (fun H locs la y h1 h2 => lv_lload hx hb (zm_dec_o hdec rfl) h1 h2)
  case aload_n x => exact LD2 hh (fun H locs la y h1 h2 => lv_aload_n hx hb (zm_dec_o hdec rfl) rfl h1 h2) (fun H locs la h1 h2 => lv_aload_nN hx hb (zm_dec_o hdec rfl) rfl h1 h2)
  case aload x => exact LD2 hh (fun H locs la y h1 h2 => lv_aload hx hb (zm_dec_o hdec rfl) h1 h2) (fun H locs la h1 h2 => lv_aloadN hx hb (zm_dec_o hdec rfl) h1 h2)
  case istore_n x =>
    intro H locs la hl hP hS
    obtain ⟨y, t, rfl, h1, h2⟩ := zm_st_0 hh
    exact lv_istore_n hx hb (zm_dec_o hdec rfl) rfl (zm_lok_has hl) (by rw [← hl.1]; exact h1) rfl (fun la' hla' => hn _ _ _ h2 H locs la' (zm_lok_1 (v := .int y) hl h1 hla') hP hS)
  case istore x =>
    intro H locs la hl hP hS
    obtain ⟨y, t, rfl, h1, h2⟩ := zm_st_0 hh
    exact lv_istore hx hb (zm_dec_o hdec rfl) (zm_lok_has hl) (by rw [← hl.1]; exact h1) rfl (fun la' hla' => hn _ _ _ h2 H locs la' (zm_lok_1 (v := .int y) hl h1 hla') hP hS)
  case lstore_n x =>
    intro H locs la hl hP hS
    obtain ⟨y, t, rfl, h1, h2⟩ := zm_st_1 hh
    exact lv_lstore_n hx hb (zm_dec_o hdec rfl) rfl (zm_lok_has hl) (by rw [← hl.1]; exact h1) rfl (fun la' hla' => hn _ _ _ h2 H locs la' (zm_lok_2 (v := .long y) hl h1 hla') hP hS)
  case lstore x =>
    intro H locs la hl hP hS
    obtain ⟨y, t, rfl, h1, h2⟩ := zm_st_1 hh
    exact lv_lstore hx hb (zm_dec_o hdec rfl) (zm_lok_has hl) (by rw [← hl.1]; exact h1) rfl (fun la' hla' => hn _ _ _ h2 H locs la' (zm_lok_2 (v := .long y) hl h1 hla') hP hS)
  case astore_n x =>
    intro H locs la hl hP hS
    rcases zm_st_2 hh with ⟨y, t, rfl, h1, h2⟩ | ⟨t, rfl, h1, h2⟩
    · exact lv_astore_n hx hb (zm_dec_o hdec rfl) rfl (zm_lok_has hl) (by rw [← hl.1]; exact h1) rfl (fun la' hla' => hn _ _ _ h2 H locs la' (zm_lok_1 (v := .ref y) hl h1 hla') hP hS)
    · exact lv_astore_nN hx hb (zm_dec_o hdec rfl) rfl (zm_lok_has hl) (by rw [← hl.1]; exact h1) rfl (fun la' hla' => hn _ _ _ h2 H locs la' (zm_lok_1 (v := .null) hl h1 hla') hP hS)
  case astore x =>
    intro H locs la hl hP hS
    rcases zm_st_2 hh with ⟨y, t, rfl, h1, h2⟩ | ⟨t, rfl, h1, h2⟩
    · exact lv_astore hx hb (zm_dec_o hdec rfl) (zm_lok_has hl) (by rw [← hl.1]; exact h1) rfl (fun la' hla' => hn _ _ _ h2 H locs la' (zm_lok_1 (v := .ref y) hl h1 hla') hP hS)
    · exact lv_astoreN hx hb (zm_dec_o hdec rfl) (zm_lok_has hl) (by rw [← hl.1]; exact h1) rfl (fun la' hla' => hn _ _ _ h2 H locs la' (zm_lok_1 (v := .null) hl h1 hla') hP hS)
  case iconst n => exact fun H locs la hl hP hS => lv_iconst hx hb (zm_dec_o hdec rfl) rfl (hn _ _ _ hh H locs la hl hP hS)
  case bipush n => exact fun H locs la hl hP hS => lv_bipush hx hb (zm_dec_o hdec rfl) rfl (hn _ _ _ hh H locs la hl hP hS)
  case sipush n => exact fun H locs la hl hP hS => lv_sipush hx hb (zm_dec_o hdec rfl) rfl (hn _ _ _ hh H locs la hl hP hS)
  case lconst n => exact fun H locs la hl hP hS => lv_lconst hx hb (zm_dec_o hdec rfl) rfl (hn _ _ _ hh H locs la hl hP hS)
  case aconst_null => exact fun H locs la hl hP hS => lv_null hx hb (zm_dec_o hdec rfl) (hn _ _ _ hh H locs la hl hP hS)
  case ldc x => exact zm_i_cst B hO1 (Or.inl ⟨rfl, rfl, rfl⟩) (zm_dec_o hdec rfl) hh hn
  case ldc_w x => exact zm_i_cst B hO1 (Or.inr (Or.inr ⟨rfl, rfl, rfl⟩)) (zm_dec_o hdec rfl) hh hn
  case ldc2_w x => exact zm_i_cst B hO1 (Or.inr (Or.inl ⟨rfl, rfl, rfl⟩)) (zm_dec_o hdec rfl) hh hn
  case iadd => intro H locs la hl hP hS; obtain ⟨y, x, t, rfl, h2⟩ := zm_b2_o hh; exact lv_iadd hx hb (zm_dec_o hdec rfl) (hn _ _ _ h2 H locs la hl hP hS)
  case isub => intro H locs la hl hP hS; obtain ⟨y, x, t, rfl, h2⟩ := zm_b2_o hh; exact lv_isub hx hb (zm_dec_o hdec rfl) (hn _ _ _ h2 H locs la hl hP hS)
  case imul => intro H locs la hl hP hS; obtain ⟨y, x, t, rfl, h2⟩ := zm_b2_o hh; exact lv_imul hx hb (zm_dec_o hdec rfl) (hn _ _ _ h2 H locs la hl hP hS)
  case iand => intro H locs la hl hP hS; obtain ⟨y, x, t, rfl, h2⟩ := zm_b2_o hh; exact lv_iand hx hb (zm_dec_o hdec rfl) (hn _ _ _ h2 H locs la hl hP hS)
  case ior => intro H locs la hl hP hS; obtain ⟨y, x, t, rfl, h2⟩ := zm_b2_o hh; exact lv_ior hx hb (zm_dec_o hdec rfl) (hn _ _ _ h2 H locs la hl hP hS)
  case ixor => intro H locs la hl hP hS; obtain ⟨y, x, t, rfl, h2⟩ := zm_b2_o hh; exact lv_ixor hx hb (zm_dec_o hdec rfl) (hn _ _ _ h2 H locs la hl hP hS)
  case ishl => intro H locs la hl hP hS; obtain ⟨y, x, t, rfl, h2⟩ := zm_b2_o hh; exact lv_ishl hx hb (zm_dec_o hdec rfl) (hn _ _ _ h2 H locs la hl hP hS)
  case ishr => intro H locs la hl hP hS; obtain ⟨y, x, t, rfl, h2⟩ := zm_b2_o hh; exact lv_ishr hx hb (zm_dec_o hdec rfl) (hn _ _ _ h2 H locs la hl hP hS)
  case iushr => intro H locs la hl hP hS; obtain ⟨y, x, t, rfl, h2⟩ := zm_b2_o hh; exact lv_iushr hx hb (zm_dec_o hdec rfl) rfl (hn _ _ _ h2 H locs la hl hP hS)
  case idiv => intro H locs la hl hP hS; obtain ⟨y, x, t, rfl, h1, h2⟩ := zm_b2z_o hh; exact lv_idiv hx hb (zm_dec_o hdec rfl) h1 (hn _ _ _ h2 H locs la hl hP hS)
  case irem => intro H locs la hl hP hS; obtain ⟨y, x, t, rfl, h1, h2⟩ := zm_b2z_o hh; exact lv_irem hx hb (zm_dec_o hdec rfl) h1 (hn _ _ _ h2 H locs la hl hP hS)
  case ineg => intro H locs la hl hP hS; obtain ⟨x, t, rfl, h2⟩ := zm_u_o hh; exact lv_ineg hx hb (zm_dec_o hdec rfl) (hn _ _ _ h2 H locs la hl hP hS)
  case i2b => intro H locs la hl hP hS; obtain ⟨x, t, rfl, h2⟩ := zm_u_o hh; exact lv_i2b hx hb (zm_dec_o hdec rfl) rfl (hn _ _ _ h2 H locs la hl hP hS)
  case i2s => intro H locs la hl hP hS; obtain ⟨x, t, rfl, h2⟩ := zm_u_o hh; exact lv_i2s hx hb (zm_dec_o hdec rfl) rfl (hn _ _ _ h2 H locs la hl hP hS)
  case ladd => intro H locs la hl hP hS; obtain ⟨y, x, t, rfl, h2⟩ := zm_l2_o hh; exact lv_ladd hx hb (zm_dec_o hdec rfl) (hn _ _ _ h2 H locs la hl hP hS)
  case lsub => intro H locs la hl hP hS; obtain ⟨y, x, t, rfl, h2⟩ := zm_l2_o hh; exact lv_lsub hx hb (zm_dec_o hdec rfl) (hn _ _ _ h2 H locs la hl hP hS)
  case lmul => intro H locs la hl hP hS; obtain ⟨y, x, t, rfl, h2⟩ := zm_l2_o hh; exact lv_lmul hx hb (zm_dec_o hdec rfl) (hn _ _ _ h2 H locs la hl hP hS)
  case land => intro H locs la hl hP hS; obtain ⟨y, x, t, rfl, h2⟩ := zm_l2_o hh; exact lv_land hx hb (zm_dec_o hdec rfl) (hn _ _ _ h2 H locs la hl hP hS)
  case lor => intro H locs la hl hP hS; obtain ⟨y, x, t, rfl, h2⟩ := zm_l2_o hh; exact lv_lor hx hb (zm_dec_o hdec rfl) (hn _ _ _ h2 H locs la hl hP hS)
  case ldiv => intro H locs la hl hP hS; obtain ⟨y, x, t, rfl, h1, h2⟩ := zm_l2z_o hh; exact lv_ldiv hx hb (zm_dec_o hdec rfl) h1 (hn _ _ _ h2 H locs la hl hP hS)
  case lrem => intro H locs la hl hP hS; obtain ⟨y, x, t, rfl, h1, h2⟩ := zm_l2z_o hh; exact lv_lrem hx hb (zm_dec_o hdec rfl) h1 (hn _ _ _ h2 H locs la hl hP hS)
  case lshl => intro H locs la hl hP hS; obtain ⟨y, x, t, rfl, h2⟩ := zm_ls_o hh; exact lv_lshl hx hb (zm_dec_o hdec rfl) rfl (hn _ _ _ h2 H locs la hl hP hS)
  case lshr => intro H locs la hl hP hS; obtain ⟨y, x, t, rfl, h2⟩ := zm_ls_o hh; exact lv_lshr hx hb (zm_dec_o hdec rfl) rfl (hn _ _ _ h2 H locs la hl hP hS)
  case lushr => intro H locs la hl hP hS; obtain ⟨y, x, t, rfl, h2⟩ := zm_ls_o hh; exact lv_lushr hx hb (zm_dec_o hdec rfl) rfl (hn _ _ _ h2 H locs la hl hP hS)
  case ifCond co off => exact zm_i_if1 B (zm_dec_o hdec rfl) (zm_dec_tg hdec (o := off) List.mem_cons_self) hh hk hn
  case if_icmp co off => exact zm_i_if2 B (zm_dec_o hdec rfl) (zm_dec_tg hdec (o := off) List.mem_cons_self) hh hk hn
  case goto off => exact fun H locs la hl hP hS => lv_goto hx hb (zm_dec_o hdec rfl) (zm_dec_tg hdec (o := off) List.mem_cons_self) (hk (zm_tg pc off, ls, st, M) hh H locs la hl hP hS)
  case tableswitch d lo hi os =>
    obtain ⟨len, hd⟩ := zm_dec_sw hdec
    exact zm_i_sw B hd (fun o ho => zm_dec_tg hdec ho) hh hk
  case getfield x => exact zm_i_gf hcw B (zm_dec_o hdec rfl) hio hh hn
  case putfield x => exact zm_i_pf hcw B hD (zm_dec_o hdec rfl) hio hh hn
  case iaload => exact zm_i_al B (Or.inl ⟨rfl, rfl⟩) hw (zm_dec_o hdec rfl) hh hn
  case laload => exact zm_i_al B (Or.inr (Or.inl ⟨rfl, rfl⟩)) hw (zm_dec_o hdec rfl) hh hn
  case baload => exact zm_i_al B (Or.inr (Or.inr (Or.inl ⟨rfl, rfl⟩))) hw (zm_dec_o hdec rfl) hh hn
  case aaload => exact zm_i_al B (Or.inr (Or.inr (Or.inr ⟨rfl, rfl⟩))) hw (zm_dec_o hdec rfl) hh hn
  case iastore => exact zm_i_as B hD (Or.inl ⟨rfl, rfl⟩) (zm_dec_o hdec rfl) hh hn
  case lastore => exact zm_i_as B hD (Or.inr (Or.inl ⟨rfl, rfl⟩)) (zm_dec_o hdec rfl) hh hn
  case bastore => exact zm_i_as B hD (Or.inr (Or.inr ⟨rfl, rfl⟩)) (zm_dec_o hdec rfl) hh hn
  case arraylength => exact zm_i_aln B (zm_dec_o hdec rfl) hh hn
  case invokevirtual x => exact zm_i_call B hO2 hD hA hw (Or.inl ⟨rfl, rfl⟩) (zm_dec_o hdec rfl) hh hn
  case invokestatic x =>
    match a, hio, hh with
    | 0, _, hh => exact zm_i_call B hO2 hD hA hw (Or.inr ⟨rfl, rfl⟩) (zm_dec_o hdec rfl) hh hn
    | 1, hio, hh => exact zm_i_m (a := 0) hma B (zm_dec_o hdec rfl) hio hh hn
    | 2, hio, hh => exact zm_i_m (a := 1) hma B (zm_dec_o hdec rfl) hio hh hn
    | a + 3, hio, hh => exact zm_i_m (a := a + 2) hma B (zm_dec_o hdec rfl) hio hh hn
  case ireturn => cases hnr
  case lreturn => cases hnr
  case areturn => cases hnr
  case return_ => cases hnr
  all_goals exact zm_i_stk B hdec hh hk hn
end ZNI
