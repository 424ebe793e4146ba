/-! AN ABSTRACT RUN: jumps, the stack; one instruction -/
theorem zt_ng_cc (c : ClassFile.Cond) (x y : Int) : zt_cc c x y ∨ zt_cc (zt_ng c) x y := by
  cases c <;> simp only [zt_cc, zt_ng] <;> omega
section ZTJ
variable {E : zt_E} {s : Nat → Int} {ls : List (Option Value)} {st : List Value} {M : zm_I} {Post : Option Value → zm_I → Prop} {k : zm_S → zm_R} {kn : zm_N} {σ : zt_St} {R : List zt_St × List (Nat × zt_St)} {w0 wl : zm_L} {U : zt_U}
theorem zt_2_ok {t : Nat} {o1 o2 : Option zt_St} {x : zm_R} {r : List Value} {c : ClassFile.Cond} {X Y : Int} (h : zt_2 t o1 o2 = some R) (h1 : zt_cc c X Y → x = k (t, ls, r, M) ∧ ∃ τ, o1 = some τ ∧ zt_S E s τ ls r M) (h2 : zt_cc (zt_ng c) X Y → x = kn ls r M ∧ ∃ τ, o2 = some τ ∧ zt_S E s τ ls r M) : zt_dn E s Post k kn R x := by
  cases h
  rcases zt_ng_cc c X Y with hc | hc
  · obtain ⟨e, τ, rfl, hS⟩ := h1 hc
    exact Or.inr (Or.inl ⟨(t, τ), by simp, ls, r, M, e, hS⟩)
  · obtain ⟨e, τ, rfl, hS⟩ := h2 hc
    exact Or.inl ⟨τ, by simp, ls, r, M, e, hS⟩
theorem zt_rg_ct (z : Int) : zt_rg (zt_ct z) z := ⟨Int.le_refl _, Int.le_refl _, ⟨0, by show z - z = _; omega⟩⟩
theorem zt_if1_ok {c : ClassFile.Cond} {pc : Nat} {off : Int} (hS : zt_S E s σ ls st M) (h : zt_if1 c pc off σ = some R) : zt_dn E s Post k kn R (zm_if1 k kn c pc off ls st M) := by
  unfold zt_if1 at h
  split at h
  · next x r hr =>
    split at h
    · next hk =>
      obtain ⟨v, t, rfl, hv, hS2⟩ := zt_top1 hS hr
      obtain ⟨X, rfl, hx1, hx2⟩ := zt_v_int hv (Nat.eq_of_beq_eq_true hk)
      have z0 : (0 : Int32).toInt = 0 := by decide
      refine zt_2_ok (c := c) (X := X.toInt) (Y := 0) (r := t) h (fun hc => ⟨?_, zt_br_ok hS2 hx1 hx2 (zt_rg_ct 0) (zt_nms_nil _) hc⟩) (fun hc => ⟨?_, zt_br_ok hS2 hx1 hx2 (zt_rg_ct 0) (zt_nms_nil _) hc⟩)
      · unfold zm_if1
        cases c <;> simp only [zt_cc] at hc <;> dsimp only
        · exact if_pos (Int32.toInt_inj.mp (by omega))
        · exact if_neg (fun e => hc (by rw [e, z0]))
        · exact if_pos (Int32.lt_iff_toInt_lt.mpr (by omega))
        · exact if_pos (Int32.le_iff_toInt_le.mpr (by omega))
        · exact if_pos (Int32.lt_iff_toInt_lt.mpr (by omega))
        · exact if_pos (Int32.le_iff_toInt_le.mpr (by omega))
      · unfold zm_if1
        cases c <;> simp only [zt_cc, zt_ng] at hc <;> dsimp only
        · exact if_neg (fun e => hc (by rw [e, z0]))
        · exact if_pos (Int32.toInt_inj.mp (by omega))
        · exact if_neg (fun e => by have := Int32.lt_iff_toInt_lt.mp e; omega)
        · exact if_neg (fun e => by have := Int32.le_iff_toInt_le.mp e; omega)
        · exact if_neg (fun e => by have := Int32.lt_iff_toInt_lt.mp e; omega)
        · exact if_neg (fun e => by have := Int32.le_iff_toInt_le.mp e; omega)
    · cases h
  · cases h
theorem zt_if2_ok {c : ClassFile.Cond} {pc : Nat} {off : Int} (hS : zt_S E s σ ls st M) (h : zt_if2 c pc off σ = some R) : zt_dn E s Post k kn R (zm_if2 k kn c pc off ls st M) := by
  unfold zt_if2 at h
  split at h
  · next y x r hr =>
    split at h
    · next hk =>
      simp only [Bool.and_eq_true] at hk
      obtain ⟨w, v, t, rfl, hw, hv, hS2⟩ := zt_two hS hr
      obtain ⟨X, rfl, hx1, hx2⟩ := zt_v_int hv (Nat.eq_of_beq_eq_true hk.1)
      obtain ⟨Y, rfl, hy1, hy2⟩ := zt_v_int hw (Nat.eq_of_beq_eq_true hk.2)
      refine zt_2_ok (c := c) (X := X.toInt) (Y := Y.toInt) (r := t) h (fun hc => ⟨?_, zt_br_ok hS2 hx1 hx2 hy1 hy2 hc⟩) (fun hc => ⟨?_, zt_br_ok hS2 hx1 hx2 hy1 hy2 hc⟩)
      · unfold zm_if2
        cases c <;> simp only [zt_cc] at hc <;> dsimp only
        · exact if_pos (Int32.toInt_inj.mp (by omega))
        · exact if_neg (fun e => hc (by rw [e]))
        · exact if_pos (Int32.lt_iff_toInt_lt.mpr (by omega))
        · exact if_pos (Int32.le_iff_toInt_le.mpr (by omega))
        · exact if_pos (Int32.lt_iff_toInt_lt.mpr (by omega))
        · exact if_pos (Int32.le_iff_toInt_le.mpr (by omega))
      · unfold zm_if2
        cases c <;> simp only [zt_cc, zt_ng] at hc <;> dsimp only
        · exact if_neg (fun e => hc (by rw [e]))
        · exact if_pos (Int32.toInt_inj.mp (by omega))
        · exact if_neg (fun e => by have := Int32.lt_iff_toInt_lt.mp e; omega)
        · exact if_neg (fun e => by have := Int32.le_iff_toInt_le.mp e; omega)
        · exact if_neg (fun e => by have := Int32.lt_iff_toInt_lt.mp e; omega)
        · exact if_neg (fun e => by have := Int32.le_iff_toInt_le.mp e; omega)
    · cases h
  · cases h
theorem zt_swj_ok {x : zt_A} {σ : zt_St} {X : Int32} {pc : Nat} {lo : Int} (hS : zt_S E s σ ls st M) (hx1 : zt_rg x X.toInt) (hx2 : zt_nms ls M s x.2.2.2.2 X.toInt) : ∀ (os : List Int) (j n : Nat) (o : Int), os[n]? = some o → X.toInt = lo + ((j + n : Nat) : Int) → ∃ τ, (zm_tg pc o, τ) ∈ zt_swj x σ pc lo os j ∧ zt_S E s τ ls st M
  | [], j, n, o, h, _ => by simp at h
  | q :: os, j, 0, o, h, e => by
    cases h
    obtain ⟨τ, h1, h2⟩ := zt_br_ok (c := .eq) hS hx1 hx2 (zt_rg_ct (lo + Int.ofNat j)) (zt_nms_nil _) (by show X.toInt = lo + Int.ofNat j; rw [e]; rfl)
    refine ⟨τ, ?_, h2⟩
    unfold zt_swj
    rw [h1]
    exact List.mem_cons_self
  | q :: os, j, n + 1, o, h, e => by
    obtain ⟨τ, h1, h2⟩ := zt_swj_ok (pc := pc) (lo := lo) hS hx1 hx2 os (j + 1) n o (by simpa using h) (by rw [e]; omega)
    refine ⟨τ, ?_, h2⟩
    unfold zt_swj
    split
    · exact List.mem_cons_of_mem _ h1
    · exact h1
theorem zt_sw_ok {pc : Nat} {d lo hi : Int} {os : Array Int} (hS : zt_S E s σ ls st M) (h : zt_sw pc d lo hi os σ = some R) : zt_dn E s Post k kn R (zm_sw k pc d lo hi os ls st M) := by
  unfold zt_sw at h
  split at h
  · next x r hr =>
    split at h
    · next hk =>
      simp only [Bool.and_eq_true, Nat.ble_eq] at hk
      cases h
      obtain ⟨v, t, rfl, hv, hS2⟩ := zt_top1 hS hr
      obtain ⟨X, rfl, hx1, hx2⟩ := zt_v_int hv (Nat.eq_of_beq_eq_true hk.1)
      unfold zm_sw
      dsimp only
      by_cases hr9 : X.toInt < lo ∨ hi < X.toInt
      · rw [if_pos hr9]
        rcases hr9 with h9 | h9
        · obtain ⟨τ, h1, h2⟩ := zt_br_ok (c := .lt) hS2 hx1 hx2 (zt_rg_ct lo) (zt_nms_nil _) h9
          exact Or.inr (Or.inl ⟨(zm_tg pc d, τ), by rw [h1]; simp, _, _, _, rfl, h2⟩)
        · obtain ⟨τ, h1, h2⟩ := zt_br_ok (c := .gt) hS2 hx1 hx2 (zt_rg_ct hi) (zt_nms_nil _) h9
          exact Or.inr (Or.inl ⟨(zm_tg pc d, τ), by rw [h1]; simp, _, _, _, rfl, h2⟩)
      · rw [if_neg hr9]
        have hlt : (X.toInt - lo).toNat < os.size := by omega
        have ho : os[(X.toInt - lo).toNat]? = some os[(X.toInt - lo).toNat] := Array.getElem?_eq_getElem hlt
        rw [ho]
        dsimp only
        have ho' : os.toList[(X.toInt - lo).toNat]? = some os[(X.toInt - lo).toNat] := by rw [Array.getElem?_toList]; exact ho
        obtain ⟨τ, h1, h2⟩ := zt_swj_ok (pc := pc) (lo := lo) hS2 hx1 hx2 os.toList 0 _ _ ho' (by omega)
        exact Or.inr (Or.inl ⟨(zm_tg pc _, τ), List.mem_append_left _ (List.mem_append_left _ h1), _, _, _, rfl, h2⟩)
    · cases h
  · cases h
theorem zt_stk_ok (hU : zt_UR U E.2.2.2.1) {i : Instr} {pc : Nat} (hS : zt_S E s σ ls st M) (h : zt_stk U E.2.2.1 i pc σ = some R) : zt_dn E s Post k kn R (zm_stk k kn i pc ls st M) := by
  cases i
  case i2l =>
    simp only [zt_stk] at h
    split at h
    · next x r hr =>
      split at h
      · next hk =>
        obtain ⟨v, t, rfl, hv, hS2⟩ := zt_top1 hS hr
        obtain ⟨X, rfl, hx1, hx2⟩ := zt_v_int hv (Nat.eq_of_beq_eq_true hk)
        have e : X.toInt64.toInt = X.toInt := Int32.toInt_toInt64 X
        exact zt_pu_ok (a := (1, x.2)) (v := .long X.toInt64) hS2 ⟨_, rfl, by rw [e]; exact hx1, by rw [e]; exact hx2⟩ rfl h
      · cases h
    · cases h
  case l2i =>
    simp only [zt_stk] at h
    split at h
    · next x r hr =>
      split at h
      · next hl =>
        obtain ⟨v, t, rfl, hv, hS2⟩ := zt_top1 hS hr
        obtain ⟨X, rfl, -⟩ := zt_isL_ok hv hl
        split at h
        · next hc =>
          simp only [Bool.and_eq_true, zt_le_ok, Int.ofNat_eq_natCast] at hc
          obtain ⟨X', e', hx1, hx2⟩ := zt_v_long hv (Nat.eq_of_beq_eq_true hc.1.1)
          cases e'
          have g1 := hx1.1
          have g2 := hx1.2.1
          have e : X.toInt32.toInt = X.toInt := by rw [Int64.toInt_toInt32]; exact zt_bmI (by omega) (by omega)
          exact zt_pu_ok (a := (0, x.2)) (v := .int X.toInt32) hS2 ⟨_, rfl, by rw [e]; exact hx1, by rw [e]; exact hx2⟩ rfl h
        · exact zt_pu_ok (v := .int X.toInt32) hS2 (zt_v_top _) rfl h
      · cases h
    · cases h
  case dup =>
    simp only [zt_stk] at h
    split at h
    · next x r hr =>
      split at h
      · next hk =>
        simp only [Bool.or_eq_true] at hk
        obtain ⟨v, t, rfl, hv, hS2⟩ := zt_top1 hS hr
        rcases hk with hk | hk
        · obtain ⟨X, rfl, -⟩ := zt_v_int hv (Nat.eq_of_beq_eq_true hk)
          exact zt_pu_ok hS hv rfl h
        · have e := zt_v_ref hv (Nat.eq_of_beq_eq_true hk)
          subst e
          exact zt_pu_ok hS hv rfl h
      · cases h
    · cases h
  case dup2 =>
    simp only [zt_stk] at h
    split at h
    · next x r hr =>
      split at h
      · next hk =>
        cases r with
        | nil => cases h
        | cons y r' =>
          dsimp only at h
          split at h
          · next hk2 =>
            cases h
            obtain ⟨v, t, rfl, hv, hS2⟩ := zt_top1 hS hr
            obtain ⟨w, t, rfl, hw, hS3⟩ := zt_top1 hS2 rfl
            obtain ⟨X, rfl, -⟩ := zt_v_int hv (Nat.eq_of_beq_eq_true hk)
            have e := zt_v_ref hw (Nat.eq_of_beq_eq_true hk2)
            subst e
            exact zt_dn1 rfl (zt_push (σ := (σ.1, y :: σ.2.1, σ.2.2)) (zt_push hS hw) hv)
          · cases h
      · split at h
        · next hl =>
          obtain ⟨v, t, rfl, hv, hS2⟩ := zt_top1 hS hr
          obtain ⟨X, rfl, -⟩ := zt_isL_ok hv hl
          exact zt_pu_ok hS hv rfl h
        · cases h
    · cases h
  case pop =>
    simp only [zt_stk] at h
    split at h
    · next x r hr =>
      split at h
      · next hk =>
        cases h
        obtain ⟨v, t, rfl, hv, hS2⟩ := zt_top1 hS hr
        obtain ⟨X, rfl, -⟩ := zt_v_int hv (Nat.eq_of_beq_eq_true hk)
        exact zt_dn1 rfl hS2
      · cases h
    · cases h
  case ifnull off =>
    simp only [zt_stk] at h
    split at h
    · next x r hr =>
      obtain ⟨v, t, rfl, hv, hS2⟩ := zt_top1 hS hr
      split at h
      · next hk =>
        cases h
        have e := zt_v_ref hv hk
        subst e
        exact zt_dn1 rfl hS2
      · next hk =>
        cases h
        have e := zt_v_nul hv hk
        subst e
        exact Or.inr (Or.inl ⟨_, List.mem_cons_self, _, _, _, rfl, hS2⟩)
      · cases h
    · cases h
  case ifnonnull off =>
    simp only [zt_stk] at h
    split at h
    · next x r hr =>
      obtain ⟨v, t, rfl, hv, hS2⟩ := zt_top1 hS hr
      split at h
      · next hk =>
        cases h
        have e := zt_v_ref hv hk
        subst e
        exact Or.inr (Or.inl ⟨_, List.mem_cons_self, _, _, _, rfl, hS2⟩)
      · next hk =>
        cases h
        have e := zt_v_nul hv hk
        subst e
        exact zt_dn1 rfl hS2
      · cases h
    · cases h
  case iinc i n =>
    simp only [zt_stk] at h
    split at h
    · next a ha =>
      split at h
      · next hk =>
        simp only [Bool.and_eq_true, zt_le_ok, Int.ofNat_eq_natCast] at hk
        obtain ⟨v, h1, h2⟩ := hS.1.2 i a ha
        obtain ⟨X, rfl, hx1, hx2⟩ := zt_v_int h2 (Nat.eq_of_beq_eq_true hk.1.1)
        have hlt : i < ls.length := (List.getElem?_eq_some_iff.mp h1).1
        have en : (Int32.ofInt n).toInt = n := Int32.toInt_ofInt_of_le (by omega) (by omega)
        have g1 := hx1.1
        have g2 := hx1.2.1
        refine zt_r1_ok h (ls' := zt_set ls i (.int (X + Int32.ofInt n)) false) (st' := st) (M' := M) (by unfold zm_stk; dsimp only; rw [h1]; rfl) (fun τ hτ => zt_setl_ok hU hS ?_ hlt hτ)
        refine zt_v_mkI (z := X.toInt + n) (by rw [Int32.toInt_add, en]) (by omega) (by omega) ?_ (zt_sh_ok hx2)
        have e : X.toInt + n - (a.2.1 + n) = X.toInt - a.2.1 := by omega
        rw [e]
        exact hx1.2.2
      · cases h
    · cases h
  all_goals (simp only [zt_stk] at h; cases h)
theorem zt_ct9_ok : ∀ (as : List zt_A) (vs : List Value), zt_sts ls M s as vs → Nat.ble (zt_ct9 as) 8 = true → Nat.ble (vs.map fun v => v.category).sum 8 = true := by
  have key : ∀ (as : List zt_A) (vs : List Value), zt_sts ls M s as vs → (vs.map fun v => v.category).sum ≤ zt_ct9 as := by
    intro as
    induction as with
    | nil =>
      intro vs h
      cases vs with
      | nil => exact Nat.le_refl _
      | cons v vs => exact h.elim
    | cons a as ih =>
      intro vs h
      cases vs with
      | nil => exact h.elim
      | cons v vs =>
        have := ih vs h.2
        have hv := h.1
        have hc : v.category ≤ (match zt_isL a with | true => 2 | false => 1) := by
          cases hl : zt_isL a with
          | true => cases v <;> simp [Value.category]
          | false =>
            obtain ⟨kd, lo, hi, sd, ms⟩ := a
            match kd, hl, hv with
            | 0, _, hv => obtain ⟨x, rfl, -⟩ := hv; simp [Value.category]
            | 1, hl, _ => cases hl
            | 2, _, hv => have hv : v = .ref lo.toNat := hv; subst hv; simp [Value.category]
            | 3, _, hv => have hv : v = .null := hv; subst hv; simp [Value.category]
            | 4, _, hv => have hv : v = .retAddr lo.toNat := hv; subst hv; simp [Value.category]
            | 5, hl, _ => cases hl
            | kd + 6, _, hv => exact hv.elim
        simp only [List.map_cons, List.sum_cons]
        unfold zt_ct9
        cases hl : zt_isL a <;> rw [hl] at hc <;> dsimp only at hc ⊢ <;> omega
  intro as vs h hb
  have := key as vs h
  have hb := Nat.le_of_ble_eq_true hb
  exact Nat.ble_eq.mpr (by omega)
end ZTJ
