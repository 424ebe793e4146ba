/-! AN ABSTRACT RUN: elements, jumps, the stack -/
def zt_al1 (w0 : zm_L) (G : zt_G) (ct : Nat) (σ : zt_St) : zt_R := match σ.2.1 with
  | i :: a :: r => match Nat.beq a.1 2 with
    | true => match w0[a.2.1.toNat]? with
      | some (.inr (ty, len), _) => match zt_idx i len with
        | true => match ty with
          | .int => match Nat.beq ct 0 with
            | true => zt_pu (zt_rde G σ.1 σ.2.2.1 a.2.1.toNat i) (σ.1, r, σ.2.2)
            | false => none
          | .long => match Nat.beq ct 1 with
            | true => zt_pu zt_ltop (σ.1, r, σ.2.2)
            | false => none
          | .byte => match Nat.beq ct 2 with
            | true => zt_pu (zt_rde G σ.1 σ.2.2.1 a.2.1.toNat i) (σ.1, r, σ.2.2)
            | false => none
          | .boolean => match Nat.beq ct 2 with
            | true => zt_pu (zt_rde G σ.1 σ.2.2.1 a.2.1.toNat i) (σ.1, r, σ.2.2)
            | false => none
          | _ => none
        | false => none
      | _ => none
    | false => none
  | _ => none
def zt_ala1 (rs : List Value) (i : zt_A) (σ : zt_St) (j : Nat) : Option (List zt_St) := match zt_br .eq i (zt_ct (.ofNat j)) σ with
  | none => some []
  | some τ => match rs.getD j .null with
    | .ref q => some [(τ.1, (2, .ofNat q, .ofNat 0, 0, []) :: τ.2.1, τ.2.2)]
    | .null => some [(τ.1, (3, .ofNat 0, .ofNat 0, 0, []) :: τ.2.1, τ.2.2)]
    | _ => none
def zt_cat {α β : Type} (f : α → Option (List β)) : List α → Option (List β)
  | [] => some []
  | a :: r => match f a with
    | none => none
    | some x => match zt_cat f r with
      | none => none
      | some y => some (x ++ y)
theorem zt_cat_ok {α β : Type} {f : α → Option (List β)} : ∀ {L : List α} {y : List β}, zt_cat f L = some y → ∀ a ∈ L, ∃ x, f a = some x ∧ ∀ b ∈ x, b ∈ y
  | [], y, _, a, ha => by cases ha
  | c :: r, y, h, a, ha => by
    unfold zt_cat at h
    split at h
    · cases h
    · next x hx =>
      split at h
      · cases h
      · next y' hy =>
        cases h
        rcases List.mem_cons.mp ha with rfl | ha
        · exact ⟨x, hx, fun b hb => List.mem_append_left _ hb⟩
        · obtain ⟨x', h1, h2⟩ := zt_cat_ok hy a ha
          exact ⟨x', h1, fun b hb => List.mem_append_right _ (h2 b hb)⟩
def zt_ala (w0 : zm_L) (σ : zt_St) : zt_R := match σ.2.1 with
  | i :: a :: r => match Nat.beq a.1 2 with
    | true => match w0[a.2.1.toNat]? with
      | some (.inr (.object _, len), rs) => match zt_idx i len with
        | true => match zt_cat (zt_ala1 rs i (σ.1, r, σ.2.2)) (List.range len) with
          | some L => some (L, [])
          | none => none
        | false => none
      | _ => none
    | false => none
  | _ => none
def zt_nar (ty : FieldType) (v : zt_A) : zt_A := match ty with
  | .byte => zt_i2b v
  | .boolean => match zt_le (.ofNat 0) v.2.1 && zt_le v.2.2.1 (.ofNat 1) with
    | true => v
    | false => (0, .ofNat 0, .ofNat 1, 1, [])
  | _ => v
def zt_as1 (w0 : zm_L) (G : zt_G) (W : zt_W) (U : zt_U) (ct : Nat) (σ : zt_St) : zt_R := match σ.2.1 with
  | v :: i :: a :: r => match Nat.beq a.1 2 with
    | true => match w0[a.2.1.toNat]? with
      | some (.inr (ty, len), _) => match zt_idx i len && zt_inW W a.2.1.toNat i.2.1.toNat i.2.2.1.toNat with
        | true => match ty with
          | .long => match zt_isL v && Nat.beq ct 1 with
            | true => some ([zt_wr U a.2.1.toNat i.2.1.toNat i.2.2.1.toNat [] (.ofNat 0) (.ofNat 0) (σ.1, r, σ.2.2)], [])
            | false => none
          | .int => match Nat.beq v.1 0 && Nat.beq ct 0 && zt_fit G a.2.1.toNat i.2.1.toNat i.2.2.1.toNat i.2.2.2.1 v.2.1 v.2.2.1 with
            | true => some ([zt_wr U a.2.1.toNat i.2.1.toNat i.2.2.1.toNat (zt_keys σ.1 a.2.1.toNat i) v.2.1 v.2.2.1 (σ.1, r, σ.2.2)], [])
            | false => none
          | .byte => match Nat.beq v.1 0 && Nat.beq ct 2 && zt_fit G a.2.1.toNat i.2.1.toNat i.2.2.1.toNat i.2.2.2.1 (zt_nar .byte v).2.1 (zt_nar .byte v).2.2.1 with
            | true => some ([zt_wr U a.2.1.toNat i.2.1.toNat i.2.2.1.toNat (zt_keys σ.1 a.2.1.toNat i) (zt_nar .byte v).2.1 (zt_nar .byte v).2.2.1 (σ.1, r, σ.2.2)], [])
            | false => none
          | .boolean => match Nat.beq v.1 0 && Nat.beq ct 2 && zt_fit G a.2.1.toNat i.2.1.toNat i.2.2.1.toNat i.2.2.2.1 (zt_nar .boolean v).2.1 (zt_nar .boolean v).2.2.1 with
            | true => some ([zt_wr U a.2.1.toNat i.2.1.toNat i.2.2.1.toNat (zt_keys σ.1 a.2.1.toNat i) (zt_nar .boolean v).2.1 (zt_nar .boolean v).2.2.1 (σ.1, r, σ.2.2)], [])
            | false => none
          | _ => none
        | false => none
      | _ => none
    | false => none
  | _ => none
def zt_aln (w0 : zm_L) (σ : zt_St) : zt_R := match σ.2.1 with
  | a :: r => match Nat.beq a.1 2 with
    | true => match w0[a.2.1.toNat]? with
      | some (.inr (ty, len), _) => match Nat.ble len 2147483647 with
        | true => match ty with
          | .int => zt_pu (zt_ct (.ofNat len)) (σ.1, r, σ.2.2)
          | .long => zt_pu (zt_ct (.ofNat len)) (σ.1, r, σ.2.2)
          | _ => none
        | false => none
      | _ => none
    | false => none
  | [] => none
def zt_cn (cs : List (Nat × Value)) (ct idx : Nat) (σ : zt_St) : zt_R := match zm_look cs idx with
  | some (.int v) => match Nat.beq ct 0 || Nat.beq ct 2 with
    | true => zt_pu (zt_ct v.toInt) σ
    | false => none
  | some (.long v) => match Nat.beq ct 1 with
    | true => zt_pu (zt_lct v.toInt) σ
    | false => none
  | some (.retAddr v) => match Nat.beq ct 0 with
    | true => zt_pu (4, .ofNat v, .ofNat 0, 0, []) σ
    | false => none
  | _ => none
def zt_ng (c : ClassFile.Cond) : ClassFile.Cond := match c with
  | .eq => .ne
  | .ne => .eq
  | .lt => .ge
  | .ge => .lt
  | .gt => .le
  | .le => .gt
def zt_2 (t : Nat) (o1 o2 : Option zt_St) : zt_R := some (o2.toList, o1.toList.map (fun τ => (t, τ)))
def zt_if1 (c : ClassFile.Cond) (pc : Nat) (off : Int) (σ : zt_St) : zt_R := match σ.2.1 with
  | x :: r => match Nat.beq x.1 0 with
    | true => zt_2 (zm_tg pc off) (zt_br c x (zt_ct (.ofNat 0)) (σ.1, r, σ.2.2)) (zt_br (zt_ng c) x (zt_ct (.ofNat 0)) (σ.1, r, σ.2.2))
    | false => none
  | [] => none
def zt_if2 (c : ClassFile.Cond) (pc : Nat) (off : Int) (σ : zt_St) : zt_R := match σ.2.1 with
  | y :: x :: r => match Nat.beq x.1 0 && Nat.beq y.1 0 with
    | true => zt_2 (zm_tg pc off) (zt_br c x y (σ.1, r, σ.2.2)) (zt_br (zt_ng c) x y (σ.1, r, σ.2.2))
    | false => none
  | _ => none
def zt_swj (x : zt_A) (σ : zt_St) (pc : Nat) (lo : Int) : List Int → Nat → List (Nat × zt_St)
  | [], _ => []
  | o :: os, j => match zt_br .eq x (zt_ct (lo + .ofNat j)) σ with
    | some τ => (zm_tg pc o, τ) :: zt_swj x σ pc lo os (j + 1)
    | none => zt_swj x σ pc lo os (j + 1)
def zt_sw (pc : Nat) (d lo hi : Int) (os : Array Int) (σ : zt_St) : zt_R := match σ.2.1 with
  | x :: r => match Nat.beq x.1 0 && Nat.ble ((hi - lo).toNat + 1) os.size with
    | true => some ([], zt_swj x (σ.1, r, σ.2.2) pc lo os.toList 0 ++ (zt_br .lt x (zt_ct lo) (σ.1, r, σ.2.2)).toList.map (fun τ => (zm_tg pc d, τ)) ++ (zt_br .gt x (zt_ct hi) (σ.1, r, σ.2.2)).toList.map (fun τ => (zm_tg pc d, τ)))
    | false => none
  | [] => none
def zt_stk (U : zt_U) (K : List Nat) (i : Instr) (pc : Nat) (σ : zt_St) : zt_R := match i with
  | .i2l => match σ.2.1 with
    | x :: r => match Nat.beq x.1 0 with
      | true => zt_pu (1, x.2) (σ.1, r, σ.2.2)
      | false => none
    | [] => none
  | .l2i => match σ.2.1 with
    | x :: r => match zt_isL x with
      | true => match Nat.beq x.1 1 && zt_le (.negSucc 2147483647) x.2.1 && zt_le x.2.2.1 (.ofNat 2147483647) with
        | true => zt_pu (0, x.2) (σ.1, r, σ.2.2)
        | false => zt_pu zt_top (σ.1, r, σ.2.2)
      | false => none
    | [] => none
  | .dup => match σ.2.1 with
    | x :: _ => match Nat.beq x.1 0 || Nat.beq x.1 2 with
      | true => zt_pu x σ
      | false => none
    | [] => none
  | .dup2 => match σ.2.1 with
    | x :: r => match Nat.beq x.1 0 with
      | true => match r with
        | y :: _ => match Nat.beq y.1 2 with
          | true => some ([(σ.1, x :: y :: σ.2.1, σ.2.2)], [])
          | false => none
        | [] => none
      | false => match zt_isL x with
        | true => zt_pu x σ
        | false => none
    | [] => none
  | .pop => match σ.2.1 with
    | x :: r => match Nat.beq x.1 0 with
      | true => some ([(σ.1, r, σ.2.2)], [])
      | false => none
    | [] => none
  | .ifnull off => match σ.2.1 with
    | x :: r => match x.1 with
      | 2 => some ([(σ.1, r, σ.2.2)], [])
      | 3 => some ([], [(zm_tg pc off, (σ.1, r, σ.2.2))])
      | _ => none
    | [] => none
  | .ifnonnull off => match σ.2.1 with
    | x :: r => match x.1 with
      | 2 => some ([], [(zm_tg pc off, (σ.1, r, σ.2.2))])
      | 3 => some ([(σ.1, r, σ.2.2)], [])
      | _ => none
    | [] => none
  | .iinc i n => match σ.1[i]? with
    | some (some a) => match Nat.beq a.1 0 && zt_le (.negSucc 2147483647) n && zt_le n (.ofNat 2147483647) with
      | true => zt_r1 (zt_setl U K σ i (zt_mkI (a.2.1 + n) (a.2.2.1 + n) a.2.2.2.1 (zt_sh n a.2.2.2.2)) false)
      | false => none
    | _ => none
  | _ => none
def zt_ct9 (as : List zt_A) : Nat := match as with
  | [] => 0
  | a :: r => match zt_isL a with
    | true => 2 + zt_ct9 r
    | false => 1 + zt_ct9 r
def zt_m2 (f : zt_A → zt_A → Option zt_A) (σ : zt_St) : zt_R := match σ.2.1 with
  | _ :: _ :: r => match Nat.ble (zt_ct9 r) 8 with
    | true => zt_b2 f σ
    | false => none
  | _ => none
def zt_m1 (f : zt_A → zt_A) (σ : zt_St) : zt_R := match σ.2.1 with
  | _ :: r => match Nat.ble (zt_ct9 r) 8 with
    | true => zt_u f σ
    | false => none
  | _ => none
section ZTJ
variable {E : zt_E} {s : Nat → Int} {ls : List (Option Value)} {st : List Value} {M : zm_I} {Post : Option Value → zm_I → Prop} {k : zm_S → zm_R} {kn : zm_N} {σ : zt_St} {R : List zt_St × List (Nat × zt_St)} {w0 wl : zm_L} {U : zt_U}
theorem zt_nhid {ty : FieldType} {len : Nat} : zt_hid (.inr (ty, len)) = false := rfl
theorem zt_al1_ok (hw : zt_Wd w0 wl) {sc : Option (Nat × (Nat → Int32))} {ct : Nat} (hS : zt_S E s σ ls st M) (h : zt_al1 w0 E.1 ct σ = some R) : zt_dn E s Post k kn R (zm_al kn sc wl ct ls st M) := by
  unfold zt_al1 at h
  split at h
  · next i a r hr =>
    split at h
    · next hk =>
      split at h
      · next ty len rs hw0 =>
        split at h
        · next hix =>
          obtain ⟨w, v, t, rfl, hwv, hv, hS2⟩ := zt_two hS hr
          have e := zt_v_ref hv (Nat.eq_of_beq_eq_true hk)
          subst e
          obtain ⟨x, rfl, hx1, hx2, hx3, hx4⟩ := zt_idx_ok hix hwv
          have hwl := hw.2 _ _ hw0 zt_nhid
          have hrd := zt_rde_ok (n := a.2.1.toNat) hS2 hx2 hx3 hx4
          unfold zm_al
          dsimp only
          rw [hwl]
          dsimp only
          rw [if_neg hx1]
          split at h
          · split at h
            · next hc => exact zt_pu_ok hS2 hrd (by simp only [hc]) h
            · cases h
          · split at h
            · next hc => exact zt_pu_ok hS2 (zt_v_ltop (M.2 a.2.1.toNat x.toNatClampNeg)) (by simp only [hc]) h
            · cases h
          · split at h
            · next hc => exact zt_pu_ok hS2 hrd (by simp only [hc]) h
            · cases h
          · split at h
            · next hc => exact zt_pu_ok hS2 hrd (by simp only [hc]) h
            · cases h
          · cases h
        · cases h
      · cases h
    · cases h
  · cases h
theorem zt_ala_ok (hw : zt_Wd w0 wl) {sc : Option (Nat × (Nat → Int32))} (hS : zt_S E s σ ls st M) (h : zt_ala w0 σ = some R) : zt_dn E s Post k kn R (zm_al kn sc wl 3 ls st M) := by
  unfold zt_ala at h
  split at h
  · next i a r hr =>
    split at h
    · next hk =>
      split at h
      · next C len rs hw0 =>
        split at h
        · next hix =>
          split at h
          · next L hL =>
            cases h
            obtain ⟨w, v, t, rfl, hwv, hv, hS2⟩ := zt_two hS hr
            have e := zt_v_ref hv (Nat.eq_of_beq_eq_true hk)
            subst e
            obtain ⟨x, rfl, hx1, hx2, hx3, hx4⟩ := zt_idx_ok hix hwv
            have hwl := hw.2 _ _ hw0 zt_nhid
            have hlt : x.toNatClampNeg < len := by
              rcases Nat.lt_or_ge x.toNatClampNeg len with h9 | h9
              · exact h9
              · exact absurd (Or.inr h9) hx1
            have hx0 : x.toInt = (x.toNatClampNeg : Int) := by
              have ec : x.toNatClampNeg = x.toInt.toNat := rfl
              have z0 : (0 : Int32).toInt = 0 := by decide
              have : ¬ x.toInt < 0 := fun e => hx1 (Or.inl (Int32.lt_iff_toInt_lt.mpr (by omega)))
              omega
            obtain ⟨y, hy1, hy2⟩ := zt_cat_ok hL x.toNatClampNeg (List.mem_range.mpr hlt)
            obtain ⟨τ, hτ1, hτ2⟩ := zt_br_ok (c := .eq) (b := zt_ct (.ofNat x.toNatClampNeg)) (y := (x.toNatClampNeg : Int)) hS2 hx3 hx4 ⟨Int.le_refl _, Int.le_refl _, ⟨0, by show ((x.toNatClampNeg : Nat) : Int) - Int.ofNat x.toNatClampNeg = _; simp⟩⟩ (zt_nms_nil _) hx0
            unfold zt_ala1 at hy1
            rw [hτ1] at hy1
            dsimp only at hy1
            unfold zm_al
            dsimp only
            rw [hwl]
            dsimp only
            rw [if_neg hx1]
            split at hy1
            · next q hq =>
              cases hy1
              refine Or.inl ⟨_, hy2 _ List.mem_cons_self, _, _, _, ?_, zt_push hτ2 (a := (2, .ofNat q, .ofNat 0, 0, [])) (v := .ref q) rfl⟩
              rw [hq]
            · next hq =>
              cases hy1
              refine Or.inl ⟨_, hy2 _ List.mem_cons_self, _, _, _, ?_, zt_push hτ2 (a := (3, .ofNat 0, .ofNat 0, 0, [])) (v := .null) rfl⟩
              rw [hq]
            · cases hy1
          · cases h
        · cases h
      · cases h
    · cases h
  · cases h
theorem zt_nar_ok {ty : FieldType} (hty : ty = .byte ∨ ty = .boolean) {v : zt_A} (hk : v.1 = 0) {x : Int32} (hx : zt_rg v x.toInt) : (zt_nar ty v).2.1 ≤ (vp_nar ty x).toInt ∧ (vp_nar ty x).toInt ≤ (zt_nar ty v).2.2.1 := by
  rcases hty with rfl | rfl
  · rw [vp_nar_byte]
    obtain ⟨y, e, h1, -⟩ := zt_v_int (zt_i2b_ok [] (fun _ _ => 0, fun _ _ => 0) (fun _ => 0) (zt_nn v []) x hk hx (zt_nms_nil _)) (by unfold zt_i2b; split <;> first | exact hk | rfl)
    cases e
    have e2 : (zt_i2b (zt_nn v [])).2.1 = (zt_i2b v).2.1 ∧ (zt_i2b (zt_nn v [])).2.2.1 = (zt_i2b v).2.2.1 := by
      unfold zt_i2b zt_nn
      dsimp only
      split <;> exact ⟨rfl, rfl⟩
    unfold zt_nar
    dsimp only
    rw [← e2.1, ← e2.2]
    exact ⟨h1.1, h1.2.1⟩
  · have e : vp_nar .boolean x = x &&& 1 := rfl
    rw [e]
    have z1 : (1 : Int32).toInt = 1 := by decide
    have h1 := zt_and_nn x 1 (by rw [z1]; decide)
    rw [z1] at h1
    unfold zt_nar
    dsimp only
    split
    · next hc =>
      simp only [Bool.and_eq_true, zt_le_ok] at hc
      have g1 := hx.1
      have g2 := hx.2.1
      have e0 : (Int.ofNat 0) = 0 := rfl
      have e1 : (Int.ofNat 1) = 1 := rfl
      have z0 : (0 : Int32).toInt = 0 := by decide
      rcases (show x.toInt = 0 ∨ x.toInt = 1 by omega) with g | g
      · have : x = 0 := Int32.toInt_inj.mp (by rw [g, z0])
        subst this
        have : ((0 : Int32) &&& 1).toInt = 0 := by decide
        omega
      · have : x = 1 := Int32.toInt_inj.mp (by rw [g, z1])
        subst this
        have : ((1 : Int32) &&& 1).toInt = 1 := by decide
        omega
    · exact h1
theorem zt_as1_ok (hU : zt_UR U E.2.2.2.1) (hw : zt_Wd w0 wl) {ct : Nat} (hS : zt_S E s σ ls st M) (h : zt_as1 w0 E.1 E.2.1 U ct σ = some R) : zt_dn E s Post k kn R (zm_as kn wl ct ls st M) := by
  unfold zt_as1 at h
  split at h
  · next v i a r hr =>
    split at h
    · next hk =>
      split at h
      · next ty len rs hw0 =>
        split at h
        · next hix =>
          simp only [Bool.and_eq_true] at hix
          obtain ⟨vv, t0, rfl, hvv, hS1⟩ := zt_top1 hS hr
          obtain ⟨w, u, t, rfl, hwv, hu, hS2⟩ := zt_two hS1 rfl
          have e := zt_v_ref hu (Nat.eq_of_beq_eq_true hk)
          subst e
          obtain ⟨x, rfl, hx1, hx2, hx3, hx4⟩ := zt_idx_ok hix.1 hwv
          have hwl := hw.2 _ _ hw0 zt_nhid
          have hkey : ∀ y : Int32, ∀ q ∈ zt_keys σ.1 a.2.1.toNat i, zt_cv ls (zm_w M.1 a.2.1.toNat x.toNatClampNeg y, M.2) q y.toInt := fun y q hq => (zt_keys_ok hS2.1 (by simp [zm_w]) hx3 hx4 q hq).2
          split at h
          · split at h
            · next hc =>
              simp only [Bool.and_eq_true] at hc
              cases h
              obtain ⟨y, rfl, -⟩ := zt_isL_ok hvv hc.1
              refine zt_dn1 ?_ (zt_wrl_ok (x := y) hU hS2 hx2.1 hx2.2.1 hix.2 _ _)
              unfold zm_as
              dsimp only
              rw [hwl]
              dsimp only
              rw [if_neg hx1]
              simp only [hc.2]
            · cases h
          · split at h
            · next hc =>
              simp only [Bool.and_eq_true] at hc
              cases h
              obtain ⟨y, rfl, hy, -⟩ := zt_v_int hvv (Nat.eq_of_beq_eq_true hc.1.1)
              refine zt_dn1 ?_ (zt_wr_ok (x := y) hU hS2 hx2 hy.1 hy.2.1 hc.2 hix.2 (hkey y))
              unfold zm_as
              dsimp only
              rw [hwl]
              dsimp only
              rw [if_neg hx1]
              simp only [hc.1.2]
            · cases h
          · split at h
            · next hc =>
              simp only [Bool.and_eq_true] at hc
              cases h
              have hk0 := Nat.eq_of_beq_eq_true hc.1.1
              obtain ⟨y, rfl, hy, -⟩ := zt_v_int hvv hk0
              have hn := zt_nar_ok (Or.inl rfl) hk0 hy
              refine zt_dn1 ?_ (zt_wr_ok (x := vp_nar .byte y) hU hS2 hx2 hn.1 hn.2 hc.2 hix.2 (hkey _))
              unfold zm_as
              dsimp only
              rw [hwl]
              dsimp only
              rw [if_neg hx1]
              simp only [hc.1.2]
            · cases h
          · split at h
            · next hc =>
              simp only [Bool.and_eq_true] at hc
              cases h
              have hk0 := Nat.eq_of_beq_eq_true hc.1.1
              obtain ⟨y, rfl, hy, -⟩ := zt_v_int hvv hk0
              have hn := zt_nar_ok (Or.inr rfl) hk0 hy
              refine zt_dn1 ?_ (zt_wr_ok (x := vp_nar .boolean y) hU hS2 hx2 hn.1 hn.2 hc.2 hix.2 (hkey _))
              unfold zm_as
              dsimp only
              rw [hwl]
              dsimp only
              rw [if_neg hx1]
              simp only [hc.1.2]
            · cases h
          · cases h
        · cases h
      · cases h
    · cases h
  · cases h
theorem zt_aln_ok (hw : zt_Wd w0 wl) {sc : Option (Nat × (Nat → Int32))} (hS : zt_S E s σ ls st M) (h : zt_aln w0 σ = some R) : zt_dn E s Post k kn R (zm_aln kn sc wl ls st M) := by
  unfold zt_aln at h
  split at h
  · next a r hr =>
    split at h
    · next hk =>
      split at h
      · next ty len rs hw0 =>
        split at h
        · next hlen =>
          obtain ⟨v, t, rfl, hv, hS2⟩ := zt_top1 hS hr
          have e := zt_v_ref hv (Nat.eq_of_beq_eq_true hk)
          subst e
          have hwl := hw.2 _ _ hw0 zt_nhid
          have hlen := Nat.le_of_ble_eq_true hlen
          have hc : zt_v ls M s (zt_ct (.ofNat len)) (.int (Int32.ofNat len)) := zt_v_ct (Int32.toInt_ofNat_of_lt (by omega))
          unfold zm_aln
          dsimp only
          rw [hwl]
          split at h
          · exact zt_pu_ok hS2 hc rfl h
          · exact zt_pu_ok hS2 hc rfl h
          · cases h
        · cases h
      · cases h
    · cases h
  · cases h
theorem zt_cn_ok {T : zm_T} {ct idx : Nat} (hS : zt_S E s σ ls st M) (h : zt_cn T.2.1 ct idx σ = some R) : zt_dn E s Post k kn R (zm_cst kn T ct idx ls st M) := by
  unfold zt_cn at h
  unfold zm_cst
  split at h
  · next v hv =>
    rw [hv]
    dsimp only
    split at h
    · next hc =>
      refine zt_pu_ok hS (zt_v_ct (x := v) rfl) ?_ h
      simp only [Bool.or_eq_true] at hc
      rcases hc with hc | hc
      · simp only [hc]
      · have := Nat.eq_of_beq_eq_true hc
        subst this
        rfl
    · cases h
  · next v hv =>
    rw [hv]
    dsimp only
    split at h
    · next hc => exact zt_pu_ok hS (zt_v_lct (x := v) rfl) (by simp only [hc]) h
    · cases h
  · next v hv =>
    rw [hv]
    dsimp only
    split at h
    · next hc => exact zt_pu_ok (a := (4, .ofNat v, .ofNat 0, 0, [])) (v := .retAddr v) hS rfl (by simp only [hc]) h
    · cases h
  · cases h
end ZTJ
