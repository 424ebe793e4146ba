/-! AN ABSTRACT RUN: a stretch, from head to head -/
-- longs compared
def zt_mkz : List zt_N → zt_St → zt_St
  | [], σ => σ
  | nm :: r, σ => match Nat.beq nm.1 0 && zt_eq nm.2.2.2 (.ofNat 0) with
    | true => match σ.1[nm.2.1]? with
      | some (some a) => match Nat.beq a.1 1 with
        | true => zt_mkz r (σ.1.set nm.2.1 (some (5, a.2)), σ.2)
        | false => zt_mkz r σ
      | _ => zt_mkz r σ
    | false => zt_mkz r σ
def zt_lbr (c : ClassFile.Cond) (x y : zt_A) (σ : zt_St) : Option zt_St := match Nat.beq y.1 1 with
  | false => some σ
  | true => match Nat.beq x.1 1 with
    | true => match c with
      | .ne => match zt_cst y && zt_eq y.2.1 (.ofNat 0) && zt_le x.2.1 (.negSucc 0) && zt_le (.ofNat 1) x.2.2.1 with
        | true => some (zt_mkz x.2.2.2.2 σ)
        | false => zt_br .ne x y σ
      | c => zt_br c x y σ
    | false => match zt_cst y && zt_eq y.2.1 (.ofNat 0) with
      | true => match c with
        | .eq => none
        | _ => some σ
      | false => some σ
def zt_lc (x y : zt_A) (c : ClassFile.Cond) (pc : Nat) (off : Int) (σ : zt_St) : zt_R := zt_2 (zm_tg pc off) (zt_lbr c x y σ) (zt_lbr (zt_ng c) x y σ)
def zt_islc : Instr → Bool
  | .lcmp => true
  | _ => false
def zt_seq (H : zt_H) : List (Instr × Nat × Nat) → Nat → Option (zt_A × zt_A) → zt_St → Option (List (Nat × zt_St))
  | [], pc, pd, σ => match pd with
    | none => some [(pc, σ)]
    | some _ => none
  | (i, a, b) :: r, pc, pd, σ => match pd with
    | some p => match i with
      | .ifCond c off => match zt_lc p.1 p.2 c pc off σ with
        | none => none
        | some q => match zt_cat (zt_seq H r (pc + zm_len i) none) q.1 with
          | none => none
          | some L => some (q.2 ++ L)
      | _ => none
    | none => match zt_islc i with
      | true => match σ.2.1 with
        | y :: x :: t => match zt_isL x && zt_isL y with
          | true => zt_seq H r (pc + zm_len i) (some (x, y)) (σ.1, t, σ.2.2)
          | false => none
        | _ => none
      | false => match zt_ins H i a b pc σ with
        | none => none
        | some q => match zt_cat (zt_seq H r (pc + zm_len i) none) q.1 with
          | none => none
          | some L => some (q.2 ++ L)
section ZTG
variable {E : zt_E} {s : Nat → Int} {ls : List (Option Value)} {st : List Value} {M : zm_I} {σ : zt_St} {Om : zt_Om} {H : zt_H} {T : zm_T} {wl : zm_L} {as : List Value}
theorem zt_mkz_ok {z : Int} (hz : z ≠ 0) : ∀ (ns : List zt_N) (σ : zt_St), zt_nms ls M s ns z → zt_S E s σ ls st M → zt_S E s (zt_mkz ns σ) ls st M
  | [], σ, _, hS => hS
  | nm :: r, σ, hn, hS => by
    have hr : zt_nms ls M s r z := fun m hm => hn m (List.mem_cons_of_mem _ hm)
    unfold zt_mkz
    split
    · next hc =>
      simp only [Bool.and_eq_true, zt_eq_ok] at hc
      split
      · next a ha =>
        split
        · next hk =>
          refine zt_mkz_ok hz r _ hr (zt_S_loc hS ?_)
          obtain ⟨v, h1, h2⟩ := hS.1.2 _ a ha
          obtain ⟨x, rfl, hx1, hx2⟩ := zt_v_long h2 (Nat.eq_of_beq_eq_true hk)
          refine ⟨_, h1, x, rfl, ?_, hx2⟩
          have h3 := hn nm List.mem_cons_self
          obtain ⟨t, p, q, d⟩ := nm
          have ht : t = 0 := Nat.eq_of_beq_eq_true hc.1
          subst ht
          have hd : d = 0 := hc.2
          subst hd
          obtain ⟨w, y, g1, g2, g3⟩ := h3
          dsimp only at g1 h1 g3
          rw [h1] at g1
          cases g1
          cases g2
          omega
        · exact zt_mkz_ok hz r σ hr hS
      · exact zt_mkz_ok hz r σ hr hS
    · exact zt_mkz_ok hz r σ hr hS
theorem zt_lbr_ok {c : ClassFile.Cond} {x y : zt_A} {X Y : Int64} (hS : zt_S E s σ ls st M) (hx : zt_v ls M s x (.long X)) (hlx : zt_isL x = true) (hy : zt_v ls M s y (.long Y)) (h : zt_cc c X.toInt Y.toInt) : ∃ τ, zt_lbr c x y σ = some τ ∧ zt_S E s τ ls st M := by
  unfold zt_lbr
  split
  · exact ⟨σ, rfl, hS⟩
  · next hky =>
    obtain ⟨Y', ey, hy1, hy2⟩ := zt_v_long hy (Nat.eq_of_beq_eq_true hky)
    cases ey
    split
    · next hkx =>
      obtain ⟨X', ex, hx1, hx2⟩ := zt_v_long hx (Nat.eq_of_beq_eq_true hkx)
      cases ex
      split
      · split
        · next hc =>
          simp only [Bool.and_eq_true, zt_eq_ok] at hc
          have e := (zt_cst_ok hc.1.1.1 hy1).1
          have e0 : y.2.1 = 0 := hc.1.1.2
          have h : X.toInt ≠ Y.toInt := h
          exact ⟨_, rfl, zt_mkz_ok (z := X.toInt) (by omega) _ _ hx2 hS⟩
        · exact zt_br_ok hS hx1 hx2 hy1 hy2 h
      · exact zt_br_ok hS hx1 hx2 hy1 hy2 h
    · next hkx =>
      split
      · next hc =>
        simp only [Bool.and_eq_true, zt_eq_ok] at hc
        have e := (zt_cst_ok hc.1 hy1).1
        have e0 : y.2.1 = 0 := hc.2
        split
        · have hk5 : x.1 = 5 := by
            simp only [zt_isL, Bool.or_eq_true] at hlx
            rcases hlx with g | g
            · rw [g] at hkx; cases hkx
            · exact Nat.eq_of_beq_eq_true g
          obtain ⟨X', ex, hx1, -⟩ := zt_v_nz hx hk5
          cases ex
          have h : X.toInt = Y.toInt := h
          omega
        · exact ⟨σ, rfl, hS⟩
      · exact ⟨σ, rfl, hS⟩
theorem zt_lc_ok {Post : Option Value → zm_I → Prop} {k : zm_S → zm_R} {kn : zm_N} {R : List zt_St × List (Nat × zt_St)} {c : ClassFile.Cond} {pc : Nat} {off : Int} {x y : zt_A} {X Y : Int64} (hS : zt_S E s σ ls st M) (hx : zt_v ls M s x (.long X)) (hlx : zt_isL x = true) (hy : zt_v ls M s y (.long Y)) (h : zt_lc x y c pc off σ = some R) : zt_dn E s Post k kn R (zm_if1 k kn c pc off ls (.int (lg_cmp X Y) :: st) M) := by
  unfold zt_lc at h
  refine zt_2_ok (c := c) (X := X.toInt) (Y := Y.toInt) (r := st) h (fun hc => ⟨?_, zt_lbr_ok hS hx hlx hy hc⟩) (fun hc => ⟨?_, zt_lbr_ok hS hx hlx hy hc⟩)
  · unfold zm_if1
    cases c <;> simp only [zt_cc] at hc <;> dsimp only
    · exact if_pos ((lg_cmp_eq X Y).mpr (Int64.toInt_inj.mp hc))
    · exact if_neg (fun e => hc (by rw [(lg_cmp_eq X Y).mp e]))
    · exact if_pos ((lg_cmp_lt X Y).mpr (Int64.lt_iff_toInt_lt.mpr hc))
    · exact if_pos ((lg_cmp_ge X Y).mpr (Int64.le_iff_toInt_le.mpr hc))
    · exact if_pos ((lg_cmp_gt X Y).mpr (Int64.lt_iff_toInt_lt.mpr hc))
    · exact if_pos ((lg_cmp_le X Y).mpr (Int64.le_iff_toInt_le.mpr hc))
  · unfold zm_if1
    cases c <;> simp only [zt_cc, zt_ng] at hc <;> dsimp only
    · exact if_neg (fun e => hc (by rw [(lg_cmp_eq X Y).mp e]))
    · exact if_pos ((lg_cmp_eq X Y).mpr (Int64.toInt_inj.mp hc))
    · exact if_neg (fun e => by have := Int64.lt_iff_toInt_lt.mp ((lg_cmp_lt X Y).mp e); omega)
    · exact if_neg (fun e => by have := Int64.le_iff_toInt_le.mp ((lg_cmp_ge X Y).mp e); omega)
    · exact if_neg (fun e => by have := Int64.lt_iff_toInt_lt.mp ((lg_cmp_gt X Y).mp e); omega)
    · exact if_neg (fun e => by have := Int64.le_iff_toInt_le.mp ((lg_cmp_le X Y).mp e); omega)
/-- a run comes to one of these, or to its end -/
def zt_to (E : zt_E) (s : Nat → Int) (Post : Option Value → zm_I → Prop) (k : zm_S → zm_R) (J : List (Nat × zt_St)) (x : zm_R) : Prop := (∃ q ∈ J, ∃ ls st M, x = k (q.1, ls, st, M) ∧ zt_S E s q.2 ls st M) ∨ ∃ v N, x = some (v, N) ∧ Post v N
theorem zt_to_mono {Post : Option Value → zm_I → Prop} {k : zm_S → zm_R} {J J' : List (Nat × zt_St)} {x : zm_R} (h : ∀ q ∈ J, q ∈ J') (hx : zt_to E s Post k J x) : zt_to E s Post k J' x := by
  rcases hx with ⟨q, h1, h2⟩ | h1
  · exact Or.inl ⟨q, h q h1, h2⟩
  · exact Or.inr h1
theorem zt_seq_ok (hH : zt_fits Om H E T wl as) (k : zm_S → zm_R) : ∀ (b : List (Instr × Nat × Nat)) (pc : Nat) (pd : Option (zt_A × zt_A)) (σ : zt_St) (J : List (Nat × zt_St)), zt_seq H b pc pd σ = some J →
    ∀ (ls : List (Option Value)) (st st' : List Value) (M : zm_I), zt_S E s σ ls st M → (match pd with
      | none => st' = st
      | some p => ∃ X Y, st' = .int (lg_cmp X Y) :: st ∧ zt_v ls M s p.1 (.long X) ∧ zt_isL p.1 = true ∧ zt_v ls M s p.2 (.long Y)) → zt_to E s (zt_post E as H.2.2.2.1.2.1) k J (zm_seq T wl k b pc ls st' M)
  | [], pc, pd, σ, J, h, ls, st, st', M, hS, hp => by
    cases pd with
    | none =>
      cases h
      have hp : st' = st := hp
      subst hp
      exact Or.inl ⟨_, List.mem_cons_self, _, _, _, rfl, hS⟩
    | some p => cases h
  | (i, a, b) :: r, pc, pd, σ, J, h, ls, st, st', M, hS, hp => by
    have ih := zt_seq_ok hH k r
    cases pd with
    | some p =>
      cases i
      case ifCond c off =>
        simp only [zt_seq] at h
        split at h
        · cases h
        · next q hq =>
          split at h
          · cases h
          · next L hL =>
            cases h
            obtain ⟨X, Y, rfl, hx, hlx, hy⟩ := hp
            have := zt_lc_ok (Post := zt_post E as H.2.2.2.1.2.1) (k := k) (kn := zm_seq T wl k r (pc + zm_len (.ifCond c off))) hS hx hlx hy hq
            rcases this with ⟨τ, h1, ls', st', M', h2, h3⟩ | ⟨q', h1, ls', st', M', h2, h3⟩ | ⟨v, N, h1, h2⟩
            · obtain ⟨L', g1, g2⟩ := zt_cat_ok hL τ h1
              have := ih _ none τ L' g1 ls' st' st' M' h3 rfl
              rw [← h2] at this
              exact zt_to_mono (fun q hq => List.mem_append_right _ (g2 q hq)) this
            · exact Or.inl ⟨q', List.mem_append_left _ h1, ls', st', M', h2, h3⟩
            · exact Or.inr ⟨v, N, h1, h2⟩
      all_goals (simp only [zt_seq] at h; cases h)
    | none =>
      have hp : st' = st := hp
      subst hp
      by_cases hlc : zt_islc i = true
      · have hi : i = .lcmp := by
          unfold zt_islc at hlc
          split at hlc
          · rfl
          · cases hlc
        subst hi
        simp only [zt_seq, zt_islc] at h
        split at h
        · next y x t hst =>
          split at h
          · next hl =>
            simp only [Bool.and_eq_true] at hl
            obtain ⟨w, v, t', rfl, hw, hv, hS2⟩ := zt_two hS hst
            obtain ⟨X, rfl, -⟩ := zt_isL_ok hv hl.1
            obtain ⟨Y, rfl, -⟩ := zt_isL_ok hw hl.2
            exact ih _ (some (x, y)) _ J h ls t' (.int (lg_cmp X Y) :: t') M hS2 ⟨X, Y, rfl, hv, hl.1, hw⟩
          · cases h
        · cases h
      · have hlc : zt_islc i = false := by simpa using hlc
        simp only [zt_seq, hlc] at h
        split at h
        · cases h
        · next q hq =>
          split at h
          · cases h
          · next L hL =>
            cases h
            have := zt_ins_ok (k := k) (kn := zm_seq T wl k r (pc + zm_len i)) hH hS hq
            rcases this with ⟨τ, h1, ls', st', M', h2, h3⟩ | ⟨q', h1, ls', st', M', h2, h3⟩ | ⟨v, N, h1, h2⟩
            · obtain ⟨L', g1, g2⟩ := zt_cat_ok hL τ h1
              have := ih _ none τ L' g1 ls' st' st' M' h3 rfl
              rw [← h2] at this
              exact zt_to_mono (fun q hq => List.mem_append_right _ (g2 q hq)) this
            · exact Or.inl ⟨q', List.mem_append_left _ h1, ls', st', M', h2, h3⟩
            · exact Or.inr ⟨v, N, h1, h2⟩
-- splits
def zt_sp1 (x : zt_A) (σ : zt_St) : Nat → List zt_St
  | 0 => []
  | n + 1 => match zt_br .eq x (zt_ct (x.2.1 + .ofNat n)) σ with
    | some τ => τ :: zt_sp1 x σ n
    | none => zt_sp1 x σ n
def zt_spl (G : zt_G) (key : Nat × Nat × Nat) (σ : zt_St) : Option (List zt_St) := match key.1 with
  | 0 => match σ.1[key.2.1]? with
    | some (some a) => match Nat.beq a.1 0 with
      | true => some (zt_sp1 (zt_nn a ((0, key.2.1, 0, .ofNat 0) :: a.2.2.2.2)) σ ((a.2.2.1 - a.2.1).toNat + 1))
      | false => none
    | _ => none
  | _ => match zt_rd G σ.2.2.1 key.2.1 key.2.2 with
    | a => some (zt_sp1 a σ ((a.2.2.1 - a.2.1).toNat + 1))
def zt_spls (G : zt_G) : List (Nat × Nat × Nat) → zt_St → Option (List zt_St)
  | [], σ => some [σ]
  | k :: r, σ => match zt_spl G k σ with
    | none => none
    | some L => zt_cat (zt_spls G r) L
theorem zt_sp1_ok {x : zt_A} {X : Int} (hS : zt_S E s σ ls st M) (hx1 : zt_rg x X) (hx2 : zt_nms ls M s x.2.2.2.2 X) : ∀ n : Nat, X < x.2.1 + (n : Int) → ∃ τ ∈ zt_sp1 x σ n, zt_S E s τ ls st M
  | 0, h => by have := hx1.1; omega
  | n + 1, h => by
    by_cases he : X = x.2.1 + (n : Int)
    · obtain ⟨τ, h1, h2⟩ := zt_br_ok (c := .eq) hS hx1 hx2 (zt_rg_ct (x.2.1 + Int.ofNat n)) (zt_nms_nil _) he
      refine ⟨τ, ?_, h2⟩
      unfold zt_sp1
      rw [h1]
      exact List.mem_cons_self
    · obtain ⟨τ, h1, h2⟩ := zt_sp1_ok hS hx1 hx2 n (by omega)
      refine ⟨τ, ?_, h2⟩
      unfold zt_sp1
      split
      · exact List.mem_cons_of_mem _ h1
      · exact h1
theorem zt_spl_ok {key : Nat × Nat × Nat} {L : List zt_St} (hS : zt_S E s σ ls st M) (h : zt_spl E.1 key σ = some L) : ∃ τ ∈ L, zt_S E s τ ls st M := by
  unfold zt_spl at h
  split at h
  · split at h
    · next a ha =>
      split at h
      · next hk =>
        cases h
        obtain ⟨v, h1, h2⟩ := hS.1.2 _ a ha
        have h3 := zt_ld_nm h1 h2
        obtain ⟨X, rfl, hx1, hx2⟩ := zt_v_int h3 (Nat.eq_of_beq_eq_true hk)
        have g1 := hx1.1
        have g2 := hx1.2.1
        refine zt_sp1_ok hS hx1 hx2 _ ?_
        have e1 : (zt_nn a ((0, key.2.1, 0, Int.ofNat 0) :: a.2.2.2.2)).2.1 = a.2.1 := rfl
        have e2 : (zt_nn a ((0, key.2.1, 0, Int.ofNat 0) :: a.2.2.2.2)).2.2.1 = a.2.2.1 := rfl
        rw [e1] at g1 ⊢
        rw [e2] at g2
        omega
      · cases h
    · cases h
  · have hr := zt_rd_ok hS key.2.1 key.2.2
    have hk0 : (zt_rd E.1 σ.2.2.1 key.2.1 key.2.2).1 = 0 := rfl
    generalize zt_rd E.1 σ.2.2.1 key.2.1 key.2.2 = a at h hr hk0
    cases h
    obtain ⟨X, e, hx1, hx2⟩ := zt_v_int hr hk0
    have g1 := hx1.1
    have g2 := hx1.2.1
    exact zt_sp1_ok hS hx1 hx2 _ (by omega)
theorem zt_spls_ok : ∀ (ks : List (Nat × Nat × Nat)) (σ : zt_St) (L : List zt_St), zt_S E s σ ls st M → zt_spls E.1 ks σ = some L → ∃ τ ∈ L, zt_S E s τ ls st M
  | [], σ, L, hS, h => by
    cases h
    exact ⟨σ, List.mem_cons_self, hS⟩
  | k :: r, σ, L, hS, h => by
    unfold zt_spls at h
    split at h
    · cases h
    · next L1 h1 =>
      obtain ⟨τ, h2, h3⟩ := zt_spl_ok hS h1
      obtain ⟨L2, h4, h5⟩ := zt_cat_ok h τ h2
      obtain ⟨υ, h6, h7⟩ := zt_spls_ok r τ L2 h3 h4
      exact ⟨υ, h5 υ h6, h7⟩
/-- what is told of a method: stretches, where to part states, heads -/
abbrev zt_P : Type := List (Nat × List (Instr × Nat × Nat)) × List (Nat × List (Nat × Nat × Nat)) × List Nat
def zt_exp (H : zt_H) (P : zt_P) : Nat → Nat → zt_St → Option (List (Nat × zt_St))
  | 0, _, _ => none
  | f + 1, pc, σ => match zt_spls H.2.1.1 (match zm_look P.2.1 pc with
      | some ks => ks
      | none => []) σ with
    | none => none
    | some L => match zm_look P.1 pc with
      | none => none
      | some b => zt_cat (fun σ => match zt_seq H b pc none σ with
        | none => none
        | some J => zt_cat (fun q => match P.2.2.any (Nat.beq q.1) with
          | true => some [q]
          | false => zt_exp H P f q.1 q.2) J) L
theorem zt_exp_ok (hH : zt_fits Om H E T wl as) {P : zt_P} (hP : P.1 = T.1) : ∀ (f pc : Nat) (σ : zt_St) (J : List (Nat × zt_St)), zt_exp H P f pc σ = some J → ∀ (ls : List (Option Value)) (st : List Value) (M : zm_I), zt_S E s σ ls st M → zt_to E s (zt_post E as H.2.2.2.1.2.1) (zm_V T wl) J (zm_V T wl (pc, ls, st, M))
  | 0, pc, σ, J, h, ls, st, M, hS => by cases h
  | f + 1, pc, σ, J, h, ls, st, M, hS => by
    have hG := hH.2.1.1
    unfold zt_exp at h
    split at h
    · cases h
    · next L hL =>
      split at h
      · cases h
      · next b hb =>
        rw [hG] at hL
        obtain ⟨τ, h1, h2⟩ := zt_spls_ok _ _ _ hS hL
        obtain ⟨J1, h3, h4⟩ := zt_cat_ok h τ h1
        split at h3
        · cases h3
        · next J2 h5 =>
          have h6 := zt_seq_ok hH (zm_V T wl) b pc none τ J2 h5 ls st st M h2 rfl
          rw [zm_V_eq]
          unfold zm_step
          rw [← hP, hb]
          dsimp only
          rcases h6 with ⟨q, g1, ls', st', M', g2, g3⟩ | g1
          · rw [g2]
            obtain ⟨J3, g4, g5⟩ := zt_cat_ok h3 q g1
            split at g4
            · cases g4
              exact Or.inl ⟨q, h4 q (g5 q List.mem_cons_self), ls', st', M', rfl, g3⟩
            · exact zt_to_mono (fun q' hq' => h4 q' (g5 q' hq')) (zt_exp_ok hH hP f q.1 q.2 J3 g4 ls' st' M' g3)
          · exact Or.inr g1
end ZTG
