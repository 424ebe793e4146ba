/-! 19g.run, 19h.con, 19i.mu, 24.app, 24.om -/
section
/-! AN ABSTRACT RUN: a stretch, from head to head -/
-- longs compared
def zt_mkz : List zt_N → zt_St → zt_St
  | [], σ => σ
  | nm :: r, σ => match Nat.beq nm.1 0 && zt_eq nm.2.2.2 (.ofNat 0) with
    | true => match σ.1[nm.2.1]? with
      | some (some a) => match Nat.beq a.1 1 with
        | true => zt_mkz r (σ.1.set nm.2.1 (some (5, a.2)), σ.2)
        | false => zt_mkz r σ
      | _ => zt_mkz r σ
    | false => zt_mkz r σ
def zt_lbr (c : ClassFile.Cond) (x y : zt_A) (σ : zt_St) : Option zt_St := match Nat.beq y.1 1 with
  | false => some σ
  | true => match Nat.beq x.1 1 with
    | true => match c with
      | .ne => match zt_cst y && zt_eq y.2.1 (.ofNat 0) && zt_le x.2.1 (.negSucc 0) && zt_le (.ofNat 1) x.2.2.1 with
        | true => some (zt_mkz x.2.2.2.2 σ)
        | false => zt_br .ne x y σ
      | c => zt_br c x y σ
    | false => match zt_cst y && zt_eq y.2.1 (.ofNat 0) with
      | true => match c with
        | .eq => none
        | _ => some σ
      | false => some σ
def zt_lc (x y : zt_A) (c : ClassFile.Cond) (pc : Nat) (off : Int) (σ : zt_St) : zt_R := zt_2 (zm_tg pc off) (zt_lbr c x y σ) (zt_lbr (zt_ng c) x y σ)
def zt_islc : Instr → Bool
  | .lcmp => true
  | _ => false
def zt_seq (H : zt_H) : List (Instr × Nat × Nat) → Nat → Option (zt_A × zt_A) → zt_St → Option (List (Nat × zt_St))
  | [], pc, pd, σ => match pd with
    | none => some [(pc, σ)]
    | some _ => none
  | (i, a, b) :: r, pc, pd, σ => match pd with
    | some p => match i with
      | .ifCond c off => match zt_lc p.1 p.2 c pc off σ with
        | none => none
        | some q => match zt_cat (zt_seq H r (pc + zm_len i) none) q.1 with
          | none => none
          | some L => some (q.2 ++ L)
      | _ => none
    | none => match zt_islc i with
      | true => match σ.2.1 with
        | y :: x :: t => match zt_isL x && zt_isL y with
          | true => zt_seq H r (pc + zm_len i) (some (x, y)) (σ.1, t, σ.2.2)
          | false => none
        | _ => none
      | false => match zt_ins H i a b pc σ with
        | none => none
        | some q => match zt_cat (zt_seq H r (pc + zm_len i) none) q.1 with
          | none => none
          | some L => some (q.2 ++ L)
section ZTG
variable {E : zt_E} {s : Nat → Int} {ls : List (Option Value)} {st : List Value} {M : zm_I} {σ : zt_St} {Om : zt_Om} {H : zt_H} {T : zm_T} {wl : zm_L} {as : List Value}
theorem zt_mkz_ok {z : Int} (hz : z ≠ 0) : ∀ (ns : List zt_N) (σ : zt_St), zt_nms ls M s ns z → zt_S E s σ ls st M → zt_S E s (zt_mkz ns σ) ls st M
  | [], σ, _, hS => hS
  | nm :: r, σ, hn, hS => by
    have hr : zt_nms ls M s r z := fun m hm => hn m (List.mem_cons_of_mem _ hm)
    unfold zt_mkz
    split
    · next hc =>
      simp only [Bool.and_eq_true, zt_eq_ok] at hc
      split
      · next a ha =>
        split
        · next hk =>
          refine zt_mkz_ok hz r _ hr (zt_S_loc hS ?_)
          obtain ⟨v, h1, h2⟩ := hS.1.2 _ a ha
          obtain ⟨x, rfl, hx1, hx2⟩ := zt_v_long h2 (Nat.eq_of_beq_eq_true hk)
          refine ⟨_, h1, x, rfl, ?_, hx2⟩
          have h3 := hn nm List.mem_cons_self
          obtain ⟨t, p, q, d⟩ := nm
          have ht : t = 0 := Nat.eq_of_beq_eq_true hc.1
          subst ht
          have hd : d = 0 := hc.2
          subst hd
          obtain ⟨w, y, g1, g2, g3⟩ := h3
          dsimp only at g1 h1 g3
          rw [h1] at g1
          cases g1
          cases g2
          omega
        · exact zt_mkz_ok hz r σ hr hS
      · exact zt_mkz_ok hz r σ hr hS
    · exact zt_mkz_ok hz r σ hr hS
theorem zt_lbr_ok {c : ClassFile.Cond} {x y : zt_A} {X Y : Int64} (hS : zt_S E s σ ls st M) (hx : zt_v ls M s x (.long X)) (hlx : zt_isL x = true) (hy : zt_v ls M s y (.long Y)) (h : zt_cc c X.toInt Y.toInt) : ∃ τ, zt_lbr c x y σ = some τ ∧ zt_S E s τ ls st M := by
  unfold zt_lbr
  split
  · exact ⟨σ, rfl, hS⟩
  · next hky =>
    obtain ⟨Y', ey, hy1, hy2⟩ := zt_v_long hy (Nat.eq_of_beq_eq_true hky)
    cases ey
    split
    · next hkx =>
      obtain ⟨X', ex, hx1, hx2⟩ := zt_v_long hx (Nat.eq_of_beq_eq_true hkx)
      cases ex
      split
      · split
        · next hc =>
          simp only [Bool.and_eq_true, zt_eq_ok] at hc
          have e := (zt_cst_ok hc.1.1.1 hy1).1
          have e0 : y.2.1 = 0 := hc.1.1.2
          have h : X.toInt ≠ Y.toInt := h
          exact ⟨_, rfl, zt_mkz_ok (z := X.toInt) (by omega) _ _ hx2 hS⟩
        · exact zt_br_ok hS hx1 hx2 hy1 hy2 h
      · exact zt_br_ok hS hx1 hx2 hy1 hy2 h
    · next hkx =>
      split
      · next hc =>
        simp only [Bool.and_eq_true, zt_eq_ok] at hc
        have e := (zt_cst_ok hc.1 hy1).1
        have e0 : y.2.1 = 0 := hc.2
        split
        · have hk5 : x.1 = 5 := by
            simp only [zt_isL, Bool.or_eq_true] at hlx
            rcases hlx with g | g
            · rw [g] at hkx; cases hkx
            · exact Nat.eq_of_beq_eq_true g
          obtain ⟨X', ex, hx1, -⟩ := zt_v_nz hx hk5
          cases ex
          have h : X.toInt = Y.toInt := h
          omega
        · exact ⟨σ, rfl, hS⟩
      · exact ⟨σ, rfl, hS⟩
theorem zt_lc_ok {Post : Option Value → zm_I → Prop} {k : zm_S → zm_R} {kn : zm_N} {R : List zt_St × List (Nat × zt_St)} {c : ClassFile.Cond} {pc : Nat} {off : Int} {x y : zt_A} {X Y : Int64} (hS : zt_S E s σ ls st M) (hx : zt_v ls M s x (.long X)) (hlx : zt_isL x = true) (hy : zt_v ls M s y (.long Y)) (h : zt_lc x y c pc off σ = some R) : zt_dn E s Post k kn R (zm_if1 k kn c pc off ls (.int (lg_cmp X Y) :: st) M) := by
  unfold zt_lc at h
  refine zt_2_ok (c := c) (X := X.toInt) (Y := Y.toInt) (r := st) h (fun hc => ⟨?_, zt_lbr_ok hS hx hlx hy hc⟩) (fun hc => ⟨?_, zt_lbr_ok hS hx hlx hy hc⟩)
  · unfold zm_if1
    cases c <;> simp only [zt_cc] at hc <;> dsimp only
    · exact if_pos ((lg_cmp_eq X Y).mpr (Int64.toInt_inj.mp hc))
    · exact if_neg (fun e => hc (by rw [(lg_cmp_eq X Y).mp e]))
    · exact if_pos ((lg_cmp_lt X Y).mpr (Int64.lt_iff_toInt_lt.mpr hc))
    · exact if_pos ((lg_cmp_ge X Y).mpr (Int64.le_iff_toInt_le.mpr hc))
    · exact if_pos ((lg_cmp_gt X Y).mpr (Int64.lt_iff_toInt_lt.mpr hc))
    · exact if_pos ((lg_cmp_le X Y).mpr (Int64.le_iff_toInt_le.mpr hc))
  · unfold zm_if1
    cases c <;> simp only [zt_cc, zt_ng] at hc <;> dsimp only
    · exact if_neg (fun e => hc (by rw [(lg_cmp_eq X Y).mp e]))
    · exact if_pos ((lg_cmp_eq X Y).mpr (Int64.toInt_inj.mp hc))
    · exact if_neg (fun e => by have := Int64.lt_iff_toInt_lt.mp ((lg_cmp_lt X Y).mp e); omega)
    · exact if_neg (fun e => by have := Int64.le_iff_toInt_le.mp ((lg_cmp_ge X Y).mp e); omega)
    · exact if_neg (fun e => by have := Int64.lt_iff_toInt_lt.mp ((lg_cmp_gt X Y).mp e); omega)
    · exact if_neg (fun e => by have := Int64.le_iff_toInt_le.mp ((lg_cmp_le X Y).mp e); omega)
/-- a run comes to one of these, or to its end -/
def zt_to (E : zt_E) (s : Nat → Int) (Post : Option Value → zm_I → Prop) (k : zm_S → zm_R) (J : List (Nat × zt_St)) (x : zm_R) : Prop := (∃ q ∈ J, ∃ ls st M, x = k (q.1, ls, st, M) ∧ zt_S E s q.2 ls st M) ∨ ∃ v N, x = some (v, N) ∧ Post v N
theorem zt_to_mono {Post : Option Value → zm_I → Prop} {k : zm_S → zm_R} {J J' : List (Nat × zt_St)} {x : zm_R} (h : ∀ q ∈ J, q ∈ J') (hx : zt_to E s Post k J x) : zt_to E s Post k J' x := by
  rcases hx with ⟨q, h1, h2⟩ | h1
  · exact Or.inl ⟨q, h q h1, h2⟩
  · exact Or.inr h1
theorem zt_seq_ok (hH : zt_fits Om H E T wl as) (k : zm_S → zm_R) : ∀ (b : List (Instr × Nat × Nat)) (pc : Nat) (pd : Option (zt_A × zt_A)) (σ : zt_St) (J : List (Nat × zt_St)), zt_seq H b pc pd σ = some J →
    ∀ (ls : List (Option Value)) (st st' : List Value) (M : zm_I), zt_S E s σ ls st M → (match pd with
      | none => st' = st
      | some p => ∃ X Y, st' = .int (lg_cmp X Y) :: st ∧ zt_v ls M s p.1 (.long X) ∧ zt_isL p.1 = true ∧ zt_v ls M s p.2 (.long Y)) → zt_to E s (zt_post E as H.2.2.2.1.2.1) k J (zm_seq T wl k b pc ls st' M)
  | [], pc, pd, σ, J, h, ls, st, st', M, hS, hp => by
    cases pd with
    | none =>
      cases h
      have hp : st' = st := hp
      subst hp
      exact Or.inl ⟨_, List.mem_cons_self, _, _, _, rfl, hS⟩
    | some p => cases h
  | (i, a, b) :: r, pc, pd, σ, J, h, ls, st, st', M, hS, hp => by
    have ih := zt_seq_ok hH k r
    cases pd with
    | some p =>
      cases i
      case ifCond c off =>
        simp only [zt_seq] at h
        split at h
        · cases h
        · next q hq =>
          split at h
          · cases h
          · next L hL =>
            cases h
            obtain ⟨X, Y, rfl, hx, hlx, hy⟩ := hp
            have := zt_lc_ok (Post := zt_post E as H.2.2.2.1.2.1) (k := k) (kn := zm_seq T wl k r (pc + zm_len (.ifCond c off))) hS hx hlx hy hq
            rcases this with ⟨τ, h1, ls', st', M', h2, h3⟩ | ⟨q', h1, ls', st', M', h2, h3⟩ | ⟨v, N, h1, h2⟩
            · obtain ⟨L', g1, g2⟩ := zt_cat_ok hL τ h1
              have := ih _ none τ L' g1 ls' st' st' M' h3 rfl
              rw [← h2] at this
              exact zt_to_mono (fun q hq => List.mem_append_right _ (g2 q hq)) this
            · exact Or.inl ⟨q', List.mem_append_left _ h1, ls', st', M', h2, h3⟩
            · exact Or.inr ⟨v, N, h1, h2⟩
      all_goals (simp only [zt_seq] at h; cases h)
    | none =>
      have hp : st' = st := hp
      subst hp
      by_cases hlc : zt_islc i = true
      · have hi : i = .lcmp := by
          unfold zt_islc at hlc
          split at hlc
          · rfl
          · cases hlc
        subst hi
        simp only [zt_seq, zt_islc] at h
        split at h
        · next y x t hst =>
          split at h
          · next hl =>
            simp only [Bool.and_eq_true] at hl
            obtain ⟨w, v, t', rfl, hw, hv, hS2⟩ := zt_two hS hst
            obtain ⟨X, rfl, -⟩ := zt_isL_ok hv hl.1
            obtain ⟨Y, rfl, -⟩ := zt_isL_ok hw hl.2
            exact ih _ (some (x, y)) _ J h ls t' (.int (lg_cmp X Y) :: t') M hS2 ⟨X, Y, rfl, hv, hl.1, hw⟩
          · cases h
        · cases h
      · have hlc : zt_islc i = false := by simpa using hlc
        simp only [zt_seq, hlc] at h
        split at h
        · cases h
        · next q hq =>
          split at h
          · cases h
          · next L hL =>
            cases h
            have := zt_ins_ok (k := k) (kn := zm_seq T wl k r (pc + zm_len i)) hH hS hq
            rcases this with ⟨τ, h1, ls', st', M', h2, h3⟩ | ⟨q', h1, ls', st', M', h2, h3⟩ | ⟨v, N, h1, h2⟩
            · obtain ⟨L', g1, g2⟩ := zt_cat_ok hL τ h1
              have := ih _ none τ L' g1 ls' st' st' M' h3 rfl
              rw [← h2] at this
              exact zt_to_mono (fun q hq => List.mem_append_right _ (g2 q hq)) this
            · exact Or.inl ⟨q', List.mem_append_left _ h1, ls', st', M', h2, h3⟩
            · exact Or.inr ⟨v, N, h1, h2⟩
-- splits
def zt_sp1 (x : zt_A) (σ : zt_St) : Nat → List zt_St
  | 0 => []
  | n + 1 => match zt_br .eq x (zt_ct (x.2.1 + .ofNat n)) σ with
    | some τ => τ :: zt_sp1 x σ n
    | none => zt_sp1 x σ n
def zt_spl (G : zt_G) (key : Nat × Nat × Nat) (σ : zt_St) : Option (List zt_St) := match key.1 with
  | 0 => match σ.1[key.2.1]? with
    | some (some a) => match Nat.beq a.1 0 with
      | true => some (zt_sp1 (zt_nn a ((0, key.2.1, 0, .ofNat 0) :: a.2.2.2.2)) σ ((a.2.2.1 - a.2.1).toNat + 1))
      | false => none
    | _ => none
  | _ => match zt_rd G σ.2.2.1 key.2.1 key.2.2 with
    | a => some (zt_sp1 a σ ((a.2.2.1 - a.2.1).toNat + 1))
def zt_spls (G : zt_G) : List (Nat × Nat × Nat) → zt_St → Option (List zt_St)
  | [], σ => some [σ]
  | k :: r, σ => match zt_spl G k σ with
    | none => none
    | some L => zt_cat (zt_spls G r) L
theorem zt_sp1_ok {x : zt_A} {X : Int} (hS : zt_S E s σ ls st M) (hx1 : zt_rg x X) (hx2 : zt_nms ls M s x.2.2.2.2 X) : ∀ n : Nat, X < x.2.1 + (n : Int) → ∃ τ ∈ zt_sp1 x σ n, zt_S E s τ ls st M
  | 0, h => by have := hx1.1; omega
  | n + 1, h => by
    by_cases he : X = x.2.1 + (n : Int)
    · obtain ⟨τ, h1, h2⟩ := zt_br_ok (c := .eq) hS hx1 hx2 (zt_rg_ct (x.2.1 + Int.ofNat n)) (zt_nms_nil _) he
      refine ⟨τ, ?_, h2⟩
      unfold zt_sp1
      rw [h1]
      exact List.mem_cons_self
    · obtain ⟨τ, h1, h2⟩ := zt_sp1_ok hS hx1 hx2 n (by omega)
      refine ⟨τ, ?_, h2⟩
      unfold zt_sp1
      split
      · exact List.mem_cons_of_mem _ h1
      · exact h1
theorem zt_spl_ok {key : Nat × Nat × Nat} {L : List zt_St} (hS : zt_S E s σ ls st M) (h : zt_spl E.1 key σ = some L) : ∃ τ ∈ L, zt_S E s τ ls st M := by
  unfold zt_spl at h
  split at h
  · split at h
    · next a ha =>
      split at h
      · next hk =>
        cases h
        obtain ⟨v, h1, h2⟩ := hS.1.2 _ a ha
        have h3 := zt_ld_nm h1 h2
        obtain ⟨X, rfl, hx1, hx2⟩ := zt_v_int h3 (Nat.eq_of_beq_eq_true hk)
        have g1 := hx1.1
        have g2 := hx1.2.1
        refine zt_sp1_ok hS hx1 hx2 _ ?_
        have e1 : (zt_nn a ((0, key.2.1, 0, Int.ofNat 0) :: a.2.2.2.2)).2.1 = a.2.1 := rfl
        have e2 : (zt_nn a ((0, key.2.1, 0, Int.ofNat 0) :: a.2.2.2.2)).2.2.1 = a.2.2.1 := rfl
        rw [e1] at g1 ⊢
        rw [e2] at g2
        omega
      · cases h
    · cases h
  · have hr := zt_rd_ok hS key.2.1 key.2.2
    have hk0 : (zt_rd E.1 σ.2.2.1 key.2.1 key.2.2).1 = 0 := rfl
    generalize zt_rd E.1 σ.2.2.1 key.2.1 key.2.2 = a at h hr hk0
    cases h
    obtain ⟨X, e, hx1, hx2⟩ := zt_v_int hr hk0
    have g1 := hx1.1
    have g2 := hx1.2.1
    exact zt_sp1_ok hS hx1 hx2 _ (by omega)
theorem zt_spls_ok : ∀ (ks : List (Nat × Nat × Nat)) (σ : zt_St) (L : List zt_St), zt_S E s σ ls st M → zt_spls E.1 ks σ = some L → ∃ τ ∈ L, zt_S E s τ ls st M
  | [], σ, L, hS, h => by
    cases h
    exact ⟨σ, List.mem_cons_self, hS⟩
  | k :: r, σ, L, hS, h => by
    unfold zt_spls at h
    split at h
    · cases h
    · next L1 h1 =>
      obtain ⟨τ, h2, h3⟩ := zt_spl_ok hS h1
      obtain ⟨L2, h4, h5⟩ := zt_cat_ok h τ h2
      obtain ⟨υ, h6, h7⟩ := zt_spls_ok r τ L2 h3 h4
      exact ⟨υ, h5 υ h6, h7⟩
/-- what is told of a method: stretches, where to part states, heads -/
abbrev zt_P : Type := List (Nat × List (Instr × Nat × Nat)) × List (Nat × List (Nat × Nat × Nat)) × List Nat
def zt_exp (H : zt_H) (P : zt_P) : Nat → Nat → zt_St → Option (List (Nat × zt_St))
  | 0, _, _ => none
  | f + 1, pc, σ => match zt_spls H.2.1.1 (match zm_look P.2.1 pc with
      | some ks => ks
      | none => []) σ with
    | none => none
    | some L => match zm_look P.1 pc with
      | none => none
      | some b => zt_cat (fun σ => match zt_seq H b pc none σ with
        | none => none
        | some J => zt_cat (fun q => match P.2.2.any (Nat.beq q.1) with
          | true => some [q]
          | false => zt_exp H P f q.1 q.2) J) L
theorem zt_exp_ok (hH : zt_fits Om H E T wl as) {P : zt_P} (hP : P.1 = T.1) : ∀ (f pc : Nat) (σ : zt_St) (J : List (Nat × zt_St)), zt_exp H P f pc σ = some J → ∀ (ls : List (Option Value)) (st : List Value) (M : zm_I), zt_S E s σ ls st M → zt_to E s (zt_post E as H.2.2.2.1.2.1) (zm_V T wl) J (zm_V T wl (pc, ls, st, M))
  | 0, pc, σ, J, h, ls, st, M, hS => by cases h
  | f + 1, pc, σ, J, h, ls, st, M, hS => by
    have hG := hH.2.1.1
    unfold zt_exp at h
    split at h
    · cases h
    · next L hL =>
      split at h
      · cases h
      · next b hb =>
        rw [hG] at hL
        obtain ⟨τ, h1, h2⟩ := zt_spls_ok _ _ _ hS hL
        obtain ⟨J1, h3, h4⟩ := zt_cat_ok h τ h1
        split at h3
        · cases h3
        · next J2 h5 =>
          have h6 := zt_seq_ok hH (zm_V T wl) b pc none τ J2 h5 ls st st M h2 rfl
          rw [zm_V_eq]
          unfold zm_step
          rw [← hP, hb]
          dsimp only
          rcases h6 with ⟨q, g1, ls', st', M', g2, g3⟩ | g1
          · rw [g2]
            obtain ⟨J3, g4, g5⟩ := zt_cat_ok h3 q g1
            split at g4
            · cases g4
              exact Or.inl ⟨q, h4 q (g5 q List.mem_cons_self), ls', st', M', rfl, g3⟩
            · exact zt_to_mono (fun q' hq' => h4 q' (g5 q' hq')) (zt_exp_ok hH hP f q.1 q.2 J3 g4 ls' st' M' g3)
          · exact Or.inr g1
end ZTG
end
section
/-! AN ABSTRACT RUN: it comes to an end; a contract out of it -/
/-- a rank: a number, and so many times a local each -/
abbrev zt_Q : Type := Int × List (Int × Nat)
def zt_ln (ls : List (Option Value)) (k : Nat) : Int := match ls[k]? with
  | some (some v) => (zt_num v).getD 0
  | _ => 0
def zt_sum (f : Nat → Int) : List (Int × Nat) → Int
  | [] => 0
  | (a, k) :: r => a * f k + zt_sum f r
/-- greatest, least of so many times a local -/
def zt_ub (L : List (Option zt_A)) (a : Int) (k : Nat) : Option Int := match L[k]? with
  | some (some x) => match Nat.ble x.1 1 with
    | true => match zt_le (.ofNat 0) a with
      | true => some (a * x.2.2.1)
      | false => some (a * x.2.1)
    | false => none
  | _ => none
def zt_lb (L : List (Option zt_A)) (a : Int) (k : Nat) : Option Int := match L[k]? with
  | some (some x) => match Nat.ble x.1 1 with
    | true => match zt_le (.ofNat 0) a with
      | true => some (a * x.2.1)
      | false => some (a * x.2.2.1)
    | false => none
  | _ => none
def zt_lbs (L : List (Option zt_A)) : List (Int × Nat) → Option Int
  | [] => some 0
  | (a, k) :: r => match zt_lb L a k with
    | none => none
    | some x => match zt_lbs L r with
      | none => none
      | some y => some (x + y)
/-- by how much local l is more than local k was at the start -/
def zt_dif (L : List (Option zt_A)) (l k : Nat) : Option Int := match L[l]? with
  | some (some x) => match Nat.ble x.1 1 with
    | true => match x.2.2.2.2.find? (fun nm => Nat.beq nm.1 3 && Nat.beq nm.2.1 k) with
      | some nm => some nm.2.2.2
      | none => none
    | false => none
  | _ => none
/-- an upper bound of one rank behind less one ahead -/
def zt_rkd (L L0 : List (Option zt_A)) : List (Int × Nat) → List (Int × Nat) → Option Int
  | [], r0 => match zt_lbs L0 r0 with
    | some y => some (-y)
    | none => none
  | (a, l) :: r, [] => match zt_ub L a l with
    | none => none
    | some x => match zt_rkd L L0 r [] with
      | none => none
      | some y => some (x + y)
  | (a, l) :: r, (b, k) :: r0 => match (match zt_eq a b with
      | true => zt_dif L l k
      | false => none) with
    | some d => match zt_rkd L L0 r r0 with
      | none => none
      | some y => some (a * d + y)
    | none => match zt_ub L a l with
      | none => none
      | some x => match zt_lb L0 b k with
        | none => none
        | some x0 => match zt_rkd L L0 r r0 with
          | none => none
          | some y => some (x - x0 + y)
section ZTQ
variable {ls : List (Option Value)} {M : zm_I} {s : Nat → Int}
theorem zt_ln_ok {L : List (Option zt_A)} (hl : zt_lo ls M s L) {k : Nat} {x : zt_A} (hx : L[k]? = some (some x)) (hk : Nat.ble x.1 1 = true) : zt_rg x (zt_ln ls k) ∧ zt_nms ls M s x.2.2.2.2 (zt_ln ls k) := by
  obtain ⟨v, h1, h2⟩ := hl.2 k x hx
  obtain ⟨z, h3, h4, h5⟩ := zt_v_num h2 hk
  have e : zt_ln ls k = z := by
    unfold zt_ln
    rw [h1]
    dsimp only
    rw [h3]
    rfl
  rw [e]
  exact ⟨h4, h5⟩
theorem zt_ub_ok {L : List (Option zt_A)} (hl : zt_lo ls M s L) {a x : Int} {k : Nat} (h : zt_ub L a k = some x) : a * zt_ln ls k ≤ x := by
  unfold zt_ub at h
  split at h
  · next y hy =>
    split at h
    · next hk =>
      obtain ⟨⟨h1, h2, -⟩, -⟩ := zt_ln_ok hl hy hk
      split at h
      · next ha => cases h; exact Int.mul_le_mul_of_nonneg_left h2 (zt_le_ok.mp ha)
      · next ha =>
        cases h
        have ha := zt_le_no ha
        have ha : a < 0 := ha
        exact Int.mul_le_mul_of_nonpos_left (by omega) h1
    · cases h
  · cases h
theorem zt_lb_ok {L : List (Option zt_A)} (hl : zt_lo ls M s L) {a x : Int} {k : Nat} (h : zt_lb L a k = some x) : x ≤ a * zt_ln ls k := by
  unfold zt_lb at h
  split at h
  · next y hy =>
    split at h
    · next hk =>
      obtain ⟨⟨h1, h2, -⟩, -⟩ := zt_ln_ok hl hy hk
      split at h
      · next ha => cases h; exact Int.mul_le_mul_of_nonneg_left h1 (zt_le_ok.mp ha)
      · next ha =>
        cases h
        have ha := zt_le_no ha
        have ha : a < 0 := ha
        exact Int.mul_le_mul_of_nonpos_left (by omega) h2
    · cases h
  · cases h
theorem zt_lbs_ok {L : List (Option zt_A)} (hl : zt_lo ls M s L) : ∀ (r : List (Int × Nat)) (x : Int), zt_lbs L r = some x → x ≤ zt_sum (zt_ln ls) r
  | [], x, h => by cases h; exact Int.le_refl _
  | (a, k) :: r, x, h => by
    unfold zt_lbs at h
    split at h
    · cases h
    · next y hy =>
      split at h
      · cases h
      · next z hz =>
        cases h
        have h1 := zt_lb_ok hl hy
        have h2 := zt_lbs_ok hl r z hz
        show y + z ≤ a * zt_ln ls k + zt_sum (zt_ln ls) r
        omega
theorem zt_rkd_ok {ls0 : List (Option Value)} {M0 : zm_I} {s0 : Nat → Int} {L L0 : List (Option zt_A)} (hl : zt_lo ls M s L) (hl0 : zt_lo ls0 M0 s0 L0) (hs : s = zt_ln ls0) : ∀ (r r0 : List (Int × Nat)) (x : Int), zt_rkd L L0 r r0 = some x → zt_sum (zt_ln ls) r - zt_sum (zt_ln ls0) r0 ≤ x
  | [], r0, x, h => by
    unfold zt_rkd at h
    split at h
    · next y hy =>
      cases h
      have := zt_lbs_ok hl0 r0 y hy
      show 0 - zt_sum (zt_ln ls0) r0 ≤ -y
      omega
    · cases h
  | (a, l) :: r, [], x, h => by
    unfold zt_rkd at h
    split at h
    · cases h
    · next y hy =>
      split at h
      · cases h
      · next z hz =>
        cases h
        have h1 := zt_ub_ok hl hy
        have h2 := zt_rkd_ok hl hl0 hs r [] z hz
        have e : zt_sum (zt_ln ls0) [] = 0 := rfl
        rw [e] at h2 ⊢
        show a * zt_ln ls l + zt_sum (zt_ln ls) r - 0 ≤ y + z
        omega
  | (a, l) :: r, (b, k) :: r0, x, h => by
    have e1 : zt_sum (zt_ln ls) ((a, l) :: r) = a * zt_ln ls l + zt_sum (zt_ln ls) r := rfl
    have e2 : zt_sum (zt_ln ls0) ((b, k) :: r0) = b * zt_ln ls0 k + zt_sum (zt_ln ls0) r0 := rfl
    rw [e1, e2]
    unfold zt_rkd at h
    split at h
    · next d hd =>
      split at h
      · cases h
      · next z hz =>
        cases h
        have h2 := zt_rkd_ok hl hl0 hs r r0 z hz
        split at hd
        · next hab =>
          have hab := zt_eq_ok.mp hab
          subst hab
          unfold zt_dif at hd
          split at hd
          · next y hy =>
            split at hd
            · next hk =>
              split at hd
              · next nm hnm =>
                cases hd
                obtain ⟨-, h3⟩ := zt_ln_ok hl hy hk
                have h4 := h3 nm (List.mem_of_find?_eq_some hnm)
                have h5 := List.find?_some hnm
                simp only [Bool.and_eq_true] at h5
                obtain ⟨t, p, q, d⟩ := nm
                have ht : t = 3 := Nat.eq_of_beq_eq_true h5.1
                subst ht
                have hp : p = k := Nat.eq_of_beq_eq_true h5.2
                subst hp
                have h4 : zt_ln ls l = s p + d := h4
                rw [hs] at h4
                dsimp only
                rw [h4, Int.mul_add]
                omega
              · cases hd
            · cases hd
          · cases hd
        · cases hd
    · split at h
      · cases h
      · next y hy =>
        split at h
        · cases h
        · next y0 hy0 =>
          split at h
          · cases h
          · next z hz =>
            cases h
            have h1 := zt_ub_ok hl hy
            have h0 := zt_lb_ok hl0 hy0
            have h2 := zt_rkd_ok hl hl0 hs r r0 z hz
            omega
end ZTQ
/-- at a start every local bears its own name -/
def zt_sta : Nat → List (Option zt_A) → List (Option zt_A)
  | _, [] => []
  | k, none :: r => none :: zt_sta (k + 1) r
  | k, some a :: r => match Nat.ble a.1 1 with
    | true => some (zt_nn a ((3, k, 0, .ofNat 0) :: a.2.2.2.2)) :: zt_sta (k + 1) r
    | false => some a :: zt_sta (k + 1) r
/-- no names of starts -/
def zt_no3 (a : zt_A) : Bool := a.2.2.2.2.all (fun nm => Nat.ble nm.1 2)
def zt_no3s (σ : zt_St) : Bool := σ.1.all (fun o => match o with
  | some a => zt_no3 a
  | none => true) && σ.2.1.all zt_no3
abbrev zt_An : Type := List (Nat × List (zt_St × zt_Q))
def zt_pad : Nat → List (Option zt_A) → List (Option zt_A)
  | 0, _ => []
  | n + 1, [] => none :: zt_pad n []
  | n + 1, v :: r => v :: zt_pad n r
def zt_edge (A : zt_An) (σ0 : zt_St) (q0 : zt_Q) (q : Nat × zt_St) : Bool := match zm_look A q.1 with
  | none => false
  | some zs => zs.any (fun z => zt_wi q.2 z.1 && (match zt_rkd q.2.1 σ0.1 z.2.2 q0.2 with
    | some d => zt_le (z.2.1 - q0.1 + d + 1) (.ofNat 0)
    | none => false))
def zt_head (H : zt_H) (P : zt_P) (fuel : Nat) (A : zt_An) (pc : Nat) (z : zt_St × zt_Q) : Bool := zt_no3s z.1 && (match zt_lbs z.1.1 z.2.2 with
  | some x => zt_le (.ofNat 0) (z.2.1 + x)
  | none => false) && (match zt_exp H P fuel pc (zt_sta 0 z.1.1, z.1.2) with
  | some J => J.all (zt_edge A z.1 z.2)
  | none => false)
def zt_chk (H : zt_H) (P : zt_P) (fuel : Nat) (A : zt_An) (nL : Nat) (K : zt_K) : Bool := Nat.ble (zt_sl K.2.2.1.1).length nL && K.2.2.1.1.all (fun a => a.2.2.2.2.isEmpty) && (match zm_look A 0 with
  | some zs => zs.any (fun z => zt_wi (zt_pad nL (zt_sl K.2.2.1.1), [], K.2.2.1.2.1, K.2.2.1.2.2) z.1)
  | none => false) && A.all (fun h => h.2.all (zt_head H P fuel A h.1))
section ZTW
variable {E : zt_E} {s s' : Nat → Int} {ls : List (Option Value)} {st : List Value} {M : zm_I} {σ : zt_St} {Om : zt_Om} {H : zt_H} {T : zm_T} {wl : zm_L} {as : List Value}
theorem zt_is_s {nm : zt_N} {z : Int} (h : Nat.ble nm.1 2 = true) (hi : zt_is ls M s nm z) : zt_is ls M s' nm z := by
  obtain ⟨t, a, b, d⟩ := nm
  match t, h, hi with
  | 0, _, hi => exact hi
  | 1, _, hi => exact hi
  | 2, _, hi => exact hi
  | t + 3, h, _ => cases h
theorem zt_no3_ok {a : zt_A} {v : Value} (h : zt_no3 a = true) (hv : zt_v ls M s a v) : zt_v ls M s' a v :=
  zt_v_nn (ns := a.2.2.2.2) hv (fun z hz nm hnm => zt_is_s (List.all_eq_true.mp h nm hnm) (hz nm hnm))
theorem zt_no3_st : ∀ (xs : List zt_A) (vs : List Value), xs.all zt_no3 = true → zt_sts ls M s xs vs → zt_sts ls M s' xs vs
  | [], [], _, _ => trivial
  | x :: xs, v :: vs, h, hv => by
    simp only [List.all_cons, Bool.and_eq_true] at h
    exact ⟨zt_no3_ok h.1 hv.1, zt_no3_st xs vs h.2 hv.2⟩
  | [], _ :: _, _, h => h.elim
  | _ :: _, [], _, h => h.elim
theorem zt_sta_len : ∀ (L : List (Option zt_A)) (k : Nat), (zt_sta k L).length = L.length
  | [], _ => rfl
  | none :: r, k => by simp [zt_sta, zt_sta_len r (k + 1)]
  | some a :: r, k => by
    unfold zt_sta
    split <;> simp [zt_sta_len r (k + 1)]
theorem zt_sta_get : ∀ (L : List (Option zt_A)) (k j : Nat) (b : zt_A), (zt_sta k L)[j]? = some (some b) → ∃ a, L[j]? = some (some a) ∧ (b = a ∨ (Nat.ble a.1 1 = true ∧ b = zt_nn a ((3, k + j, 0, .ofNat 0) :: a.2.2.2.2)))
  | [], k, j, b, h => by simp [zt_sta] at h
  | none :: r, k, 0, b, h => by simp [zt_sta] at h
  | none :: r, k, j + 1, b, h => by
    obtain ⟨a, h1, h2⟩ := zt_sta_get r (k + 1) j b (by simpa [zt_sta] using h)
    refine ⟨a, by simpa using h1, ?_⟩
    rw [show k + 1 + j = k + (j + 1) by omega] at h2
    exact h2
  | some c :: r, k, 0, b, h => by
    unfold zt_sta at h
    split at h
    · next hk => cases h; exact ⟨c, rfl, Or.inr ⟨hk, rfl⟩⟩
    · cases h; exact ⟨c, rfl, Or.inl rfl⟩
  | some c :: r, k, j + 1, b, h => by
    have h' : (zt_sta (k + 1) r)[j]? = some (some b) := by
      unfold zt_sta at h
      split at h <;> simpa using h
    obtain ⟨a, h1, h2⟩ := zt_sta_get r (k + 1) j b h'
    refine ⟨a, by simpa using h1, ?_⟩
    rw [show k + 1 + j = k + (j + 1) by omega] at h2
    exact h2
theorem zt_start (h3 : zt_no3s σ = true) (hS : zt_S E s σ ls st M) : zt_S E (zt_ln ls) (zt_sta 0 σ.1, σ.2) ls st M := by
  simp only [zt_no3s, Bool.and_eq_true] at h3
  obtain ⟨⟨g0, g1⟩, g2, g3⟩ := hS
  refine ⟨⟨by rw [zt_sta_len]; exact g0, fun j b hj => ?_⟩, zt_no3_st _ _ h3.2 g2, g3⟩
  obtain ⟨a, h1, h2⟩ := zt_sta_get _ _ _ _ hj
  obtain ⟨v, h4, h5⟩ := g1 j a h1
  have h6 : zt_no3 a = true := List.all_eq_true.mp h3.1 (some a) (List.mem_of_getElem? h1)
  have h7 : zt_v ls M (zt_ln ls) a v := zt_no3_ok h6 h5
  refine ⟨v, h4, ?_⟩
  rcases h2 with rfl | ⟨hk, rfl⟩
  · exact h7
  · obtain ⟨z, e1, e2, e3⟩ := zt_v_num h7 hk
    have ez : zt_ln ls j = z := by
      unfold zt_ln
      rw [h4]
      dsimp only
      rw [e1]
      rfl
    have key : zt_nms ls M (zt_ln ls) ((3, 0 + j, 0, Int.ofNat 0) :: a.2.2.2.2) z := by
      intro nm hnm
      rcases List.mem_cons.mp hnm with rfl | hnm
      · show z = zt_ln ls (0 + j) + 0
        rw [Nat.zero_add, ez]
        omega
      · exact e3 nm hnm
    obtain ⟨kd, lo, hi, sd, ms⟩ := a
    match kd, h7, hk with
    | 0, h7, _ => obtain ⟨x, rfl, q1, q2⟩ := h7; cases e1; exact ⟨x, rfl, q1, key⟩
    | 1, h7, _ => obtain ⟨x, rfl, q1, q2⟩ := h7; cases e1; exact ⟨x, rfl, q1, key⟩
    | kd + 2, _, hk => cases hk
theorem zt_heads (hH : zt_fits Om H E T wl as) {P : zt_P} (hP : P.1 = T.1) {fuel : Nat} {A : zt_An} (hA : A.all (fun h => h.2.all (zt_head H P fuel A h.1)) = true) : ∀ (n pc : Nat) (zs : List (zt_St × zt_Q)) (z : zt_St × zt_Q), zm_look A pc = some zs → z ∈ zs → ∀ (s : Nat → Int) (ls : List (Option Value)) (st : List Value) (M : zm_I), zt_S E s z.1 ls st M → (z.2.1 + zt_sum (zt_ln ls) z.2.2).toNat < n → ∃ v N, zm_V T wl (pc, ls, st, M) = some (v, N) ∧ zt_post E as H.2.2.2.1.2.1 v N
  | 0, _, _, _, _, _, _, _, _, _, _, h => by omega
  | n + 1, pc, zs, z, hzs, hz, s, ls, st, M, hS, hn => by
    have h1 := List.all_eq_true.mp (List.all_eq_true.mp hA _ (zm_look_mem hzs)) z hz
    simp only [zt_head, Bool.and_eq_true] at h1
    obtain ⟨⟨h2, h3⟩, h4⟩ := h1
    have hS0 := zt_start h2 hS
    split at h4
    · next J hJ =>
      rcases zt_exp_ok hH hP fuel pc _ J hJ ls st M hS0 with ⟨q, g1, ls', st', M', g2, g3⟩ | ⟨v, N, g1, g2⟩
      · have h5 := List.all_eq_true.mp h4 q g1
        unfold zt_edge at h5
        split at h5
        · cases h5
        · next zs' hzs' =>
          obtain ⟨z', h6, h7⟩ := List.any_eq_true.mp h5
          simp only [Bool.and_eq_true] at h7
          have h8 := h7.2
          split at h8
          · next d hd =>
            have h8 := zt_le_ok.mp h8
            have h8 : z'.2.1 - z.2.1 + d + 1 ≤ 0 := h8
            have h9 := zt_rkd_ok g3.1 hS.1 rfl _ _ d hd
            have hS' := zt_wi_ok h7.1 g3
            have hz' := List.all_eq_true.mp (List.all_eq_true.mp hA _ (zm_look_mem hzs')) z' h6
            simp only [zt_head, Bool.and_eq_true] at hz'
            have h10 := hz'.1.2
            split at h10
            · next x hx =>
              have h10 : 0 ≤ z'.2.1 + x := zt_le_ok.mp h10
              have h11 := zt_lbs_ok hS'.1 _ x hx
              rw [g2]
              exact zt_heads hH hP hA n q.1 zs' z' hzs' h6 _ ls' st' M' hS' (by omega)
            · cases h10
          · cases h8
      · exact ⟨v, N, g1, g2⟩
    · cases h4
end ZTW
theorem zt_pad_len : ∀ (n : Nat) (L : List (Option zt_A)), (zt_pad n L).length = n
  | 0, _ => rfl
  | n + 1, [] => by simp [zt_pad, zt_pad_len n]
  | n + 1, _ :: _ => by simp [zt_pad, zt_pad_len n]
theorem zt_pad_get : ∀ (n : Nat) (L : List (Option zt_A)) (k : Nat) (a : zt_A), (zt_pad n L)[k]? = some (some a) → L[k]? = some (some a)
  | 0, _, k, v, h => by simp [zt_pad] at h
  | n + 1, [], 0, v, h => by simp [zt_pad] at h
  | n + 1, [], k + 1, v, h => by
    have := zt_pad_get n [] k v (by simpa [zt_pad] using h)
    simp at this
  | n + 1, o :: ls, 0, v, h => by simpa [zt_pad] using h
  | n + 1, o :: ls, k + 1, v, h => by
    have := zt_pad_get n ls k v (by simpa [zt_pad] using h)
    simpa using this
theorem zt_pad_to : ∀ (n : Nat) (ls : List (Option Value)) (k : Nat) (v : Value), ls.length ≤ n → ls[k]? = some (some v) → (zm_pad n ls)[k]? = some (some v)
  | 0, [], k, v, _, h => by simp at h
  | 0, _ :: _, _, _, h, _ => by simp at h
  | n + 1, [], k, v, _, h => by simp at h
  | n + 1, o :: ls, 0, v, _, h => by simpa [zm_pad] using h
  | n + 1, o :: ls, k + 1, v, hl, h => by
    have := zt_pad_to n ls k v (by simpa using hl) (by simpa using h)
    simpa [zm_pad] using this
theorem zt_sl_len {ls : List (Option Value)} {M : zm_I} {s : Nat → Int} : ∀ (xs : List zt_A) (vs : List Value), zt_sts ls M s xs vs → (zm_sl vs).length = (zt_sl xs).length
  | [], [], _ => rfl
  | a :: xs, v :: vs, h => by
    have ih := zt_sl_len xs vs h.2
    have hb := h.1
    unfold zt_sl
    split
    · next hl =>
      obtain ⟨x, rfl, -⟩ := zt_isL_ok hb hl
      simp [zm_sl, ih]
    · next hl =>
      have hs : zm_sl (v :: vs) = some v :: zm_sl vs := by
        obtain ⟨kb, lo, hi, sd, ms⟩ := a
        match kb, hl, hb with
        | 0, _, hb => obtain ⟨x, rfl, -⟩ := hb; rfl
        | 1, hl, _ => cases hl
        | 2, _, hb => have hb : v = .ref lo.toNat := hb; subst hb; rfl
        | 3, _, hb => have hb : v = .null := hb; subst hb; rfl
        | 4, _, hb => have hb : v = .retAddr lo.toNat := hb; subst hb; rfl
        | 5, hl, _ => cases hl
        | kb + 6, _, hb => exact hb.elim
      rw [hs]
      simp [ih]
  | [], _ :: _, h => h.elim
  | _ :: _, [], h => h.elim
theorem zt_v_no {ls ls' : List (Option Value)} {M M' : zm_I} {s s' : Nat → Int} {a : zt_A} {v : Value} (h : a.2.2.2.2.isEmpty = true) (hv : zt_v ls M s a v) : zt_v ls' M' s' a v := by
  have e : a.2.2.2.2 = [] := List.isEmpty_iff.mp h
  exact zt_v_nn (ns := a.2.2.2.2) hv (fun z _ => by rw [e]; exact zt_nms_nil z)
/-- A METHOD: where its abstract run is right, it keeps its contract -/
theorem zt_con {Om : zt_Om} {Rel : Nat → zm_I → Prop} {U : zt_U} {T : zm_T} {nL : Nat} {K : zt_K} {w0 : zm_L} {Sg : zt_Sg} {G : zt_G} {Kl : List Nat} {Ks : List (Nat × List zt_K)} {sp : List (Nat × List (Nat × Nat × Nat))} {hd : List Nat} {fuel : Nat} {A : zt_An} {B : List (Nat × List (Instr × Nat × Nat))} {cs : List (Nat × Value)} {ret : Option FieldType}
    (hU : zt_UR U Rel) (hOm : Om[K.2.1]? = some (w0, G)) (hSg : Sg.all (zt_sbB Om) = true) (hB : B = T.1) (hcs : cs = T.2.1) (hret : ret = T.2.2.2.1) (hKs : ∀ (idx : Nat) (ks : List zt_K), zm_look Ks idx = some ks → ∃ C, zm_look T.2.2.1 idx = some C ∧ ∀ K ∈ ks, K.1 = (C.1, C.2.1, C.2.2.1, C.2.2.2.1) ∧ zt_Con Om Rel K C.2.2.2.2)
    (h : zt_chk ((w0, K.2.1, Sg), (G, K.2.2.2.1, Kl, U), cs, (ret, K.2.2.2.2, K.2.2.1.1), Ks) (B, sp, hd) fuel A nL K = true) : zt_Con Om Rel K (zm_F zm_V T nL) := by
  intro w0' G' hOm' wl as M hw hA hC hF hG
  rw [hOm] at hOm'
  cases hOm'
  simp only [zt_chk, Bool.and_eq_true, Nat.ble_eq] at h
  obtain ⟨⟨⟨h1, h0⟩, h2⟩, h3⟩ := h
  have hlen := zt_sl_len _ _ hA
  have hle : (zm_sl as).length ≤ nL := by rw [hlen]; exact h1
  have hfit : zt_fits Om ((w0, K.2.1, Sg), (G, K.2.2.2.1, Kl, U), cs, (ret, K.2.2.2.2, K.2.2.1.1), Ks) (G, K.2.2.2.1, Kl, Rel, M, zm_pad nL (zm_sl as)) T wl as := ⟨⟨hw, hOm, hSg⟩, ⟨rfl, rfl, rfl, hU⟩, hcs, ⟨hret, hA, fun k v hk => zt_pad_to nL _ k v hle hk⟩, hKs⟩
  split at h2
  · next zs hzs =>
    obtain ⟨z, h4, h5⟩ := List.any_eq_true.mp h2
    have hS : zt_S (G, K.2.2.2.1, Kl, Rel, M, zm_pad nL (zm_sl as)) (fun _ => 0) (zt_pad nL (zt_sl K.2.2.1.1), [], K.2.2.1.2.1, K.2.2.1.2.2) (zm_pad nL (zm_sl as)) [] M := by
      refine ⟨⟨by rw [zm_pad_len, zt_pad_len], fun k a hk => ?_⟩, trivial, fun c hc => ?_, hF, hG, fun _ _ _ => ⟨rfl, rfl⟩, fun _ _ => rfl⟩
      · have hk := zt_pad_get _ _ _ _ hk
        obtain ⟨v, g1, g2⟩ := zt_sl_ok _ _ k a hA hk
        refine ⟨v, zt_pad_to nL _ k v hle g1, zt_v_no ?_ g2⟩
        have : ∀ (xs : List zt_A) (j : Nat), xs.all (fun a => a.2.2.2.2.isEmpty) = true → (zt_sl xs)[j]? = some (some a) → a.2.2.2.2.isEmpty = true := by
          intro xs
          induction xs with
          | nil => intro j _ h; simp [zt_sl] at h
          | cons b xs ih =>
            intro j hall h
            simp only [List.all_cons, Bool.and_eq_true] at hall
            unfold zt_sl at h
            split at h
            · match j, h with
              | 0, h => cases h; exact hall.1
              | 1, h => cases h
              | j + 2, h => exact ih j hall.2 h
            · match j, h with
              | 0, h => cases h; exact hall.1
              | j + 1, h => exact ih j hall.2 h
        exact this _ k h0 hk
      · have h6 := hC c hc
        obtain ⟨⟨t, a, b⟩, lo, hi⟩ := c
        by_cases ht : t = 1
        · subst ht
          exact h6
        · rw [zt_cs_ne (c := ((t, a, b), lo, hi)) ht] at h6 ⊢
          obtain ⟨y, g1, g2⟩ := h6
          exact ⟨y, zt_pad_to nL _ _ _ hle g1, g2⟩
    have hS1 := zt_wi_ok h5 hS
    obtain ⟨v, N, g1, g2, g3, g4⟩ := zt_heads hfit hB h3 _ 0 zs z hzs h4 _ _ _ _ hS1 (Nat.lt_succ_self _)
    refine ⟨v, N, ?_, g2, g3, g4⟩
    unfold zm_F
    rw [Nat.ble_eq.mpr hle]
    exact g1
  · cases h2
end
section
/-! A LOOP THAT ENDS BY THE MEMORY: a measure mu of the memory falls (flag 1), or stays (flag 0) while a rank falls; flag 2 is what mu's heads know -/
def zt_stf (fl : List Nat) : List Nat := match fl with
  | [] => []
  | _ => [0, 2]
def zt_edgeM (A : zt_An) (σ0 : zt_St) (q0 : zt_Q) (q : Nat × zt_St) : Bool := match zm_look A q.1 with
  | none => false
  | some zs => zs.any (fun z => zt_wi q.2 z.1 && (match σ0.2.2.2.isEmpty, z.1.2.2.2.isEmpty with
    | true, false => true
    | false, true => false
    | b, _ => (!b && q.2.2.2.2.any (Nat.beq 1)) || ((b || q.2.2.2.2.any (Nat.beq 0)) && (match zt_rkd q.2.1 σ0.1 z.2.2 q0.2 with
      | some d => zt_le (z.2.1 - q0.1 + d + 1) (.ofNat 0)
      | none => false))))
def zt_headM (H : zt_H) (P : zt_P) (fuel : Nat) (A : zt_An) (pc : Nat) (z : zt_St × zt_Q) : Bool := zt_no3s z.1 && z.1.2.2.2.all (Nat.beq 2) && (match zt_lbs z.1.1 z.2.2 with
  | some x => zt_le (.ofNat 0) (z.2.1 + x)
  | none => false) && (match zt_exp H P fuel pc (zt_sta 0 z.1.1, z.1.2.1, z.1.2.2.1, zt_stf z.1.2.2.2) with
  | some J => J.all (zt_edgeM A z.1 z.2)
  | none => false)
def zt_chkM (H : zt_H) (P : zt_P) (fuel : Nat) (A : zt_An) (nL : Nat) (K : zt_K) : Bool := Nat.ble (zt_sl K.2.2.1.1).length nL && K.2.2.1.1.all (fun a => a.2.2.2.2.isEmpty) && (K.2.2.1.2.2.isEmpty && K.2.2.2.2.all (fun o => o.2.2.2.isEmpty)) && (match zm_look A 0 with
  | some zs => zs.any (fun z => zt_wi (zt_pad nL (zt_sl K.2.2.1.1), [], K.2.2.1.2.1, K.2.2.1.2.2) z.1)
  | none => false) && A.all (fun h => h.2.all (zt_headM H P fuel A h.1))
def zt_Mu (Rel : Nat → Nat → zm_I → Prop) (mu : zm_I → Nat) : Prop := (∀ v M, Rel v 2 M → Rel (mu M) 0 M) ∧ (∀ v M, Rel v 0 M → mu M ≤ v) ∧ (∀ v M, Rel v 1 M → mu M < v) ∧ ∀ v v' M, Rel v 2 M → Rel v' 2 M
section ZTM
variable {Rel : Nat → Nat → zm_I → Prop} {mu : zm_I → Nat} {G : zt_G} {W : zt_W} {Kl : List Nat} {M0 : zm_I} {l0 : List (Option Value)} {s s' : Nat → Int} {ls : List (Option Value)} {st : List Value} {M : zm_I} {σ : zt_St} {Om : zt_Om} {H : zt_H} {T : zm_T} {wl : zm_L} {as : List Value}
theorem zt_S_v (hm : zt_Mu Rel mu) {v v' : Nat} (h : σ.2.2.2.all (Nat.beq 2) = true) (hS : zt_S (G, W, Kl, Rel v, M0, l0) s σ ls st M) : zt_S (G, W, Kl, Rel v', M0, l0) s σ ls st M := by
  obtain ⟨a, b, c, d, e⟩ := hS
  refine ⟨a, b, c, fun f hf => ?_, e⟩
  have h1 := d f hf
  have h2 := Nat.eq_of_beq_eq_true (List.all_eq_true.mp h f hf)
  subst h2
  exact hm.2.2.2 v v' M h1
theorem zt_S_st (hm : zt_Mu Rel mu) {v : Nat} (h : σ.2.2.2.all (Nat.beq 2) = true) (hS : zt_S (G, W, Kl, Rel v, M0, l0) s σ ls st M) : zt_S (G, W, Kl, Rel (mu M), M0, l0) s (σ.1, σ.2.1, σ.2.2.1, zt_stf σ.2.2.2) ls st M := by
  have hS' := zt_S_v (v' := mu M) hm h hS
  obtain ⟨a, b, c, d, e⟩ := hS'
  refine ⟨a, b, c, fun f hf => ?_, e⟩
  obtain ⟨x1, x2, x3, fl⟩ := σ
  cases fl with
  | nil => cases hf
  | cons f0 r =>
    have h2 : f0 = 2 := (Nat.eq_of_beq_eq_true (List.all_eq_true.mp h f0 (List.mem_cons_self ..))).symm
    subst h2
    have hd : Rel (mu M) 2 M := d 2 (List.mem_cons_self ..)
    have hf : f = 0 ∨ f = 2 := by simpa [zt_stf] using hf
    rcases hf with rfl | rfl
    · exact hm.1 _ M hd
    · exact hd
theorem zt_post_v {v v' : Nat} {O : List zt_O} (hO : O.all (fun o => o.2.2.2.isEmpty) = true) {w : Option Value} {N : zm_I} (h : zt_post (G, W, Kl, Rel v, M0, l0) as O w N) : zt_post (G, W, Kl, Rel v', M0, l0) as O w N := by
  obtain ⟨a, b, o, ho, c1, c2, c3, c4⟩ := h
  refine ⟨a, b, o, ho, c1, c2, c3, fun f hf => ?_⟩
  have := List.all_eq_true.mp hO o ho
  rw [List.isEmpty_iff.mp this] at hf
  cases hf
theorem zt_headsM0 (hm : zt_Mu Rel mu) (hH : ∀ v, zt_fits Om H (G, W, Kl, Rel v, M0, l0) T wl as) (hO : H.2.2.2.1.2.1.all (fun o => o.2.2.2.isEmpty) = true) {P : zt_P} (hP : P.1 = T.1) {fuel : Nat} {A : zt_An} (hA : A.all (fun h => h.2.all (zt_headM H P fuel A h.1)) = true) : ∀ (m n pc : Nat) (zs : List (zt_St × zt_Q)) (z : zt_St × zt_Q), zm_look A pc = some zs → z ∈ zs → z.1.2.2.2.isEmpty = false → ∀ (v0 : Nat) (s : Nat → Int) (ls : List (Option Value)) (st : List Value) (M : zm_I), zt_S (G, W, Kl, Rel v0, M0, l0) s z.1 ls st M → mu M < m → (z.2.1 + zt_sum (zt_ln ls) z.2.2).toNat < n → ∃ v N, zm_V T wl (pc, ls, st, M) = some (v, N) ∧ zt_post (G, W, Kl, Rel 0, M0, l0) as H.2.2.2.1.2.1 v N := by
  intro m
  induction m with
  | zero => intro n pc zs z _ _ _ v0 s ls st M _ h; omega
  | succ m ihm =>
    intro n
    induction n with
    | zero => intro pc zs z _ _ _ v0 s ls st M _ _ h; omega
    | succ n ihn =>
      intro pc zs z hzs hz hfl v0 s ls st M hS hmu hn
      have h1 := List.all_eq_true.mp (List.all_eq_true.mp hA _ (zm_look_mem hzs)) z hz
      simp only [zt_headM, Bool.and_eq_true] at h1
      obtain ⟨⟨⟨h2, h2f⟩, h3⟩, h4⟩ := h1
      have hS0 : zt_S (G, W, Kl, Rel (mu M), M0, l0) (zt_ln ls) (zt_sta 0 z.1.1, z.1.2.1, z.1.2.2.1, zt_stf z.1.2.2.2) ls st M := zt_S_st (σ := (zt_sta 0 z.1.1, z.1.2)) hm h2f (zt_start h2 hS)
      split at h4
      · next J hJ =>
        rcases zt_exp_ok (hH (mu M)) hP fuel pc _ J hJ ls st M hS0 with ⟨q, g1, ls', st', M', g2, g3⟩ | ⟨v, N, g1, g2⟩
        · have h5 := List.all_eq_true.mp h4 q g1
          unfold zt_edgeM at h5
          split at h5
          · cases h5
          · next zs' hzs' =>
            obtain ⟨z', h6, h7⟩ := List.any_eq_true.mp h5
            simp only [Bool.and_eq_true] at h7
            obtain ⟨h7, h8⟩ := h7
            rw [hfl] at h8
            have hfl' : z'.1.2.2.2.isEmpty = false := by
              cases hq : z'.1.2.2.2.isEmpty with
              | false => rfl
              | true => rw [hq] at h8; cases h8
            rw [hfl'] at h8
            simp only [Bool.not_false, Bool.true_and, Bool.false_or, Bool.or_eq_true, Bool.and_eq_true] at h8
            have hS' := zt_wi_ok h7 g3
            rw [g2]
            rcases h8 with h8 | ⟨h8, h9⟩
            · obtain ⟨f, hf, e⟩ := List.any_eq_true.mp h8
              have e := Nat.eq_of_beq_eq_true e
              subst e
              have hlt : mu M' < mu M := hm.2.2.1 _ _ (g3.2.2.2.1 1 hf)
              exact ihm _ q.1 zs' z' hzs' h6 hfl' _ _ ls' st' M' hS' (by omega) (Nat.lt_succ_self _)
            · obtain ⟨f, hf, e⟩ := List.any_eq_true.mp h8
              have e := Nat.eq_of_beq_eq_true e
              subst e
              have hle : mu M' ≤ mu M := hm.2.1 _ _ (g3.2.2.2.1 0 hf)
              split at h9
              · next d hd =>
                have h9 := zt_le_ok.mp h9
                have h9 : z'.2.1 - z.2.1 + d + 1 ≤ 0 := h9
                have h10 := zt_rkd_ok g3.1 hS.1 rfl _ _ d hd
                have hz' := List.all_eq_true.mp (List.all_eq_true.mp hA _ (zm_look_mem hzs')) z' h6
                simp only [zt_headM, Bool.and_eq_true] at hz'
                have h11 := hz'.1.2
                split at h11
                · next x hx =>
                  have h11 : 0 ≤ z'.2.1 + x := zt_le_ok.mp h11
                  have h12 := zt_lbs_ok hS'.1 _ x hx
                  exact ihn q.1 zs' z' hzs' h6 hfl' _ _ ls' st' M' hS' (by omega) (by omega)
                · cases h11
              · cases h9
        · exact ⟨v, N, g1, zt_post_v hO g2⟩
      · cases h4
theorem zt_headsM1 (hm : zt_Mu Rel mu) (hH : ∀ v, zt_fits Om H (G, W, Kl, Rel v, M0, l0) T wl as) (hO : H.2.2.2.1.2.1.all (fun o => o.2.2.2.isEmpty) = true) {P : zt_P} (hP : P.1 = T.1) {fuel : Nat} {A : zt_An} (hA : A.all (fun h => h.2.all (zt_headM H P fuel A h.1)) = true) : ∀ (n pc : Nat) (zs : List (zt_St × zt_Q)) (z : zt_St × zt_Q), zm_look A pc = some zs → z ∈ zs → ∀ (v0 : Nat) (s : Nat → Int) (ls : List (Option Value)) (st : List Value) (M : zm_I), zt_S (G, W, Kl, Rel v0, M0, l0) s z.1 ls st M → (z.2.1 + zt_sum (zt_ln ls) z.2.2).toNat < n → ∃ v N, zm_V T wl (pc, ls, st, M) = some (v, N) ∧ zt_post (G, W, Kl, Rel 0, M0, l0) as H.2.2.2.1.2.1 v N := by
  intro n
  induction n with
  | zero => intro pc zs z _ _ v0 s ls st M _ h; omega
  | succ n ihn =>
    intro pc zs z hzs hz v0 s ls st M hS hn
    cases hfl : z.1.2.2.2.isEmpty with
    | false => exact zt_headsM0 hm hH hO hP hA _ _ pc zs z hzs hz hfl v0 s ls st M hS (Nat.lt_succ_self _) (Nat.lt_succ_self _)
    | true =>
      have h1 := List.all_eq_true.mp (List.all_eq_true.mp hA _ (zm_look_mem hzs)) z hz
      simp only [zt_headM, Bool.and_eq_true] at h1
      obtain ⟨⟨⟨h2, h2f⟩, h3⟩, h4⟩ := h1
      have hS0 : zt_S (G, W, Kl, Rel (mu M), M0, l0) (zt_ln ls) (zt_sta 0 z.1.1, z.1.2.1, z.1.2.2.1, zt_stf z.1.2.2.2) ls st M := zt_S_st (σ := (zt_sta 0 z.1.1, z.1.2)) hm h2f (zt_start h2 hS)
      split at h4
      · next J hJ =>
        rcases zt_exp_ok (hH (mu M)) hP fuel pc _ J hJ ls st M hS0 with ⟨q, g1, ls', st', M', g2, g3⟩ | ⟨v, N, g1, g2⟩
        · have h5 := List.all_eq_true.mp h4 q g1
          unfold zt_edgeM at h5
          split at h5
          · cases h5
          · next zs' hzs' =>
            obtain ⟨z', h6, h7⟩ := List.any_eq_true.mp h5
            simp only [Bool.and_eq_true] at h7
            obtain ⟨h7, h8⟩ := h7
            have hS' := zt_wi_ok h7 g3
            rw [g2]
            cases hq : z'.1.2.2.2.isEmpty with
            | false => exact zt_headsM0 hm hH hO hP hA _ _ q.1 zs' z' hzs' h6 hq _ _ ls' st' M' hS' (Nat.lt_succ_self _) (Nat.lt_succ_self _)
            | true =>
              rw [hfl, hq] at h8
              simp only [Bool.not_true, Bool.false_and, Bool.true_or, Bool.false_or, Bool.true_and] at h8
              split at h8
              · next d hd =>
                have h9 := zt_le_ok.mp h8
                have h9 : z'.2.1 - z.2.1 + d + 1 ≤ 0 := h9
                have h10 := zt_rkd_ok g3.1 hS.1 rfl _ _ d hd
                have hz' := List.all_eq_true.mp (List.all_eq_true.mp hA _ (zm_look_mem hzs')) z' h6
                simp only [zt_headM, Bool.and_eq_true] at hz'
                have h11 := hz'.1.2
                split at h11
                · next x hx =>
                  have h11 : 0 ≤ z'.2.1 + x := zt_le_ok.mp h11
                  have h12 := zt_lbs_ok hS'.1 _ x hx
                  exact ihn q.1 zs' z' hzs' h6 _ _ ls' st' M' hS' (by omega)
                · cases h11
              · cases h8
        · exact ⟨v, N, g1, zt_post_v hO g2⟩
      · cases h4
end ZTM
theorem zt_conM {Om : zt_Om} {Rel : Nat → Nat → zm_I → Prop} {mu : zm_I → Nat} {U : zt_U} {T : zm_T} {nL : Nat} {K : zt_K} {w0 : zm_L} {Sg : zt_Sg} {G : zt_G} {Kl : List Nat} {Ks : List (Nat × List zt_K)} {sp : List (Nat × List (Nat × Nat × Nat))} {hd : List Nat} {fuel : Nat} {A : zt_An} {B : List (Nat × List (Instr × Nat × Nat))} {cs : List (Nat × Value)} {ret : Option FieldType}
    (hm : zt_Mu Rel mu) (hU : ∀ v, zt_UR U (Rel v)) (hOm : Om[K.2.1]? = some (w0, G)) (hSg : Sg.all (zt_sbB Om) = true) (hB : B = T.1) (hcs : cs = T.2.1) (hret : ret = T.2.2.2.1) (hKs : ∀ v (idx : Nat) (ks : List zt_K), zm_look Ks idx = some ks → ∃ C, zm_look T.2.2.1 idx = some C ∧ ∀ K ∈ ks, K.1 = (C.1, C.2.1, C.2.2.1, C.2.2.2.1) ∧ zt_Con Om (Rel v) K C.2.2.2.2)
    (h : zt_chkM ((w0, K.2.1, Sg), (G, K.2.2.2.1, Kl, U), cs, (ret, K.2.2.2.2, K.2.2.1.1), Ks) (B, sp, hd) fuel A nL K = true) : ∀ v, zt_Con Om (Rel v) K (zm_F zm_V T nL) := by
  intro v1
  intro w0' G' hOm' wl as M hw hA hC hF hG
  rw [hOm] at hOm'
  cases hOm'
  simp only [zt_chkM, Bool.and_eq_true, Nat.ble_eq] at h
  obtain ⟨⟨⟨⟨h1, h0⟩, hfe, hO⟩, h2⟩, h3⟩ := h
  have hlen := zt_sl_len _ _ hA
  have hle : (zm_sl as).length ≤ nL := by rw [hlen]; exact h1
  have hfit : ∀ v, zt_fits Om ((w0, K.2.1, Sg), (G, K.2.2.2.1, Kl, U), cs, (ret, K.2.2.2.2, K.2.2.1.1), Ks) (G, K.2.2.2.1, Kl, Rel v, M, zm_pad nL (zm_sl as)) T wl as := fun v => ⟨⟨hw, hOm, hSg⟩, ⟨rfl, rfl, rfl, hU v⟩, hcs, ⟨hret, hA, fun k v hk => zt_pad_to nL _ k v hle hk⟩, hKs v⟩
  split at h2
  · next zs hzs =>
    obtain ⟨z, h4, h5⟩ := List.any_eq_true.mp h2
    have hS : zt_S (G, K.2.2.2.1, Kl, Rel v1, M, zm_pad nL (zm_sl as)) (fun _ => 0) (zt_pad nL (zt_sl K.2.2.1.1), [], K.2.2.1.2.1, K.2.2.1.2.2) (zm_pad nL (zm_sl as)) [] M := by
      refine ⟨⟨by rw [zm_pad_len, zt_pad_len], fun k a hk => ?_⟩, trivial, fun c hc => ?_, hF, hG, fun _ _ _ => ⟨rfl, rfl⟩, fun _ _ => rfl⟩
      · have hk := zt_pad_get _ _ _ _ hk
        obtain ⟨v, g1, g2⟩ := zt_sl_ok _ _ k a hA hk
        refine ⟨v, zt_pad_to nL _ k v hle g1, zt_v_no ?_ g2⟩
        have : ∀ (xs : List zt_A) (j : Nat), xs.all (fun a => a.2.2.2.2.isEmpty) = true → (zt_sl xs)[j]? = some (some a) → a.2.2.2.2.isEmpty = true := by
          intro xs
          induction xs with
          | nil => intro j _ h; simp [zt_sl] at h
          | cons b xs ih =>
            intro j hall h
            simp only [List.all_cons, Bool.and_eq_true] at hall
            unfold zt_sl at h
            split at h
            · match j, h with
              | 0, h => cases h; exact hall.1
              | 1, h => cases h
              | j + 2, h => exact ih j hall.2 h
            · match j, h with
              | 0, h => cases h; exact hall.1
              | j + 1, h => exact ih j hall.2 h
        exact this _ k h0 hk
      · have h6 := hC c hc
        obtain ⟨⟨t, a, b⟩, lo, hi⟩ := c
        by_cases ht : t = 1
        · subst ht
          exact h6
        · rw [zt_cs_ne (c := ((t, a, b), lo, hi)) ht] at h6 ⊢
          obtain ⟨y, g1, g2⟩ := h6
          exact ⟨y, zt_pad_to nL _ _ _ hle g1, g2⟩
    have hS1 := zt_wi_ok h5 hS
    obtain ⟨v, N, g1, g2, g3, g4⟩ := zt_headsM1 hm hfit hO hB h3 _ 0 zs z hzs h4 v1 _ _ _ _ hS1 (Nat.lt_succ_self _)
    obtain ⟨g2, g3, g4⟩ := zt_post_v (v' := v1) hO ⟨g2, g3, g4⟩
    refine ⟨v, N, ?_, g2, g3, g4⟩
    unfold zm_F
    rw [Nat.ble_eq.mpr hle]
    exact g1
  · cases h2
end
section
/-! CALLS IN A TABLE'S RUN, by what the callee gives -/
def zm_sub2 (bs : List (Nat × Nat)) (M : zm_I) : zm_I := (fun n => M.1 (zm_fw bs n), fun n => M.2 (zm_fw bs n))
theorem zm_app_s {C : zm_C} {wl : zm_L} {as : List Value} {M : zm_I} {k : Option Value → zm_I → zm_R} {v : Option Value} {N : zm_I} (hr : zm_recv wl as C.2.1 = true) (hs : C.2.2.1 = true) (h : C.2.2.2.2 wl as M = some (v, N)) : zm_app C wl as M k = k v N := by
  simp only [zm_app, hr, hs, h]
theorem zm_app_l {C : zm_C} {wl wc : zm_L} {as ac : List Value} {M : zm_I} {k : Option Value → zm_I → zm_R} {v : Option Value} {N : zm_I} {bs : List (Nat × Nat)} (hr : zm_recv wl as C.2.1 = true) (hs : C.2.2.1 = false) (hb : zm_blocks as C.2.2.2.1 = some bs) (hd : (zm_dis bs && zm_bound wl.length bs) = true) (hw : zm_sub bs wl = wc) (ha : as.map (zm_tr bs) = ac) (h : C.2.2.2.2 wc ac (zm_sub2 bs M) = some (v, N)) : zm_app C wl as M k = k (v.map (zm_bk bs)) (zm_mrg bs M N) := by
  subst hw ha
  have h : C.2.2.2.2 (zm_sub bs wl) (as.map (zm_tr bs)) (fun n => M.1 (zm_fw bs n), fun n => M.2 (zm_fw bs n)) = some (v, N) := h
  simp only [zm_app, hr, hs, hb, hd, h]
/-- a callee that writes nothing -/
theorem zm_mrg_id (bs : List (Nat × Nat)) (M : zm_I) : zm_mrg bs M (zm_sub2 bs M) = M := by
  apply Prod.ext
  · funext n i
    simp only [zm_mrg, zm_sub2]
    split
    · rw [zm_fw_iv]
    · rfl
  · funext n i
    simp only [zm_mrg, zm_sub2]
    split
    · rw [zm_fw_iv]
    · rfl
end
section
/-! WORLDS, printed by program (wip/abs/ztprint.py) -/
noncomputable def zj (lo hi : Int) : zt_A := (0, lo, hi, 1, [])
noncomputable def zjr (n : Nat) : zt_A := (2, .ofNat n, .ofNat 0, 0, [])
noncomputable def zo_w0 : zm_L := [(.inl 8, [.ref 1]), (.inr (.int, 800), [])]
noncomputable def zo_g0 : zt_G := [[(.ofNat 0, .ofNat 0), (.ofNat 0, .ofNat 800), (.ofNat 0, .ofNat 3), (.negSucc 0, .ofNat 800), (.ofNat 0, .ofNat 4), (.ofNat 0, .ofNat 800), (.ofNat 0, .ofNat 800)], [(.ofNat 0, .ofNat 255)]]
noncomputable def zo_w1 : zm_L := [(.inl 9, [.ref 51, .ref 1, .ref 11, .ref 328, .ref 53, .ref 21, .ref 32, .ref 43, .ref 68, .ref 72, .ref 63, .ref 66, .ref 62]), (.inl 0, [.null, .null, .null, .null, .null, .null, .null, .null, .ref 2, .ref 3, .ref 4, .ref 5, .ref 6, .ref 7, .ref 8, .ref 9, .ref 10]), (.inr (.int, 6), []), (.inr (.int, 5), []), (.inr (.int, 5), []), (.inr (.int, 5), []), (.inr (.int, 5), []), (.inr (.int, 5), []), (.inr (.int, 41), []), (.inr (.int, 41), []), (.inr (.int, 41), []), (.inl 0, [.null, .null, .null, .null, .null, .null, .null, .null, .ref 12, .ref 13, .ref 14, .ref 15, .ref 16, .ref 17, .ref 18, .ref 19, .ref 20]), (.inr (.int, 6), []), (.inr (.int, 5), []), (.inr (.int, 5), []), (.inr (.int, 5), []), (.inr (.int, 5), []), (.inr (.int, 5), []), (.inr (.int, 41), []), (.inr (.int, 41), []), (.inr (.int, 41), []), (.inl 3, [.ref 22, .null, .ref 30, .ref 31]), (.inl 2, [.ref 23, .ref 24, .ref 25, .ref 26, .ref 27, .ref 28, .ref 29]), (.inr (.int, 5), []), (.inr (.int, 5), []), (.inr (.int, 5), []), (.inr (.int, 5), []), (.inr (.int, 5), []), (.inr (.int, 5), []), (.inr (.int, 6), []), (.inr (.int, 305), []), (.inr (.int, 305), []), (.inl 3, [.ref 33, .null, .ref 41, .ref 42]), (.inl 2, [.ref 34, .ref 35, .ref 36, .ref 37, .ref 38, .ref 39, .ref 40]), (.inr (.int, 5), []), (.inr (.int, 5), []), (.inr (.int, 5), []), (.inr (.int, 5), []), (.inr (.int, 5), []), (.inr (.int, 5), []), (.inr (.int, 6), []), (.inr (.int, 305), []), (.inr (.int, 305), []), (.inl 2, [.ref 44, .ref 45, .ref 46, .ref 47, .ref 48, .ref 49, .ref 50]), (.inr (.int, 5), []), (.inr (.int, 5), []), (.inr (.int, 5), []), (.inr (.int, 5), []), (.inr (.int, 5), []), (.inr (.int, 5), []), (.inr (.int, 6), []), (.inl 8, [.ref 52]), (.inr (.int, 800), []), (.inr (.object "WearingBench$Row", 4), [.ref 54, .ref 56, .ref 58, .ref 60]), (.inl 7, [.null, .null, .ref 55]), (.inr (.long, 60), []), (.inl 7, [.null, .null, .ref 57]), (.inr (.long, 60), []), (.inl 7, [.null, .null, .ref 59]), (.inr (.long, 60), []), (.inl 7, [.null, .null, .ref 61]), (.inr (.long, 60), []), (.inr (.int, 366), []), (.inl 5, [.null, .ref 64, .ref 65]), (.inr (.int, 10), []), (.inr (.int, 10), []), (.inl 4, [.null, .null, .ref 67]), (.inr (.int, 36), []), (.inl 6, [.null, .null, .null, .ref 69, .ref 70, .ref 71]), (.inr (.int, 5), []), (.inr (.int, 5), []), (.inr (.int, 5), []), (.inl 1, [.null, .ref 73, .ref 74, .ref 75]), (.inr (.long, 50), []), (.inr (.long, 50), []), (.inr (.object "WearingBench$Day", 11), [.ref 76, .ref 84, .ref 92, .ref 100, .ref 108, .ref 116, .ref 124, .ref 132, .ref 140, .ref 148, .ref 156]), (.inl 2, [.ref 77, .ref 78, .ref 79, .ref 80, .ref 81, .ref 82, .ref 83]), (.inr (.int, 5), []), (.inr (.int, 5), []), (.inr (.int, 5), []), (.inr (.int, 5), []), (.inr (.int, 5), []), (.inr (.int, 5), []), (.inr (.int, 6), []), (.inl 2, [.ref 85, .ref 86, .ref 87, .ref 88, .ref 89, .ref 90, .ref 91]), (.inr (.int, 5), []), (.inr (.int, 5), []), (.inr (.int, 5), []), (.inr (.int, 5), []), (.inr (.int, 5), []), (.inr (.int, 5), []), (.inr (.int, 6), []), (.inl 2, [.ref 93, .ref 94, .ref 95, .ref 96, .ref 97, .ref 98, .ref 99]), (.inr (.int, 5), []), (.inr (.int, 5), []), (.inr (.int, 5), []), (.inr (.int, 5), []), (.inr (.int, 5), []), (.inr (.int, 5), []), (.inr (.int, 6), []), (.inl 2, [.ref 101, .ref 102, .ref 103, .ref 104, .ref 105, .ref 106, .ref 107]), (.inr (.int, 5), []), (.inr (.int, 5), []), (.inr (.int, 5), []), (.inr (.int, 5), []), (.inr (.int, 5), []), (.inr (.int, 5), []), (.inr (.int, 6), []), (.inl 2, [.ref 109, .ref 110, .ref 111, .ref 112, .ref 113, .ref 114, .ref 115]), (.inr (.int, 5), []), (.inr (.int, 5), []), (.inr (.int, 5), []), (.inr (.int, 5), []), (.inr (.int, 5), []), (.inr (.int, 5), []), (.inr (.int, 6), []), (.inl 2, [.ref 117, .ref 118, .ref 119, .ref 120, .ref 121, .ref 122, .ref 123]), (.inr (.int, 5), []), (.inr (.int, 5), []), (.inr (.int, 5), []), (.inr (.int, 5), []), (.inr (.int, 5), []), (.inr (.int, 5), []), (.inr (.int, 6), []), (.inl 2, [.ref 125, .ref 126, .ref 127, .ref 128, .ref 129, .ref 130, .ref 131]), (.inr (.int, 5), []), (.inr (.int, 5), []), (.inr (.int, 5), []), (.inr (.int, 5), []), (.inr (.int, 5), []), (.inr (.int, 5), []), (.inr (.int, 6), []), (.inl 2, [.ref 133, .ref 134, .ref 135, .ref 136, .ref 137, .ref 138, .ref 139]), (.inr (.int, 5), []), (.inr (.int, 5), []), (.inr (.int, 5), []), (.inr (.int, 5), []), (.inr (.int, 5), []), (.inr (.int, 5), []), (.inr (.int, 6), []), (.inl 2, [.ref 141, .ref 142, .ref 143, .ref 144, .ref 145, .ref 146, .ref 147]), (.inr (.int, 5), []), (.inr (.int, 5), []), (.inr (.int, 5), []), (.inr (.int, 5), []), (.inr (.int, 5), []), (.inr (.int, 5), []), (.inr (.int, 6), []), (.inl 2, [.ref 149, .ref 150, .ref 151, .ref 152, .ref 153, .ref 154, .ref 155]), (.inr (.int, 5), []), (.inr (.int, 5), []), (.inr (.int, 5), []), (.inr (.int, 5), []), (.inr (.int, 5), []), (.inr (.int, 5), []), (.inr (.int, 6), []), (.inl 2, [.ref 157, .ref 158, .ref 159, .ref 160, .ref 161, .ref 162, .ref 163]), (.inr (.int, 5), []), (.inr (.int, 5), []), (.inr (.int, 5), []), (.inr (.int, 5), []), (.inr (.int, 5), []), (.inr (.int, 5), []), (.inr (.int, 6), [])]
noncomputable def zo_g1 : zt_G := [[(.ofNat 0, .ofNat 0), (.ofNat 0, .ofNat 0), (.ofNat 0, .ofNat 0), (.ofNat 0, .ofNat 0), (.ofNat 0, .ofNat 0), (.ofNat 0, .ofNat 0), (.ofNat 0, .ofNat 0), (.ofNat 0, .ofNat 0), (.ofNat 0, .ofNat 0), (.ofNat 0, .ofNat 0), (.ofNat 0, .ofNat 0), (.ofNat 0, .ofNat 0), (.ofNat 0, .ofNat 0)], [(.negSucc 2147483647, .ofNat 2147483647), (.ofNat 0, .ofNat 3), (.ofNat 0, .ofNat 99), (.ofNat 0, .ofNat 30), (.ofNat 0, .ofNat 10), (.ofNat 0, .ofNat 6), (.ofNat 0, .ofNat 5), (.ofNat 0, .ofNat 41), (.ofNat 0, .ofNat 0), (.ofNat 0, .ofNat 0), (.ofNat 0, .ofNat 0), (.ofNat 0, .ofNat 0), (.ofNat 0, .ofNat 0), (.ofNat 0, .ofNat 0), (.ofNat 0, .ofNat 0), (.ofNat 0, .ofNat 0), (.ofNat 0, .ofNat 0)], [(.negSucc 8, .ofNat 9)], [(.ofNat 0, .ofNat 99)], [(.ofNat 0, .ofNat 61)], [(.ofNat 0, .ofNat 5)], [(.ofNat 0, .ofNat 99)], [(.ofNat 0, .ofNat 99)], [(.ofNat 0, .ofNat 4)], [(.ofNat 0, .ofNat 5)], [(.ofNat 0, .ofNat 60)], [(.negSucc 2147483647, .ofNat 2147483647), (.ofNat 0, .ofNat 3), (.ofNat 0, .ofNat 99), (.ofNat 0, .ofNat 30), (.ofNat 0, .ofNat 10), (.ofNat 0, .ofNat 6), (.ofNat 0, .ofNat 5), (.ofNat 0, .ofNat 41), (.ofNat 0, .ofNat 0), (.ofNat 0, .ofNat 0), (.ofNat 0, .ofNat 0), (.ofNat 0, .ofNat 0), (.ofNat 0, .ofNat 0), (.ofNat 0, .ofNat 0), (.ofNat 0, .ofNat 0), (.ofNat 0, .ofNat 0), (.ofNat 0, .ofNat 0)], [(.negSucc 8, .ofNat 9)], [(.ofNat 0, .ofNat 99)], [(.ofNat 0, .ofNat 61)], [(.ofNat 0, .ofNat 5)], [(.ofNat 0, .ofNat 99)], [(.ofNat 0, .ofNat 99)], [(.ofNat 0, .ofNat 4)], [(.ofNat 0, .ofNat 5)], [(.ofNat 0, .ofNat 60)], [(.ofNat 0, .ofNat 0), (.ofNat 0, .ofNat 1), (.ofNat 0, .ofNat 0), (.ofNat 0, .ofNat 0)], [(.ofNat 0, .ofNat 0), (.ofNat 0, .ofNat 0), (.ofNat 0, .ofNat 0), (.ofNat 0, .ofNat 0), (.ofNat 0, .ofNat 0), (.ofNat 0, .ofNat 0), (.ofNat 0, .ofNat 0), (.negSucc 2147483647, .ofNat 2147483647), (.ofNat 0, .ofNat 0), (.ofNat 0, .ofNat 0)], [(.negSucc 2, .ofNat 5)], [(.ofNat 0, .ofNat 99)], [(.negSucc 0, .ofNat 5)], [(.negSucc 2147483647, .ofNat 2147483647)], [(.negSucc 2147483647, .ofNat 2147483647)], [(.ofNat 0, .ofNat 99)], [(.negSucc 0, .ofNat 4)], [(.negSucc 0, .ofNat 99)], [(.negSucc 0, .ofNat 5)], [(.ofNat 0, .ofNat 0), (.ofNat 0, .ofNat 1), (.ofNat 0, .ofNat 0), (.ofNat 0, .ofNat 0)], [(.ofNat 0, .ofNat 0), (.ofNat 0, .ofNat 0), (.ofNat 0, .ofNat 0), (.ofNat 0, .ofNat 0), (.ofNat 0, .ofNat 0), (.ofNat 0, .ofNat 0), (.ofNat 0, .ofNat 0), (.negSucc 2147483647, .ofNat 2147483647), (.ofNat 0, .ofNat 0), (.ofNat 0, .ofNat 0)], [(.negSucc 2, .ofNat 5)], [(.ofNat 0, .ofNat 99)], [(.negSucc 0, .ofNat 5)], [(.negSucc 2147483647, .ofNat 2147483647)], [(.negSucc 2147483647, .ofNat 2147483647)], [(.ofNat 0, .ofNat 99)], [(.negSucc 0, .ofNat 4)], [(.negSucc 0, .ofNat 99)], [(.negSucc 0, .ofNat 5)], [(.ofNat 0, .ofNat 0), (.ofNat 0, .ofNat 0), (.ofNat 0, .ofNat 0), (.ofNat 0, .ofNat 0), (.ofNat 0, .ofNat 0), (.ofNat 0, .ofNat 0), (.ofNat 0, .ofNat 0), (.negSucc 2147483647, .ofNat 2147483647), (.ofNat 0, .ofNat 0), (.ofNat 0, .ofNat 0)], [(.negSucc 2, .ofNat 5)], [(.ofNat 0, .ofNat 99)], [(.negSucc 0, .ofNat 5)], [(.negSucc 2147483647, .ofNat 2147483647)], [(.negSucc 2147483647, .ofNat 2147483647)], [(.ofNat 0, .ofNat 99)], [(.negSucc 0, .ofNat 4)], [(.ofNat 0, .ofNat 0), (.ofNat 0, .ofNat 800), (.ofNat 0, .ofNat 3), (.negSucc 0, .ofNat 800), (.ofNat 0, .ofNat 4), (.ofNat 0, .ofNat 800), (.ofNat 0, .ofNat 800)], [(.ofNat 0, .ofNat 255)], [(.ofNat 0, .ofNat 0)], [(.negSucc 0, .ofNat 3), (.ofNat 0, .ofNat 60), (.ofNat 0, .ofNat 0)], [(.ofNat 0, .ofNat 0)], [(.negSucc 0, .ofNat 3), (.ofNat 0, .ofNat 60), (.ofNat 0, .ofNat 0)], [(.ofNat 0, .ofNat 0)], [(.negSucc 0, .ofNat 3), (.ofNat 0, .ofNat 60), (.ofNat 0, .ofNat 0)], [(.ofNat 0, .ofNat 0)], [(.negSucc 0, .ofNat 3), (.ofNat 0, .ofNat 60), (.ofNat 0, .ofNat 0)], [(.ofNat 0, .ofNat 0)], [(.negSucc 0, .ofNat 99)], [(.ofNat 0, .ofNat 1), (.ofNat 0, .ofNat 0), (.ofNat 0, .ofNat 0)], [(.ofNat 0, .ofNat 9)], [(.negSucc 2147483647, .ofNat 2147483647)], [(.negSucc 2147483647, .ofNat 2147483647), (.negSucc 2147483647, .ofNat 2147483647), (.ofNat 0, .ofNat 0)], [(.negSucc 2147483647, .ofNat 2147483647)], [(.ofNat 0, .ofNat 1), (.negSucc 2147483647, .ofNat 2147483647), (.negSucc 2147483647, .ofNat 2147483647), (.ofNat 0, .ofNat 0), (.ofNat 0, .ofNat 0), (.ofNat 0, .ofNat 0), (.negSucc 2147483647, .ofNat 2147483647)], [(.ofNat 0, .ofNat 5)], [(.ofNat 0, .ofNat 4)], [(.ofNat 0, .ofNat 5)], [(.ofNat 0, .ofNat 1), (.ofNat 0, .ofNat 0), (.ofNat 0, .ofNat 0), (.ofNat 0, .ofNat 0), (.ofNat 0, .ofNat 10)], [(.ofNat 0, .ofNat 0)], [(.ofNat 0, .ofNat 0)], [(.ofNat 0, .ofNat 0)], [(.ofNat 0, .ofNat 0), (.ofNat 0, .ofNat 0), (.ofNat 0, .ofNat 0), (.ofNat 0, .ofNat 0), (.ofNat 0, .ofNat 0), (.ofNat 0, .ofNat 0), (.ofNat 0, .ofNat 0), (.negSucc 2147483647, .ofNat 2147483647), (.ofNat 0, .ofNat 0), (.ofNat 0, .ofNat 0)], [(.negSucc 2, .ofNat 5)], [(.ofNat 0, .ofNat 99)], [(.negSucc 0, .ofNat 5)], [(.negSucc 2147483647, .ofNat 2147483647)], [(.negSucc 2147483647, .ofNat 2147483647)], [(.ofNat 0, .ofNat 99)], [(.negSucc 0, .ofNat 4)], [(.ofNat 0, .ofNat 0), (.ofNat 0, .ofNat 0), (.ofNat 0, .ofNat 0), (.ofNat 0, .ofNat 0), (.ofNat 0, .ofNat 0), (.ofNat 0, .ofNat 0), (.ofNat 0, .ofNat 0), (.negSucc 2147483647, .ofNat 2147483647), (.ofNat 0, .ofNat 0), (.ofNat 0, .ofNat 0)], [(.negSucc 2, .ofNat 5)], [(.ofNat 0, .ofNat 99)], [(.negSucc 0, .ofNat 5)], [(.negSucc 2147483647, .ofNat 2147483647)], [(.negSucc 2147483647, .ofNat 2147483647)], [(.ofNat 0, .ofNat 99)], [(.negSucc 0, .ofNat 4)], [(.ofNat 0, .ofNat 0), (.ofNat 0, .ofNat 0), (.ofNat 0, .ofNat 0), (.ofNat 0, .ofNat 0), (.ofNat 0, .ofNat 0), (.ofNat 0, .ofNat 0), (.ofNat 0, .ofNat 0), (.negSucc 2147483647, .ofNat 2147483647), (.ofNat 0, .ofNat 0), (.ofNat 0, .ofNat 0)], [(.negSucc 2, .ofNat 5)], [(.ofNat 0, .ofNat 99)], [(.negSucc 0, .ofNat 5)], [(.negSucc 2147483647, .ofNat 2147483647)], [(.negSucc 2147483647, .ofNat 2147483647)], [(.ofNat 0, .ofNat 99)], [(.negSucc 0, .ofNat 4)], [(.ofNat 0, .ofNat 0), (.ofNat 0, .ofNat 0), (.ofNat 0, .ofNat 0), (.ofNat 0, .ofNat 0), (.ofNat 0, .ofNat 0), (.ofNat 0, .ofNat 0), (.ofNat 0, .ofNat 0), (.negSucc 2147483647, .ofNat 2147483647), (.ofNat 0, .ofNat 0), (.ofNat 0, .ofNat 0)], [(.negSucc 2, .ofNat 5)], [(.ofNat 0, .ofNat 99)], [(.negSucc 0, .ofNat 5)], [(.negSucc 2147483647, .ofNat 2147483647)], [(.negSucc 2147483647, .ofNat 2147483647)], [(.ofNat 0, .ofNat 99)], [(.negSucc 0, .ofNat 4)], [(.ofNat 0, .ofNat 0), (.ofNat 0, .ofNat 0), (.ofNat 0, .ofNat 0), (.ofNat 0, .ofNat 0), (.ofNat 0, .ofNat 0), (.ofNat 0, .ofNat 0), (.ofNat 0, .ofNat 0), (.negSucc 2147483647, .ofNat 2147483647), (.ofNat 0, .ofNat 0), (.ofNat 0, .ofNat 0)], [(.negSucc 2, .ofNat 5)], [(.ofNat 0, .ofNat 99)], [(.negSucc 0, .ofNat 5)], [(.negSucc 2147483647, .ofNat 2147483647)], [(.negSucc 2147483647, .ofNat 2147483647)], [(.ofNat 0, .ofNat 99)], [(.negSucc 0, .ofNat 4)], [(.ofNat 0, .ofNat 0), (.ofNat 0, .ofNat 0), (.ofNat 0, .ofNat 0), (.ofNat 0, .ofNat 0), (.ofNat 0, .ofNat 0), (.ofNat 0, .ofNat 0), (.ofNat 0, .ofNat 0), (.negSucc 2147483647, .ofNat 2147483647), (.ofNat 0, .ofNat 0), (.ofNat 0, .ofNat 0)], [(.negSucc 2, .ofNat 5)], [(.ofNat 0, .ofNat 99)], [(.negSucc 0, .ofNat 5)], [(.negSucc 2147483647, .ofNat 2147483647)], [(.negSucc 2147483647, .ofNat 2147483647)], [(.ofNat 0, .ofNat 99)], [(.negSucc 0, .ofNat 4)], [(.ofNat 0, .ofNat 0), (.ofNat 0, .ofNat 0), (.ofNat 0, .ofNat 0), (.ofNat 0, .ofNat 0), (.ofNat 0, .ofNat 0), (.ofNat 0, .ofNat 0), (.ofNat 0, .ofNat 0), (.negSucc 2147483647, .ofNat 2147483647), (.ofNat 0, .ofNat 0), (.ofNat 0, .ofNat 0)], [(.negSucc 2, .ofNat 5)], [(.ofNat 0, .ofNat 99)], [(.negSucc 0, .ofNat 5)], [(.negSucc 2147483647, .ofNat 2147483647)], [(.negSucc 2147483647, .ofNat 2147483647)], [(.ofNat 0, .ofNat 99)], [(.negSucc 0, .ofNat 4)], [(.ofNat 0, .ofNat 0), (.ofNat 0, .ofNat 0), (.ofNat 0, .ofNat 0), (.ofNat 0, .ofNat 0), (.ofNat 0, .ofNat 0), (.ofNat 0, .ofNat 0), (.ofNat 0, .ofNat 0), (.negSucc 2147483647, .ofNat 2147483647), (.ofNat 0, .ofNat 0), (.ofNat 0, .ofNat 0)], [(.negSucc 2, .ofNat 5)], [(.ofNat 0, .ofNat 99)], [(.negSucc 0, .ofNat 5)], [(.negSucc 2147483647, .ofNat 2147483647)], [(.negSucc 2147483647, .ofNat 2147483647)], [(.ofNat 0, .ofNat 99)], [(.negSucc 0, .ofNat 4)], [(.ofNat 0, .ofNat 0), (.ofNat 0, .ofNat 0), (.ofNat 0, .ofNat 0), (.ofNat 0, .ofNat 0), (.ofNat 0, .ofNat 0), (.ofNat 0, .ofNat 0), (.ofNat 0, .ofNat 0), (.negSucc 2147483647, .ofNat 2147483647), (.ofNat 0, .ofNat 0), (.ofNat 0, .ofNat 0)], [(.negSucc 2, .ofNat 5)], [(.ofNat 0, .ofNat 99)], [(.negSucc 0, .ofNat 5)], [(.negSucc 2147483647, .ofNat 2147483647)], [(.negSucc 2147483647, .ofNat 2147483647)], [(.ofNat 0, .ofNat 99)], [(.negSucc 0, .ofNat 4)], [(.ofNat 0, .ofNat 0), (.ofNat 0, .ofNat 0), (.ofNat 0, .ofNat 0), (.ofNat 0, .ofNat 0), (.ofNat 0, .ofNat 0), (.ofNat 0, .ofNat 0), (.ofNat 0, .ofNat 0), (.negSucc 2147483647, .ofNat 2147483647), (.ofNat 0, .ofNat 0), (.ofNat 0, .ofNat 0)], [(.negSucc 2, .ofNat 5)], [(.ofNat 0, .ofNat 99)], [(.negSucc 0, .ofNat 5)], [(.negSucc 2147483647, .ofNat 2147483647)], [(.negSucc 2147483647, .ofNat 2147483647)], [(.ofNat 0, .ofNat 99)], [(.negSucc 0, .ofNat 4)], [(.ofNat 0, .ofNat 0), (.ofNat 0, .ofNat 0), (.ofNat 0, .ofNat 0), (.ofNat 0, .ofNat 0), (.ofNat 0, .ofNat 0), (.ofNat 0, .ofNat 0), (.ofNat 0, .ofNat 0), (.negSucc 2147483647, .ofNat 2147483647), (.ofNat 0, .ofNat 0), (.ofNat 0, .ofNat 0)], [(.negSucc 2, .ofNat 5)], [(.ofNat 0, .ofNat 99)], [(.negSucc 0, .ofNat 5)], [(.negSucc 2147483647, .ofNat 2147483647)], [(.negSucc 2147483647, .ofNat 2147483647)], [(.ofNat 0, .ofNat 99)], [(.negSucc 0, .ofNat 4)]]
noncomputable def zo_w2 : zm_L := [(.inl 0, [.null, .null, .null, .null, .null, .null, .null, .null, .ref 1, .ref 2, .ref 3, .ref 4, .ref 5, .ref 6, .ref 7, .ref 8, .ref 9]), (.inr (.int, 6), []), (.inr (.int, 5), []), (.inr (.int, 5), []), (.inr (.int, 5), []), (.inr (.int, 5), []), (.inr (.int, 5), []), (.inr (.int, 41), []), (.inr (.int, 41), []), (.inr (.int, 41), [])]
noncomputable def zo_g2 : zt_G := [[(.negSucc 2147483647, .ofNat 2147483647), (.ofNat 0, .ofNat 3), (.ofNat 0, .ofNat 99), (.ofNat 0, .ofNat 30), (.ofNat 0, .ofNat 10), (.ofNat 0, .ofNat 6), (.ofNat 0, .ofNat 5), (.ofNat 0, .ofNat 41), (.ofNat 0, .ofNat 0), (.ofNat 0, .ofNat 0), (.ofNat 0, .ofNat 0), (.ofNat 0, .ofNat 0), (.ofNat 0, .ofNat 0), (.ofNat 0, .ofNat 0), (.ofNat 0, .ofNat 0), (.ofNat 0, .ofNat 0), (.ofNat 0, .ofNat 0)], [(.negSucc 8, .ofNat 9)], [(.ofNat 0, .ofNat 99)], [(.ofNat 0, .ofNat 61)], [(.ofNat 0, .ofNat 5)], [(.ofNat 0, .ofNat 99)], [(.ofNat 0, .ofNat 99)], [(.ofNat 0, .ofNat 4)], [(.ofNat 0, .ofNat 5)], [(.ofNat 0, .ofNat 60)]]
noncomputable def zo_w3 : zm_L := [(.inl 8, [.ref 1]), (.inr (.int, 800), []), (.inl 0, [.null, .null, .null, .null, .null, .null, .null, .null, .ref 3, .ref 4, .ref 5, .ref 6, .ref 7, .ref 8, .ref 9, .ref 10, .ref 11]), (.inr (.int, 6), []), (.inr (.int, 5), []), (.inr (.int, 5), []), (.inr (.int, 5), []), (.inr (.int, 5), []), (.inr (.int, 5), []), (.inr (.int, 41), []), (.inr (.int, 41), []), (.inr (.int, 41), [])]
noncomputable def zo_g3 : zt_G := [[(.ofNat 0, .ofNat 0), (.ofNat 0, .ofNat 800), (.ofNat 0, .ofNat 3), (.negSucc 0, .ofNat 800), (.ofNat 0, .ofNat 4), (.ofNat 0, .ofNat 800), (.ofNat 0, .ofNat 800)], [(.ofNat 0, .ofNat 255)], [(.negSucc 2147483647, .ofNat 2147483647), (.ofNat 0, .ofNat 3), (.ofNat 0, .ofNat 99), (.ofNat 0, .ofNat 30), (.ofNat 0, .ofNat 10), (.ofNat 0, .ofNat 6), (.ofNat 0, .ofNat 5), (.ofNat 0, .ofNat 41), (.ofNat 0, .ofNat 0), (.ofNat 0, .ofNat 0), (.ofNat 0, .ofNat 0), (.ofNat 0, .ofNat 0), (.ofNat 0, .ofNat 0), (.ofNat 0, .ofNat 0), (.ofNat 0, .ofNat 0), (.ofNat 0, .ofNat 0), (.ofNat 0, .ofNat 0)], [(.negSucc 8, .ofNat 9)], [(.ofNat 0, .ofNat 99)], [(.ofNat 0, .ofNat 61)], [(.ofNat 0, .ofNat 5)], [(.ofNat 0, .ofNat 99)], [(.ofNat 0, .ofNat 99)], [(.ofNat 0, .ofNat 4)], [(.ofNat 0, .ofNat 5)], [(.ofNat 0, .ofNat 60)]]
noncomputable def zo_w4 : zm_L := [(.inl 0, [.null, .null, .null, .null, .null, .null, .null, .null, .ref 1, .ref 2, .ref 3, .ref 4, .ref 5, .ref 6, .ref 7, .ref 8, .ref 9]), (.inr (.int, 6), []), (.inr (.int, 5), []), (.inr (.int, 5), []), (.inr (.int, 5), []), (.inr (.int, 5), []), (.inr (.int, 5), []), (.inr (.int, 41), []), (.inr (.int, 41), []), (.inr (.int, 41), []), (.inl 0, [.null, .null, .null, .null, .null, .null, .null, .null, .ref 11, .ref 12, .ref 13, .ref 14, .ref 15, .ref 16, .ref 17, .ref 18, .ref 19]), (.inr (.int, 6), []), (.inr (.int, 5), []), (.inr (.int, 5), []), (.inr (.int, 5), []), (.inr (.int, 5), []), (.inr (.int, 5), []), (.inr (.int, 41), []), (.inr (.int, 41), []), (.inr (.int, 41), [])]
noncomputable def zo_g4 : zt_G := [[(.negSucc 2147483647, .ofNat 2147483647), (.ofNat 0, .ofNat 3), (.ofNat 0, .ofNat 99), (.ofNat 0, .ofNat 30), (.ofNat 0, .ofNat 10), (.ofNat 0, .ofNat 6), (.ofNat 0, .ofNat 5), (.ofNat 0, .ofNat 41), (.ofNat 0, .ofNat 0), (.ofNat 0, .ofNat 0), (.ofNat 0, .ofNat 0), (.ofNat 0, .ofNat 0), (.ofNat 0, .ofNat 0), (.ofNat 0, .ofNat 0), (.ofNat 0, .ofNat 0), (.ofNat 0, .ofNat 0), (.ofNat 0, .ofNat 0)], [(.negSucc 8, .ofNat 9)], [(.ofNat 0, .ofNat 99)], [(.ofNat 0, .ofNat 61)], [(.ofNat 0, .ofNat 5)], [(.ofNat 0, .ofNat 99)], [(.ofNat 0, .ofNat 99)], [(.ofNat 0, .ofNat 4)], [(.ofNat 0, .ofNat 5)], [(.ofNat 0, .ofNat 60)], [(.negSucc 2147483647, .ofNat 2147483647), (.ofNat 0, .ofNat 3), (.ofNat 0, .ofNat 99), (.ofNat 0, .ofNat 30), (.ofNat 0, .ofNat 10), (.ofNat 0, .ofNat 6), (.ofNat 0, .ofNat 5), (.ofNat 0, .ofNat 41), (.ofNat 0, .ofNat 0), (.ofNat 0, .ofNat 0), (.ofNat 0, .ofNat 0), (.ofNat 0, .ofNat 0), (.ofNat 0, .ofNat 0), (.ofNat 0, .ofNat 0), (.ofNat 0, .ofNat 0), (.ofNat 0, .ofNat 0), (.ofNat 0, .ofNat 0)], [(.negSucc 8, .ofNat 9)], [(.ofNat 0, .ofNat 99)], [(.ofNat 0, .ofNat 61)], [(.ofNat 0, .ofNat 5)], [(.ofNat 0, .ofNat 99)], [(.ofNat 0, .ofNat 99)], [(.ofNat 0, .ofNat 4)], [(.ofNat 0, .ofNat 5)], [(.ofNat 0, .ofNat 60)]]
noncomputable def zo_w5 : zm_L := [(.inr (.int, 305), [])]
noncomputable def zo_g5 : zt_G := [[(.negSucc 0, .ofNat 99)]]
noncomputable def zo_w6 : zm_L := [(.inr (.int, 305), [])]
noncomputable def zo_g6 : zt_G := [[(.negSucc 0, .ofNat 5)]]
noncomputable def zo_w7 : zm_L := [(.inl 2, [.ref 1, .ref 2, .ref 3, .ref 4, .ref 5, .ref 6, .ref 7]), (.inr (.int, 5), []), (.inr (.int, 5), []), (.inr (.int, 5), []), (.inr (.int, 5), []), (.inr (.int, 5), []), (.inr (.int, 5), []), (.inr (.int, 6), []), (.inl 0, [.null, .null, .null, .null, .null, .null, .null, .null, .ref 9, .ref 10, .ref 11, .ref 12, .ref 13, .ref 14, .ref 15, .ref 16, .ref 17]), (.inr (.int, 6), []), (.inr (.int, 5), []), (.inr (.int, 5), []), (.inr (.int, 5), []), (.inr (.int, 5), []), (.inr (.int, 5), []), (.inr (.int, 41), []), (.inr (.int, 41), []), (.inr (.int, 41), [])]
noncomputable def zo_g7 : zt_G := [[(.ofNat 0, .ofNat 0), (.ofNat 0, .ofNat 0), (.ofNat 0, .ofNat 0), (.ofNat 0, .ofNat 0), (.ofNat 0, .ofNat 0), (.ofNat 0, .ofNat 0), (.ofNat 0, .ofNat 0), (.negSucc 2147483647, .ofNat 2147483647), (.ofNat 0, .ofNat 0), (.ofNat 0, .ofNat 0)], [(.negSucc 2, .ofNat 5)], [(.ofNat 0, .ofNat 99)], [(.negSucc 0, .ofNat 5)], [(.negSucc 2147483647, .ofNat 2147483647)], [(.negSucc 2147483647, .ofNat 2147483647)], [(.ofNat 0, .ofNat 99)], [(.negSucc 0, .ofNat 4)], [(.negSucc 2147483647, .ofNat 2147483647), (.ofNat 0, .ofNat 3), (.ofNat 0, .ofNat 99), (.ofNat 0, .ofNat 30), (.ofNat 0, .ofNat 10), (.ofNat 0, .ofNat 6), (.ofNat 0, .ofNat 5), (.ofNat 0, .ofNat 41), (.ofNat 0, .ofNat 0), (.ofNat 0, .ofNat 0), (.ofNat 0, .ofNat 0), (.ofNat 0, .ofNat 0), (.ofNat 0, .ofNat 0), (.ofNat 0, .ofNat 0), (.ofNat 0, .ofNat 0), (.ofNat 0, .ofNat 0), (.ofNat 0, .ofNat 0)], [(.negSucc 8, .ofNat 9)], [(.ofNat 0, .ofNat 99)], [(.ofNat 0, .ofNat 61)], [(.ofNat 0, .ofNat 5)], [(.ofNat 0, .ofNat 99)], [(.ofNat 0, .ofNat 99)], [(.ofNat 0, .ofNat 4)], [(.ofNat 0, .ofNat 5)], [(.ofNat 0, .ofNat 60)]]
noncomputable def zo_w8 : zm_L := [(.inl 3, [.ref 1, .null, .ref 9, .ref 10]), (.inl 2, [.ref 2, .ref 3, .ref 4, .ref 5, .ref 6, .ref 7, .ref 8]), (.inr (.int, 5), []), (.inr (.int, 5), []), (.inr (.int, 5), []), (.inr (.int, 5), []), (.inr (.int, 5), []), (.inr (.int, 5), []), (.inr (.int, 6), []), (.inr (.int, 305), []), (.inr (.int, 305), []), (.inl 0, [.null, .null, .null, .null, .null, .null, .null, .null, .ref 12, .ref 13, .ref 14, .ref 15, .ref 16, .ref 17, .ref 18, .ref 19, .ref 20]), (.inr (.int, 6), []), (.inr (.int, 5), []), (.inr (.int, 5), []), (.inr (.int, 5), []), (.inr (.int, 5), []), (.inr (.int, 5), []), (.inr (.int, 41), []), (.inr (.int, 41), []), (.inr (.int, 41), [])]
noncomputable def zo_g8 : zt_G := [[(.ofNat 0, .ofNat 0), (.ofNat 0, .ofNat 1), (.ofNat 0, .ofNat 0), (.ofNat 0, .ofNat 0)], [(.ofNat 0, .ofNat 0), (.ofNat 0, .ofNat 0), (.ofNat 0, .ofNat 0), (.ofNat 0, .ofNat 0), (.ofNat 0, .ofNat 0), (.ofNat 0, .ofNat 0), (.ofNat 0, .ofNat 0), (.negSucc 2147483647, .ofNat 2147483647), (.ofNat 0, .ofNat 0), (.ofNat 0, .ofNat 0)], [(.negSucc 2, .ofNat 5)], [(.ofNat 0, .ofNat 99)], [(.negSucc 0, .ofNat 5)], [(.negSucc 2147483647, .ofNat 2147483647)], [(.negSucc 2147483647, .ofNat 2147483647)], [(.ofNat 0, .ofNat 99)], [(.negSucc 0, .ofNat 4)], [(.negSucc 0, .ofNat 99)], [(.negSucc 0, .ofNat 5)], [(.negSucc 2147483647, .ofNat 2147483647), (.ofNat 0, .ofNat 3), (.ofNat 0, .ofNat 99), (.ofNat 0, .ofNat 30), (.ofNat 0, .ofNat 10), (.ofNat 0, .ofNat 6), (.ofNat 0, .ofNat 5), (.ofNat 0, .ofNat 41), (.ofNat 0, .ofNat 0), (.ofNat 0, .ofNat 0), (.ofNat 0, .ofNat 0), (.ofNat 0, .ofNat 0), (.ofNat 0, .ofNat 0), (.ofNat 0, .ofNat 0), (.ofNat 0, .ofNat 0), (.ofNat 0, .ofNat 0), (.ofNat 0, .ofNat 0)], [(.negSucc 8, .ofNat 9)], [(.ofNat 0, .ofNat 99)], [(.ofNat 0, .ofNat 61)], [(.ofNat 0, .ofNat 5)], [(.ofNat 0, .ofNat 99)], [(.ofNat 0, .ofNat 99)], [(.ofNat 0, .ofNat 4)], [(.ofNat 0, .ofNat 5)], [(.ofNat 0, .ofNat 60)]]
noncomputable def zo_w9 : zm_L := [(.inl 3, [.ref 1, .null, .ref 9, .ref 10]), (.inl 2, [.ref 2, .ref 3, .ref 4, .ref 5, .ref 6, .ref 7, .ref 8]), (.inr (.int, 5), []), (.inr (.int, 5), []), (.inr (.int, 5), []), (.inr (.int, 5), []), (.inr (.int, 5), []), (.inr (.int, 5), []), (.inr (.int, 6), []), (.inr (.int, 305), []), (.inr (.int, 305), [])]
noncomputable def zo_g9 : zt_G := [[(.ofNat 0, .ofNat 0), (.ofNat 0, .ofNat 1), (.ofNat 0, .ofNat 0), (.ofNat 0, .ofNat 0)], [(.ofNat 0, .ofNat 0), (.ofNat 0, .ofNat 0), (.ofNat 0, .ofNat 0), (.ofNat 0, .ofNat 0), (.ofNat 0, .ofNat 0), (.ofNat 0, .ofNat 0), (.ofNat 0, .ofNat 0), (.negSucc 2147483647, .ofNat 2147483647), (.ofNat 0, .ofNat 0), (.ofNat 0, .ofNat 0)], [(.negSucc 2, .ofNat 5)], [(.ofNat 0, .ofNat 99)], [(.negSucc 0, .ofNat 5)], [(.negSucc 2147483647, .ofNat 2147483647)], [(.negSucc 2147483647, .ofNat 2147483647)], [(.ofNat 0, .ofNat 99)], [(.negSucc 0, .ofNat 4)], [(.negSucc 0, .ofNat 99)], [(.negSucc 0, .ofNat 5)]]
noncomputable def zo_w10 : zm_L := [(.inl 6, [.null, .null, .null, .ref 1, .ref 2, .ref 3]), (.inr (.int, 5), []), (.inr (.int, 5), []), (.inr (.int, 5), []), (.inl 0, [.null, .null, .null, .null, .null, .null, .null, .null, .ref 5, .ref 6, .ref 7, .ref 8, .ref 9, .ref 10, .ref 11, .ref 12, .ref 13]), (.inr (.int, 6), []), (.inr (.int, 5), []), (.inr (.int, 5), []), (.inr (.int, 5), []), (.inr (.int, 5), []), (.inr (.int, 5), []), (.inr (.int, 41), []), (.inr (.int, 41), []), (.inr (.int, 41), [])]
noncomputable def zo_g10 : zt_G := [[(.ofNat 0, .ofNat 1), (.negSucc 2147483647, .ofNat 2147483647), (.negSucc 2147483647, .ofNat 2147483647), (.ofNat 0, .ofNat 0), (.ofNat 0, .ofNat 0), (.ofNat 0, .ofNat 0), (.negSucc 2147483647, .ofNat 2147483647)], [(.ofNat 0, .ofNat 5)], [(.ofNat 0, .ofNat 4)], [(.ofNat 0, .ofNat 5)], [(.negSucc 2147483647, .ofNat 2147483647), (.ofNat 0, .ofNat 3), (.ofNat 0, .ofNat 99), (.ofNat 0, .ofNat 30), (.ofNat 0, .ofNat 10), (.ofNat 0, .ofNat 6), (.ofNat 0, .ofNat 5), (.ofNat 0, .ofNat 41), (.ofNat 0, .ofNat 0), (.ofNat 0, .ofNat 0), (.ofNat 0, .ofNat 0), (.ofNat 0, .ofNat 0), (.ofNat 0, .ofNat 0), (.ofNat 0, .ofNat 0), (.ofNat 0, .ofNat 0), (.ofNat 0, .ofNat 0), (.ofNat 0, .ofNat 0)], [(.negSucc 8, .ofNat 9)], [(.ofNat 0, .ofNat 99)], [(.ofNat 0, .ofNat 61)], [(.ofNat 0, .ofNat 5)], [(.ofNat 0, .ofNat 99)], [(.ofNat 0, .ofNat 99)], [(.ofNat 0, .ofNat 4)], [(.ofNat 0, .ofNat 5)], [(.ofNat 0, .ofNat 60)]]
noncomputable def zo_w11 : zm_L := [(.inl 6, [.null, .null, .null, .ref 1, .ref 2, .ref 3]), (.inr (.int, 5), []), (.inr (.int, 5), []), (.inr (.int, 5), []), (.inl 0, [.null, .null, .null, .null, .null, .null, .null, .null, .ref 5, .ref 6, .ref 7, .ref 8, .ref 9, .ref 10, .ref 11, .ref 12, .ref 13]), (.inr (.int, 6), []), (.inr (.int, 5), []), (.inr (.int, 5), []), (.inr (.int, 5), []), (.inr (.int, 5), []), (.inr (.int, 5), []), (.inr (.int, 41), []), (.inr (.int, 41), []), (.inr (.int, 41), []), (.inl 2, [.ref 15, .ref 16, .ref 17, .ref 18, .ref 19, .ref 20, .ref 21]), (.inr (.int, 5), []), (.inr (.int, 5), []), (.inr (.int, 5), []), (.inr (.int, 5), []), (.inr (.int, 5), []), (.inr (.int, 5), []), (.inr (.int, 6), [])]
noncomputable def zo_g11 : zt_G := [[(.ofNat 0, .ofNat 1), (.negSucc 2147483647, .ofNat 2147483647), (.negSucc 2147483647, .ofNat 2147483647), (.ofNat 0, .ofNat 0), (.ofNat 0, .ofNat 0), (.ofNat 0, .ofNat 0), (.negSucc 2147483647, .ofNat 2147483647)], [(.ofNat 0, .ofNat 5)], [(.ofNat 0, .ofNat 4)], [(.ofNat 0, .ofNat 5)], [(.negSucc 2147483647, .ofNat 2147483647), (.ofNat 0, .ofNat 3), (.ofNat 0, .ofNat 99), (.ofNat 0, .ofNat 30), (.ofNat 0, .ofNat 10), (.ofNat 0, .ofNat 6), (.ofNat 0, .ofNat 5), (.ofNat 0, .ofNat 41), (.ofNat 0, .ofNat 0), (.ofNat 0, .ofNat 0), (.ofNat 0, .ofNat 0), (.ofNat 0, .ofNat 0), (.ofNat 0, .ofNat 0), (.ofNat 0, .ofNat 0), (.ofNat 0, .ofNat 0), (.ofNat 0, .ofNat 0), (.ofNat 0, .ofNat 0)], [(.negSucc 8, .ofNat 9)], [(.ofNat 0, .ofNat 99)], [(.ofNat 0, .ofNat 61)], [(.ofNat 0, .ofNat 5)], [(.ofNat 0, .ofNat 99)], [(.ofNat 0, .ofNat 99)], [(.ofNat 0, .ofNat 4)], [(.ofNat 0, .ofNat 5)], [(.ofNat 0, .ofNat 60)], [(.ofNat 0, .ofNat 0), (.ofNat 0, .ofNat 0), (.ofNat 0, .ofNat 0), (.ofNat 0, .ofNat 0), (.ofNat 0, .ofNat 0), (.ofNat 0, .ofNat 0), (.ofNat 0, .ofNat 0), (.negSucc 2147483647, .ofNat 2147483647), (.ofNat 0, .ofNat 0), (.ofNat 0, .ofNat 0)], [(.negSucc 2, .ofNat 5)], [(.ofNat 0, .ofNat 99)], [(.negSucc 0, .ofNat 5)], [(.negSucc 2147483647, .ofNat 2147483647)], [(.negSucc 2147483647, .ofNat 2147483647)], [(.ofNat 0, .ofNat 99)], [(.negSucc 0, .ofNat 4)]]
noncomputable def zo_w12 : zm_L := [(.inl 6, [.null, .null, .null, .ref 1, .ref 2, .ref 3]), (.inr (.int, 5), []), (.inr (.int, 5), []), (.inr (.int, 5), []), (.inl 0, [.null, .null, .null, .null, .null, .null, .null, .null, .ref 5, .ref 6, .ref 7, .ref 8, .ref 9, .ref 10, .ref 11, .ref 12, .ref 13]), (.inr (.int, 6), []), (.inr (.int, 5), []), (.inr (.int, 5), []), (.inr (.int, 5), []), (.inr (.int, 5), []), (.inr (.int, 5), []), (.inr (.int, 41), []), (.inr (.int, 41), []), (.inr (.int, 41), []), (.inl 0, [.null, .null, .null, .null, .null, .null, .null, .null, .ref 15, .ref 16, .ref 17, .ref 18, .ref 19, .ref 20, .ref 21, .ref 22, .ref 23]), (.inr (.int, 6), []), (.inr (.int, 5), []), (.inr (.int, 5), []), (.inr (.int, 5), []), (.inr (.int, 5), []), (.inr (.int, 5), []), (.inr (.int, 41), []), (.inr (.int, 41), []), (.inr (.int, 41), []), (.inl 2, [.ref 25, .ref 26, .ref 27, .ref 28, .ref 29, .ref 30, .ref 31]), (.inr (.int, 5), []), (.inr (.int, 5), []), (.inr (.int, 5), []), (.inr (.int, 5), []), (.inr (.int, 5), []), (.inr (.int, 5), []), (.inr (.int, 6), [])]
noncomputable def zo_g12 : zt_G := [[(.ofNat 0, .ofNat 1), (.negSucc 2147483647, .ofNat 2147483647), (.negSucc 2147483647, .ofNat 2147483647), (.ofNat 0, .ofNat 0), (.ofNat 0, .ofNat 0), (.ofNat 0, .ofNat 0), (.negSucc 2147483647, .ofNat 2147483647)], [(.ofNat 0, .ofNat 5)], [(.ofNat 0, .ofNat 4)], [(.ofNat 0, .ofNat 5)], [(.negSucc 2147483647, .ofNat 2147483647), (.ofNat 0, .ofNat 3), (.ofNat 0, .ofNat 99), (.ofNat 0, .ofNat 30), (.ofNat 0, .ofNat 10), (.ofNat 0, .ofNat 6), (.ofNat 0, .ofNat 5), (.ofNat 0, .ofNat 41), (.ofNat 0, .ofNat 0), (.ofNat 0, .ofNat 0), (.ofNat 0, .ofNat 0), (.ofNat 0, .ofNat 0), (.ofNat 0, .ofNat 0), (.ofNat 0, .ofNat 0), (.ofNat 0, .ofNat 0), (.ofNat 0, .ofNat 0), (.ofNat 0, .ofNat 0)], [(.negSucc 8, .ofNat 9)], [(.ofNat 0, .ofNat 99)], [(.ofNat 0, .ofNat 61)], [(.ofNat 0, .ofNat 5)], [(.ofNat 0, .ofNat 99)], [(.ofNat 0, .ofNat 99)], [(.ofNat 0, .ofNat 4)], [(.ofNat 0, .ofNat 5)], [(.ofNat 0, .ofNat 60)], [(.negSucc 2147483647, .ofNat 2147483647), (.ofNat 0, .ofNat 3), (.ofNat 0, .ofNat 99), (.ofNat 0, .ofNat 30), (.ofNat 0, .ofNat 10), (.ofNat 0, .ofNat 6), (.ofNat 0, .ofNat 5), (.ofNat 0, .ofNat 41), (.ofNat 0, .ofNat 0), (.ofNat 0, .ofNat 0), (.ofNat 0, .ofNat 0), (.ofNat 0, .ofNat 0), (.ofNat 0, .ofNat 0), (.ofNat 0, .ofNat 0), (.ofNat 0, .ofNat 0), (.ofNat 0, .ofNat 0), (.ofNat 0, .ofNat 0)], [(.negSucc 8, .ofNat 9)], [(.ofNat 0, .ofNat 99)], [(.ofNat 0, .ofNat 61)], [(.ofNat 0, .ofNat 5)], [(.ofNat 0, .ofNat 99)], [(.ofNat 0, .ofNat 99)], [(.ofNat 0, .ofNat 4)], [(.ofNat 0, .ofNat 5)], [(.ofNat 0, .ofNat 60)], [(.ofNat 0, .ofNat 0), (.ofNat 0, .ofNat 0), (.ofNat 0, .ofNat 0), (.ofNat 0, .ofNat 0), (.ofNat 0, .ofNat 0), (.ofNat 0, .ofNat 0), (.ofNat 0, .ofNat 0), (.negSucc 2147483647, .ofNat 2147483647), (.ofNat 0, .ofNat 0), (.ofNat 0, .ofNat 0)], [(.negSucc 2, .ofNat 5)], [(.ofNat 0, .ofNat 99)], [(.negSucc 0, .ofNat 5)], [(.negSucc 2147483647, .ofNat 2147483647)], [(.negSucc 2147483647, .ofNat 2147483647)], [(.ofNat 0, .ofNat 99)], [(.negSucc 0, .ofNat 4)]]
noncomputable def zo_w13 : zm_L := [(.inl 5, [.null, .ref 1, .ref 2]), (.inr (.int, 10), []), (.inr (.int, 10), [])]
noncomputable def zo_g13 : zt_G := [[(.ofNat 0, .ofNat 1), (.ofNat 0, .ofNat 0), (.ofNat 0, .ofNat 0)], [(.ofNat 0, .ofNat 9)], [(.negSucc 2147483647, .ofNat 2147483647)]]
noncomputable def zo_w14 : zm_L := [(.inl 4, [.null, .null, .ref 1]), (.inr (.int, 36), []), (.inl 0, [.null, .null, .null, .null, .null, .null, .null, .null, .ref 3, .ref 4, .ref 5, .ref 6, .ref 7, .ref 8, .ref 9, .ref 10, .ref 11]), (.inr (.int, 6), []), (.inr (.int, 5), []), (.inr (.int, 5), []), (.inr (.int, 5), []), (.inr (.int, 5), []), (.inr (.int, 5), []), (.inr (.int, 41), []), (.inr (.int, 41), []), (.inr (.int, 41), []), (.inl 2, [.ref 13, .ref 14, .ref 15, .ref 16, .ref 17, .ref 18, .ref 19]), (.inr (.int, 5), []), (.inr (.int, 5), []), (.inr (.int, 5), []), (.inr (.int, 5), []), (.inr (.int, 5), []), (.inr (.int, 5), []), (.inr (.int, 6), [])]
noncomputable def zo_g14 : zt_G := [[(.negSucc 2147483647, .ofNat 2147483647), (.negSucc 2147483647, .ofNat 2147483647), (.ofNat 0, .ofNat 0)], [(.negSucc 2147483647, .ofNat 2147483647)], [(.negSucc 2147483647, .ofNat 2147483647), (.ofNat 0, .ofNat 3), (.ofNat 0, .ofNat 99), (.ofNat 0, .ofNat 30), (.ofNat 0, .ofNat 10), (.ofNat 0, .ofNat 6), (.ofNat 0, .ofNat 5), (.ofNat 0, .ofNat 41), (.ofNat 0, .ofNat 0), (.ofNat 0, .ofNat 0), (.ofNat 0, .ofNat 0), (.ofNat 0, .ofNat 0), (.ofNat 0, .ofNat 0), (.ofNat 0, .ofNat 0), (.ofNat 0, .ofNat 0), (.ofNat 0, .ofNat 0), (.ofNat 0, .ofNat 0)], [(.negSucc 8, .ofNat 9)], [(.ofNat 0, .ofNat 99)], [(.ofNat 0, .ofNat 61)], [(.ofNat 0, .ofNat 5)], [(.ofNat 0, .ofNat 99)], [(.ofNat 0, .ofNat 99)], [(.ofNat 0, .ofNat 4)], [(.ofNat 0, .ofNat 5)], [(.ofNat 0, .ofNat 60)], [(.ofNat 0, .ofNat 0), (.ofNat 0, .ofNat 0), (.ofNat 0, .ofNat 0), (.ofNat 0, .ofNat 0), (.ofNat 0, .ofNat 0), (.ofNat 0, .ofNat 0), (.ofNat 0, .ofNat 0), (.negSucc 2147483647, .ofNat 2147483647), (.ofNat 0, .ofNat 0), (.ofNat 0, .ofNat 0)], [(.negSucc 2, .ofNat 5)], [(.ofNat 0, .ofNat 99)], [(.negSucc 0, .ofNat 5)], [(.negSucc 2147483647, .ofNat 2147483647)], [(.negSucc 2147483647, .ofNat 2147483647)], [(.ofNat 0, .ofNat 99)], [(.negSucc 0, .ofNat 4)]]
noncomputable def zo_w15 : zm_L := [(.inr (.long, 50), [])]
noncomputable def zo_g15 : zt_G := [[(.ofNat 0, .ofNat 0)]]
noncomputable def zo_w16 : zm_L := [(.inl 1, [.null, .ref 1, .ref 2, .ref 3]), (.inr (.long, 50), []), (.inr (.long, 50), []), (.inr (.object "WearingBench$Day", 11), [.ref 4, .ref 12, .ref 20, .ref 28, .ref 36, .ref 44, .ref 52, .ref 60, .ref 68, .ref 76, .ref 84]), (.inl 2, [.ref 5, .ref 6, .ref 7, .ref 8, .ref 9, .ref 10, .ref 11]), (.inr (.int, 5), []), (.inr (.int, 5), []), (.inr (.int, 5), []), (.inr (.int, 5), []), (.inr (.int, 5), []), (.inr (.int, 5), []), (.inr (.int, 6), []), (.inl 2, [.ref 13, .ref 14, .ref 15, .ref 16, .ref 17, .ref 18, .ref 19]), (.inr (.int, 5), []), (.inr (.int, 5), []), (.inr (.int, 5), []), (.inr (.int, 5), []), (.inr (.int, 5), []), (.inr (.int, 5), []), (.inr (.int, 6), []), (.inl 2, [.ref 21, .ref 22, .ref 23, .ref 24, .ref 25, .ref 26, .ref 27]), (.inr (.int, 5), []), (.inr (.int, 5), []), (.inr (.int, 5), []), (.inr (.int, 5), []), (.inr (.int, 5), []), (.inr (.int, 5), []), (.inr (.int, 6), []), (.inl 2, [.ref 29, .ref 30, .ref 31, .ref 32, .ref 33, .ref 34, .ref 35]), (.inr (.int, 5), []), (.inr (.int, 5), []), (.inr (.int, 5), []), (.inr (.int, 5), []), (.inr (.int, 5), []), (.inr (.int, 5), []), (.inr (.int, 6), []), (.inl 2, [.ref 37, .ref 38, .ref 39, .ref 40, .ref 41, .ref 42, .ref 43]), (.inr (.int, 5), []), (.inr (.int, 5), []), (.inr (.int, 5), []), (.inr (.int, 5), []), (.inr (.int, 5), []), (.inr (.int, 5), []), (.inr (.int, 6), []), (.inl 2, [.ref 45, .ref 46, .ref 47, .ref 48, .ref 49, .ref 50, .ref 51]), (.inr (.int, 5), []), (.inr (.int, 5), []), (.inr (.int, 5), []), (.inr (.int, 5), []), (.inr (.int, 5), []), (.inr (.int, 5), []), (.inr (.int, 6), []), (.inl 2, [.ref 53, .ref 54, .ref 55, .ref 56, .ref 57, .ref 58, .ref 59]), (.inr (.int, 5), []), (.inr (.int, 5), []), (.inr (.int, 5), []), (.inr (.int, 5), []), (.inr (.int, 5), []), (.inr (.int, 5), []), (.inr (.int, 6), []), (.inl 2, [.ref 61, .ref 62, .ref 63, .ref 64, .ref 65, .ref 66, .ref 67]), (.inr (.int, 5), []), (.inr (.int, 5), []), (.inr (.int, 5), []), (.inr (.int, 5), []), (.inr (.int, 5), []), (.inr (.int, 5), []), (.inr (.int, 6), []), (.inl 2, [.ref 69, .ref 70, .ref 71, .ref 72, .ref 73, .ref 74, .ref 75]), (.inr (.int, 5), []), (.inr (.int, 5), []), (.inr (.int, 5), []), (.inr (.int, 5), []), (.inr (.int, 5), []), (.inr (.int, 5), []), (.inr (.int, 6), []), (.inl 2, [.ref 77, .ref 78, .ref 79, .ref 80, .ref 81, .ref 82, .ref 83]), (.inr (.int, 5), []), (.inr (.int, 5), []), (.inr (.int, 5), []), (.inr (.int, 5), []), (.inr (.int, 5), []), (.inr (.int, 5), []), (.inr (.int, 6), []), (.inl 2, [.ref 85, .ref 86, .ref 87, .ref 88, .ref 89, .ref 90, .ref 91]), (.inr (.int, 5), []), (.inr (.int, 5), []), (.inr (.int, 5), []), (.inr (.int, 5), []), (.inr (.int, 5), []), (.inr (.int, 5), []), (.inr (.int, 6), []), (.inl 0, [.null, .null, .null, .null, .null, .null, .null, .null, .ref 93, .ref 94, .ref 95, .ref 96, .ref 97, .ref 98, .ref 99, .ref 100, .ref 101]), (.inr (.int, 6), []), (.inr (.int, 5), []), (.inr (.int, 5), []), (.inr (.int, 5), []), (.inr (.int, 5), []), (.inr (.int, 5), []), (.inr (.int, 41), []), (.inr (.int, 41), []), (.inr (.int, 41), [])]
noncomputable def zo_g16 : zt_G := [[(.ofNat 0, .ofNat 1), (.ofNat 0, .ofNat 0), (.ofNat 0, .ofNat 0), (.ofNat 0, .ofNat 0), (.ofNat 0, .ofNat 10)], [(.ofNat 0, .ofNat 0)], [(.ofNat 0, .ofNat 0)], [(.ofNat 0, .ofNat 0)], [(.ofNat 0, .ofNat 0), (.ofNat 0, .ofNat 0), (.ofNat 0, .ofNat 0), (.ofNat 0, .ofNat 0), (.ofNat 0, .ofNat 0), (.ofNat 0, .ofNat 0), (.ofNat 0, .ofNat 0), (.negSucc 2147483647, .ofNat 2147483647), (.ofNat 0, .ofNat 0), (.ofNat 0, .ofNat 0)], [(.negSucc 2, .ofNat 5)], [(.ofNat 0, .ofNat 99)], [(.negSucc 0, .ofNat 5)], [(.negSucc 2147483647, .ofNat 2147483647)], [(.negSucc 2147483647, .ofNat 2147483647)], [(.ofNat 0, .ofNat 99)], [(.negSucc 0, .ofNat 4)], [(.ofNat 0, .ofNat 0), (.ofNat 0, .ofNat 0), (.ofNat 0, .ofNat 0), (.ofNat 0, .ofNat 0), (.ofNat 0, .ofNat 0), (.ofNat 0, .ofNat 0), (.ofNat 0, .ofNat 0), (.negSucc 2147483647, .ofNat 2147483647), (.ofNat 0, .ofNat 0), (.ofNat 0, .ofNat 0)], [(.negSucc 2, .ofNat 5)], [(.ofNat 0, .ofNat 99)], [(.negSucc 0, .ofNat 5)], [(.negSucc 2147483647, .ofNat 2147483647)], [(.negSucc 2147483647, .ofNat 2147483647)], [(.ofNat 0, .ofNat 99)], [(.negSucc 0, .ofNat 4)], [(.ofNat 0, .ofNat 0), (.ofNat 0, .ofNat 0), (.ofNat 0, .ofNat 0), (.ofNat 0, .ofNat 0), (.ofNat 0, .ofNat 0), (.ofNat 0, .ofNat 0), (.ofNat 0, .ofNat 0), (.negSucc 2147483647, .ofNat 2147483647), (.ofNat 0, .ofNat 0), (.ofNat 0, .ofNat 0)], [(.negSucc 2, .ofNat 5)], [(.ofNat 0, .ofNat 99)], [(.negSucc 0, .ofNat 5)], [(.negSucc 2147483647, .ofNat 2147483647)], [(.negSucc 2147483647, .ofNat 2147483647)], [(.ofNat 0, .ofNat 99)], [(.negSucc 0, .ofNat 4)], [(.ofNat 0, .ofNat 0), (.ofNat 0, .ofNat 0), (.ofNat 0, .ofNat 0), (.ofNat 0, .ofNat 0), (.ofNat 0, .ofNat 0), (.ofNat 0, .ofNat 0), (.ofNat 0, .ofNat 0), (.negSucc 2147483647, .ofNat 2147483647), (.ofNat 0, .ofNat 0), (.ofNat 0, .ofNat 0)], [(.negSucc 2, .ofNat 5)], [(.ofNat 0, .ofNat 99)], [(.negSucc 0, .ofNat 5)], [(.negSucc 2147483647, .ofNat 2147483647)], [(.negSucc 2147483647, .ofNat 2147483647)], [(.ofNat 0, .ofNat 99)], [(.negSucc 0, .ofNat 4)], [(.ofNat 0, .ofNat 0), (.ofNat 0, .ofNat 0), (.ofNat 0, .ofNat 0), (.ofNat 0, .ofNat 0), (.ofNat 0, .ofNat 0), (.ofNat 0, .ofNat 0), (.ofNat 0, .ofNat 0), (.negSucc 2147483647, .ofNat 2147483647), (.ofNat 0, .ofNat 0), (.ofNat 0, .ofNat 0)], [(.negSucc 2, .ofNat 5)], [(.ofNat 0, .ofNat 99)], [(.negSucc 0, .ofNat 5)], [(.negSucc 2147483647, .ofNat 2147483647)], [(.negSucc 2147483647, .ofNat 2147483647)], [(.ofNat 0, .ofNat 99)], [(.negSucc 0, .ofNat 4)], [(.ofNat 0, .ofNat 0), (.ofNat 0, .ofNat 0), (.ofNat 0, .ofNat 0), (.ofNat 0, .ofNat 0), (.ofNat 0, .ofNat 0), (.ofNat 0, .ofNat 0), (.ofNat 0, .ofNat 0), (.negSucc 2147483647, .ofNat 2147483647), (.ofNat 0, .ofNat 0), (.ofNat 0, .ofNat 0)], [(.negSucc 2, .ofNat 5)], [(.ofNat 0, .ofNat 99)], [(.negSucc 0, .ofNat 5)], [(.negSucc 2147483647, .ofNat 2147483647)], [(.negSucc 2147483647, .ofNat 2147483647)], [(.ofNat 0, .ofNat 99)], [(.negSucc 0, .ofNat 4)], [(.ofNat 0, .ofNat 0), (.ofNat 0, .ofNat 0), (.ofNat 0, .ofNat 0), (.ofNat 0, .ofNat 0), (.ofNat 0, .ofNat 0), (.ofNat 0, .ofNat 0), (.ofNat 0, .ofNat 0), (.negSucc 2147483647, .ofNat 2147483647), (.ofNat 0, .ofNat 0), (.ofNat 0, .ofNat 0)], [(.negSucc 2, .ofNat 5)], [(.ofNat 0, .ofNat 99)], [(.negSucc 0, .ofNat 5)], [(.negSucc 2147483647, .ofNat 2147483647)], [(.negSucc 2147483647, .ofNat 2147483647)], [(.ofNat 0, .ofNat 99)], [(.negSucc 0, .ofNat 4)], [(.ofNat 0, .ofNat 0), (.ofNat 0, .ofNat 0), (.ofNat 0, .ofNat 0), (.ofNat 0, .ofNat 0), (.ofNat 0, .ofNat 0), (.ofNat 0, .ofNat 0), (.ofNat 0, .ofNat 0), (.negSucc 2147483647, .ofNat 2147483647), (.ofNat 0, .ofNat 0), (.ofNat 0, .ofNat 0)], [(.negSucc 2, .ofNat 5)], [(.ofNat 0, .ofNat 99)], [(.negSucc 0, .ofNat 5)], [(.negSucc 2147483647, .ofNat 2147483647)], [(.negSucc 2147483647, .ofNat 2147483647)], [(.ofNat 0, .ofNat 99)], [(.negSucc 0, .ofNat 4)], [(.ofNat 0, .ofNat 0), (.ofNat 0, .ofNat 0), (.ofNat 0, .ofNat 0), (.ofNat 0, .ofNat 0), (.ofNat 0, .ofNat 0), (.ofNat 0, .ofNat 0), (.ofNat 0, .ofNat 0), (.negSucc 2147483647, .ofNat 2147483647), (.ofNat 0, .ofNat 0), (.ofNat 0, .ofNat 0)], [(.negSucc 2, .ofNat 5)], [(.ofNat 0, .ofNat 99)], [(.negSucc 0, .ofNat 5)], [(.negSucc 2147483647, .ofNat 2147483647)], [(.negSucc 2147483647, .ofNat 2147483647)], [(.ofNat 0, .ofNat 99)], [(.negSucc 0, .ofNat 4)], [(.ofNat 0, .ofNat 0), (.ofNat 0, .ofNat 0), (.ofNat 0, .ofNat 0), (.ofNat 0, .ofNat 0), (.ofNat 0, .ofNat 0), (.ofNat 0, .ofNat 0), (.ofNat 0, .ofNat 0), (.negSucc 2147483647, .ofNat 2147483647), (.ofNat 0, .ofNat 0), (.ofNat 0, .ofNat 0)], [(.negSucc 2, .ofNat 5)], [(.ofNat 0, .ofNat 99)], [(.negSucc 0, .ofNat 5)], [(.negSucc 2147483647, .ofNat 2147483647)], [(.negSucc 2147483647, .ofNat 2147483647)], [(.ofNat 0, .ofNat 99)], [(.negSucc 0, .ofNat 4)], [(.ofNat 0, .ofNat 0), (.ofNat 0, .ofNat 0), (.ofNat 0, .ofNat 0), (.ofNat 0, .ofNat 0), (.ofNat 0, .ofNat 0), (.ofNat 0, .ofNat 0), (.ofNat 0, .ofNat 0), (.negSucc 2147483647, .ofNat 2147483647), (.ofNat 0, .ofNat 0), (.ofNat 0, .ofNat 0)], [(.negSucc 2, .ofNat 5)], [(.ofNat 0, .ofNat 99)], [(.negSucc 0, .ofNat 5)], [(.negSucc 2147483647, .ofNat 2147483647)], [(.negSucc 2147483647, .ofNat 2147483647)], [(.ofNat 0, .ofNat 99)], [(.negSucc 0, .ofNat 4)], [(.negSucc 2147483647, .ofNat 2147483647), (.ofNat 0, .ofNat 3), (.ofNat 0, .ofNat 99), (.ofNat 0, .ofNat 30), (.ofNat 0, .ofNat 10), (.ofNat 0, .ofNat 6), (.ofNat 0, .ofNat 5), (.ofNat 0, .ofNat 41), (.ofNat 0, .ofNat 0), (.ofNat 0, .ofNat 0), (.ofNat 0, .ofNat 0), (.ofNat 0, .ofNat 0), (.ofNat 0, .ofNat 0), (.ofNat 0, .ofNat 0), (.ofNat 0, .ofNat 0), (.ofNat 0, .ofNat 0), (.ofNat 0, .ofNat 0)], [(.negSucc 8, .ofNat 9)], [(.ofNat 0, .ofNat 99)], [(.ofNat 0, .ofNat 61)], [(.ofNat 0, .ofNat 5)], [(.ofNat 0, .ofNat 99)], [(.ofNat 0, .ofNat 99)], [(.ofNat 0, .ofNat 4)], [(.ofNat 0, .ofNat 5)], [(.ofNat 0, .ofNat 60)]]
noncomputable def zo_w17 : zm_L := [(.inl 2, [.ref 1, .ref 2, .ref 3, .ref 4, .ref 5, .ref 6, .ref 7]), (.inr (.int, 5), []), (.inr (.int, 5), []), (.inr (.int, 5), []), (.inr (.int, 5), []), (.inr (.int, 5), []), (.inr (.int, 5), []), (.inr (.int, 6), []), (.inl 2, [.ref 9, .ref 10, .ref 11, .ref 12, .ref 13, .ref 14, .ref 15]), (.inr (.int, 5), []), (.inr (.int, 5), []), (.inr (.int, 5), []), (.inr (.int, 5), []), (.inr (.int, 5), []), (.inr (.int, 5), []), (.inr (.int, 6), [])]
noncomputable def zo_g17 : zt_G := [[(.ofNat 0, .ofNat 0), (.ofNat 0, .ofNat 0), (.ofNat 0, .ofNat 0), (.ofNat 0, .ofNat 0), (.ofNat 0, .ofNat 0), (.ofNat 0, .ofNat 0), (.ofNat 0, .ofNat 0), (.negSucc 2147483647, .ofNat 2147483647), (.ofNat 0, .ofNat 0), (.ofNat 0, .ofNat 0)], [(.negSucc 2, .ofNat 5)], [(.ofNat 0, .ofNat 99)], [(.negSucc 0, .ofNat 5)], [(.negSucc 2147483647, .ofNat 2147483647)], [(.negSucc 2147483647, .ofNat 2147483647)], [(.ofNat 0, .ofNat 99)], [(.negSucc 0, .ofNat 4)], [(.ofNat 0, .ofNat 0), (.ofNat 0, .ofNat 0), (.ofNat 0, .ofNat 0), (.ofNat 0, .ofNat 0), (.ofNat 0, .ofNat 0), (.ofNat 0, .ofNat 0), (.ofNat 0, .ofNat 0), (.negSucc 2147483647, .ofNat 2147483647), (.ofNat 0, .ofNat 0), (.ofNat 0, .ofNat 0)], [(.negSucc 2, .ofNat 5)], [(.ofNat 0, .ofNat 99)], [(.negSucc 0, .ofNat 5)], [(.negSucc 2147483647, .ofNat 2147483647)], [(.negSucc 2147483647, .ofNat 2147483647)], [(.ofNat 0, .ofNat 99)], [(.negSucc 0, .ofNat 4)]]
noncomputable def zo_w18 : zm_L := [(.inl 2, [.ref 1, .ref 2, .ref 3, .ref 4, .ref 5, .ref 6, .ref 7]), (.inr (.int, 5), []), (.inr (.int, 5), []), (.inr (.int, 5), []), (.inr (.int, 5), []), (.inr (.int, 5), []), (.inr (.int, 5), []), (.inr (.int, 6), [])]
noncomputable def zo_g18 : zt_G := [[(.ofNat 0, .ofNat 0), (.ofNat 0, .ofNat 0), (.ofNat 0, .ofNat 0), (.ofNat 0, .ofNat 0), (.ofNat 0, .ofNat 0), (.ofNat 0, .ofNat 0), (.ofNat 0, .ofNat 0), (.negSucc 2147483647, .ofNat 2147483647), (.ofNat 0, .ofNat 0), (.ofNat 0, .ofNat 0)], [(.negSucc 2, .ofNat 5)], [(.ofNat 0, .ofNat 99)], [(.negSucc 0, .ofNat 5)], [(.negSucc 2147483647, .ofNat 2147483647)], [(.negSucc 2147483647, .ofNat 2147483647)], [(.ofNat 0, .ofNat 99)], [(.negSucc 0, .ofNat 4)]]
noncomputable def zo_w19 : zm_L := [(.inl 1, [.null, .ref 1, .ref 2, .ref 3]), (.inr (.long, 50), []), (.inr (.long, 50), []), (.inr (.object "WearingBench$Day", 11), [.ref 4, .ref 12, .ref 20, .ref 28, .ref 36, .ref 44, .ref 52, .ref 60, .ref 68, .ref 76, .ref 84]), (.inl 2, [.ref 5, .ref 6, .ref 7, .ref 8, .ref 9, .ref 10, .ref 11]), (.inr (.int, 5), []), (.inr (.int, 5), []), (.inr (.int, 5), []), (.inr (.int, 5), []), (.inr (.int, 5), []), (.inr (.int, 5), []), (.inr (.int, 6), []), (.inl 2, [.ref 13, .ref 14, .ref 15, .ref 16, .ref 17, .ref 18, .ref 19]), (.inr (.int, 5), []), (.inr (.int, 5), []), (.inr (.int, 5), []), (.inr (.int, 5), []), (.inr (.int, 5), []), (.inr (.int, 5), []), (.inr (.int, 6), []), (.inl 2, [.ref 21, .ref 22, .ref 23, .ref 24, .ref 25, .ref 26, .ref 27]), (.inr (.int, 5), []), (.inr (.int, 5), []), (.inr (.int, 5), []), (.inr (.int, 5), []), (.inr (.int, 5), []), (.inr (.int, 5), []), (.inr (.int, 6), []), (.inl 2, [.ref 29, .ref 30, .ref 31, .ref 32, .ref 33, .ref 34, .ref 35]), (.inr (.int, 5), []), (.inr (.int, 5), []), (.inr (.int, 5), []), (.inr (.int, 5), []), (.inr (.int, 5), []), (.inr (.int, 5), []), (.inr (.int, 6), []), (.inl 2, [.ref 37, .ref 38, .ref 39, .ref 40, .ref 41, .ref 42, .ref 43]), (.inr (.int, 5), []), (.inr (.int, 5), []), (.inr (.int, 5), []), (.inr (.int, 5), []), (.inr (.int, 5), []), (.inr (.int, 5), []), (.inr (.int, 6), []), (.inl 2, [.ref 45, .ref 46, .ref 47, .ref 48, .ref 49, .ref 50, .ref 51]), (.inr (.int, 5), []), (.inr (.int, 5), []), (.inr (.int, 5), []), (.inr (.int, 5), []), (.inr (.int, 5), []), (.inr (.int, 5), []), (.inr (.int, 6), []), (.inl 2, [.ref 53, .ref 54, .ref 55, .ref 56, .ref 57, .ref 58, .ref 59]), (.inr (.int, 5), []), (.inr (.int, 5), []), (.inr (.int, 5), []), (.inr (.int, 5), []), (.inr (.int, 5), []), (.inr (.int, 5), []), (.inr (.int, 6), []), (.inl 2, [.ref 61, .ref 62, .ref 63, .ref 64, .ref 65, .ref 66, .ref 67]), (.inr (.int, 5), []), (.inr (.int, 5), []), (.inr (.int, 5), []), (.inr (.int, 5), []), (.inr (.int, 5), []), (.inr (.int, 5), []), (.inr (.int, 6), []), (.inl 2, [.ref 69, .ref 70, .ref 71, .ref 72, .ref 73, .ref 74, .ref 75]), (.inr (.int, 5), []), (.inr (.int, 5), []), (.inr (.int, 5), []), (.inr (.int, 5), []), (.inr (.int, 5), []), (.inr (.int, 5), []), (.inr (.int, 6), []), (.inl 2, [.ref 77, .ref 78, .ref 79, .ref 80, .ref 81, .ref 82, .ref 83]), (.inr (.int, 5), []), (.inr (.int, 5), []), (.inr (.int, 5), []), (.inr (.int, 5), []), (.inr (.int, 5), []), (.inr (.int, 5), []), (.inr (.int, 6), []), (.inl 2, [.ref 85, .ref 86, .ref 87, .ref 88, .ref 89, .ref 90, .ref 91]), (.inr (.int, 5), []), (.inr (.int, 5), []), (.inr (.int, 5), []), (.inr (.int, 5), []), (.inr (.int, 5), []), (.inr (.int, 5), []), (.inr (.int, 6), [])]
noncomputable def zo_g19 : zt_G := [[(.ofNat 0, .ofNat 1), (.ofNat 0, .ofNat 0), (.ofNat 0, .ofNat 0), (.ofNat 0, .ofNat 0), (.ofNat 0, .ofNat 10)], [(.ofNat 0, .ofNat 0)], [(.ofNat 0, .ofNat 0)], [(.ofNat 0, .ofNat 0)], [(.ofNat 0, .ofNat 0), (.ofNat 0, .ofNat 0), (.ofNat 0, .ofNat 0), (.ofNat 0, .ofNat 0), (.ofNat 0, .ofNat 0), (.ofNat 0, .ofNat 0), (.ofNat 0, .ofNat 0), (.negSucc 2147483647, .ofNat 2147483647), (.ofNat 0, .ofNat 0), (.ofNat 0, .ofNat 0)], [(.negSucc 2, .ofNat 5)], [(.ofNat 0, .ofNat 99)], [(.negSucc 0, .ofNat 5)], [(.negSucc 2147483647, .ofNat 2147483647)], [(.negSucc 2147483647, .ofNat 2147483647)], [(.ofNat 0, .ofNat 99)], [(.negSucc 0, .ofNat 4)], [(.ofNat 0, .ofNat 0), (.ofNat 0, .ofNat 0), (.ofNat 0, .ofNat 0), (.ofNat 0, .ofNat 0), (.ofNat 0, .ofNat 0), (.ofNat 0, .ofNat 0), (.ofNat 0, .ofNat 0), (.negSucc 2147483647, .ofNat 2147483647), (.ofNat 0, .ofNat 0), (.ofNat 0, .ofNat 0)], [(.negSucc 2, .ofNat 5)], [(.ofNat 0, .ofNat 99)], [(.negSucc 0, .ofNat 5)], [(.negSucc 2147483647, .ofNat 2147483647)], [(.negSucc 2147483647, .ofNat 2147483647)], [(.ofNat 0, .ofNat 99)], [(.negSucc 0, .ofNat 4)], [(.ofNat 0, .ofNat 0), (.ofNat 0, .ofNat 0), (.ofNat 0, .ofNat 0), (.ofNat 0, .ofNat 0), (.ofNat 0, .ofNat 0), (.ofNat 0, .ofNat 0), (.ofNat 0, .ofNat 0), (.negSucc 2147483647, .ofNat 2147483647), (.ofNat 0, .ofNat 0), (.ofNat 0, .ofNat 0)], [(.negSucc 2, .ofNat 5)], [(.ofNat 0, .ofNat 99)], [(.negSucc 0, .ofNat 5)], [(.negSucc 2147483647, .ofNat 2147483647)], [(.negSucc 2147483647, .ofNat 2147483647)], [(.ofNat 0, .ofNat 99)], [(.negSucc 0, .ofNat 4)], [(.ofNat 0, .ofNat 0), (.ofNat 0, .ofNat 0), (.ofNat 0, .ofNat 0), (.ofNat 0, .ofNat 0), (.ofNat 0, .ofNat 0), (.ofNat 0, .ofNat 0), (.ofNat 0, .ofNat 0), (.negSucc 2147483647, .ofNat 2147483647), (.ofNat 0, .ofNat 0), (.ofNat 0, .ofNat 0)], [(.negSucc 2, .ofNat 5)], [(.ofNat 0, .ofNat 99)], [(.negSucc 0, .ofNat 5)], [(.negSucc 2147483647, .ofNat 2147483647)], [(.negSucc 2147483647, .ofNat 2147483647)], [(.ofNat 0, .ofNat 99)], [(.negSucc 0, .ofNat 4)], [(.ofNat 0, .ofNat 0), (.ofNat 0, .ofNat 0), (.ofNat 0, .ofNat 0), (.ofNat 0, .ofNat 0), (.ofNat 0, .ofNat 0), (.ofNat 0, .ofNat 0), (.ofNat 0, .ofNat 0), (.negSucc 2147483647, .ofNat 2147483647), (.ofNat 0, .ofNat 0), (.ofNat 0, .ofNat 0)], [(.negSucc 2, .ofNat 5)], [(.ofNat 0, .ofNat 99)], [(.negSucc 0, .ofNat 5)], [(.negSucc 2147483647, .ofNat 2147483647)], [(.negSucc 2147483647, .ofNat 2147483647)], [(.ofNat 0, .ofNat 99)], [(.negSucc 0, .ofNat 4)], [(.ofNat 0, .ofNat 0), (.ofNat 0, .ofNat 0), (.ofNat 0, .ofNat 0), (.ofNat 0, .ofNat 0), (.ofNat 0, .ofNat 0), (.ofNat 0, .ofNat 0), (.ofNat 0, .ofNat 0), (.negSucc 2147483647, .ofNat 2147483647), (.ofNat 0, .ofNat 0), (.ofNat 0, .ofNat 0)], [(.negSucc 2, .ofNat 5)], [(.ofNat 0, .ofNat 99)], [(.negSucc 0, .ofNat 5)], [(.negSucc 2147483647, .ofNat 2147483647)], [(.negSucc 2147483647, .ofNat 2147483647)], [(.ofNat 0, .ofNat 99)], [(.negSucc 0, .ofNat 4)], [(.ofNat 0, .ofNat 0), (.ofNat 0, .ofNat 0), (.ofNat 0, .ofNat 0), (.ofNat 0, .ofNat 0), (.ofNat 0, .ofNat 0), (.ofNat 0, .ofNat 0), (.ofNat 0, .ofNat 0), (.negSucc 2147483647, .ofNat 2147483647), (.ofNat 0, .ofNat 0), (.ofNat 0, .ofNat 0)], [(.negSucc 2, .ofNat 5)], [(.ofNat 0, .ofNat 99)], [(.negSucc 0, .ofNat 5)], [(.negSucc 2147483647, .ofNat 2147483647)], [(.negSucc 2147483647, .ofNat 2147483647)], [(.ofNat 0, .ofNat 99)], [(.negSucc 0, .ofNat 4)], [(.ofNat 0, .ofNat 0), (.ofNat 0, .ofNat 0), (.ofNat 0, .ofNat 0), (.ofNat 0, .ofNat 0), (.ofNat 0, .ofNat 0), (.ofNat 0, .ofNat 0), (.ofNat 0, .ofNat 0), (.negSucc 2147483647, .ofNat 2147483647), (.ofNat 0, .ofNat 0), (.ofNat 0, .ofNat 0)], [(.negSucc 2, .ofNat 5)], [(.ofNat 0, .ofNat 99)], [(.negSucc 0, .ofNat 5)], [(.negSucc 2147483647, .ofNat 2147483647)], [(.negSucc 2147483647, .ofNat 2147483647)], [(.ofNat 0, .ofNat 99)], [(.negSucc 0, .ofNat 4)], [(.ofNat 0, .ofNat 0), (.ofNat 0, .ofNat 0), (.ofNat 0, .ofNat 0), (.ofNat 0, .ofNat 0), (.ofNat 0, .ofNat 0), (.ofNat 0, .ofNat 0), (.ofNat 0, .ofNat 0), (.negSucc 2147483647, .ofNat 2147483647), (.ofNat 0, .ofNat 0), (.ofNat 0, .ofNat 0)], [(.negSucc 2, .ofNat 5)], [(.ofNat 0, .ofNat 99)], [(.negSucc 0, .ofNat 5)], [(.negSucc 2147483647, .ofNat 2147483647)], [(.negSucc 2147483647, .ofNat 2147483647)], [(.ofNat 0, .ofNat 99)], [(.negSucc 0, .ofNat 4)], [(.ofNat 0, .ofNat 0), (.ofNat 0, .ofNat 0), (.ofNat 0, .ofNat 0), (.ofNat 0, .ofNat 0), (.ofNat 0, .ofNat 0), (.ofNat 0, .ofNat 0), (.ofNat 0, .ofNat 0), (.negSucc 2147483647, .ofNat 2147483647), (.ofNat 0, .ofNat 0), (.ofNat 0, .ofNat 0)], [(.negSucc 2, .ofNat 5)], [(.ofNat 0, .ofNat 99)], [(.negSucc 0, .ofNat 5)], [(.negSucc 2147483647, .ofNat 2147483647)], [(.negSucc 2147483647, .ofNat 2147483647)], [(.ofNat 0, .ofNat 99)], [(.negSucc 0, .ofNat 4)], [(.ofNat 0, .ofNat 0), (.ofNat 0, .ofNat 0), (.ofNat 0, .ofNat 0), (.ofNat 0, .ofNat 0), (.ofNat 0, .ofNat 0), (.ofNat 0, .ofNat 0), (.ofNat 0, .ofNat 0), (.negSucc 2147483647, .ofNat 2147483647), (.ofNat 0, .ofNat 0), (.ofNat 0, .ofNat 0)], [(.negSucc 2, .ofNat 5)], [(.ofNat 0, .ofNat 99)], [(.negSucc 0, .ofNat 5)], [(.negSucc 2147483647, .ofNat 2147483647)], [(.negSucc 2147483647, .ofNat 2147483647)], [(.ofNat 0, .ofNat 99)], [(.negSucc 0, .ofNat 4)]]
noncomputable def zo_w20 : zm_L := [(.inl 7, [.null, .null, .ref 1]), (.inr (.long, 60), [])]
noncomputable def zo_g20 : zt_G := [[(.negSucc 0, .ofNat 3), (.ofNat 0, .ofNat 60), (.ofNat 0, .ofNat 0)], [(.ofNat 0, .ofNat 0)]]
noncomputable def zo_w21 : zm_L := [(.inr (.long, 60), [])]
noncomputable def zo_g21 : zt_G := [[(.ofNat 0, .ofNat 0)]]
noncomputable def zo_w22 : zm_L := [(.inl 10, [.null, .ref 1, .ref 2, .ref 3, .ref 4, .ref 5, .null, .null, .null, .null, .null, .null, .null, .null, .null, .null, .ref 6, .ref 7, .ref 8, .ref 9, .ref 10, .ref 11, .null, .null, .null, .null, .null, .null, .null, .ref 12, .ref 13, .ref 14, .ref 15, .ref 16, .ref 17, .ref 18, .ref 19, .ref 20, .ref 21, .ref 22, .ref 23, .ref 24, .ref 25, .null, .null, .ref 26, .null, .ref 27, .ref 28, .ref 29, .null, .ref 30]), (.inr (.int, 4), []), (.inr (.int, 4), []), (.inr (.long, 240), []), (.inr (.long, 60), []), (.inr (.byte, 800), []), (.inr (.int, 5), []), (.inr (.int, 35), []), (.inr (.int, 30), []), (.inr (.int, 125), []), (.inr (.int, 600), []), (.inr (.boolean, 3), []), (.inr (.int, 6), []), (.inr (.int, 5), []), (.inr (.int, 5), []), (.inr (.int, 5), []), (.inr (.int, 305), []), (.inr (.int, 305), []), (.inr (.int, 5), []), (.inr (.int, 5), []), (.inr (.boolean, 40), []), (.inr (.int, 5), []), (.inr (.int, 5), []), (.inr (.int, 5), []), (.inr (.boolean, 5), []), (.inr (.int, 5), []), (.inr (.int, 5), []), (.inr (.int, 6161), []), (.inr (.int, 10), []), (.inr (.int, 10), []), (.inr (.int, 36), [])]
noncomputable def zo_g22 : zt_G := [[(.negSucc 2147483647, .ofNat 2147483647), (.ofNat 0, .ofNat 0), (.ofNat 0, .ofNat 0), (.ofNat 0, .ofNat 0), (.ofNat 0, .ofNat 0), (.ofNat 0, .ofNat 0), (.ofNat 0, .ofNat 800), (.ofNat 0, .ofNat 800), (.ofNat 0, .ofNat 4), (.ofNat 0, .ofNat 800), (.negSucc 2147483647, .ofNat 2147483647), (.ofNat 0, .ofNat 0), (.ofNat 0, .ofNat 3), (.negSucc 0, .ofNat 800), (.negSucc 2147483647, .ofNat 2147483647), (.negSucc 2147483647, .ofNat 2147483647), (.ofNat 0, .ofNat 0), (.ofNat 0, .ofNat 0), (.ofNat 0, .ofNat 0), (.ofNat 0, .ofNat 0), (.ofNat 0, .ofNat 0), (.ofNat 0, .ofNat 0), (.ofNat 0, .ofNat 3), (.ofNat 0, .ofNat 31), (.negSucc 2147483647, .ofNat 2147483647), (.negSucc 0, .ofNat 4), (.ofNat 0, .ofNat 5), (.ofNat 0, .ofNat 60), (.ofNat 0, .ofNat 0), (.ofNat 0, .ofNat 0), (.ofNat 0, .ofNat 0), (.ofNat 0, .ofNat 0), (.ofNat 0, .ofNat 0), (.ofNat 0, .ofNat 0), (.ofNat 0, .ofNat 0), (.ofNat 0, .ofNat 0), (.ofNat 0, .ofNat 0), (.ofNat 0, .ofNat 0), (.ofNat 0, .ofNat 0), (.ofNat 0, .ofNat 0), (.ofNat 0, .ofNat 0), (.ofNat 0, .ofNat 0), (.ofNat 0, .ofNat 0), (.negSucc 2147483647, .ofNat 2147483647), (.negSucc 2147483647, .ofNat 2147483647), (.ofNat 0, .ofNat 0), (.negSucc 2147483647, .ofNat 2147483647), (.ofNat 0, .ofNat 0), (.ofNat 0, .ofNat 0), (.ofNat 0, .ofNat 0), (.ofNat 0, .ofNat 10), (.ofNat 0, .ofNat 0), (.negSucc 2147483647, .ofNat 2147483647)], [(.negSucc 0, .ofNat 3)], [(.ofNat 0, .ofNat 60)], [(.ofNat 0, .ofNat 0)], [(.ofNat 0, .ofNat 0)], [(.negSucc 127, .ofNat 127)], [(.negSucc 2147483647, .ofNat 2147483647)], [(.ofNat 0, .ofNat 3), (.ofNat 0, .ofNat 99), (.ofNat 0, .ofNat 30), (.ofNat 0, .ofNat 10), (.ofNat 0, .ofNat 6), (.ofNat 0, .ofNat 5), (.ofNat 0, .ofNat 40)], [(.negSucc 8, .ofNat 9)], [(.ofNat 0, .ofNat 99)], [(.ofNat 0, .ofNat 4), (.ofNat 0, .ofNat 5), (.ofNat 0, .ofNat 60)], [(.ofNat 0, .ofNat 1)], [(.negSucc 8, .ofNat 9)], [(.ofNat 0, .ofNat 99)], [(.ofNat 0, .ofNat 99)], [(.ofNat 0, .ofNat 99)], [(.negSucc 0, .ofNat 99)], [(.negSucc 0, .ofNat 5)], [(.negSucc 0, .ofNat 60)], [(.ofNat 0, .ofNat 99)], [(.ofNat 0, .ofNat 1)], [(.ofNat 0, .ofNat 99)], [(.negSucc 0, .ofNat 5)], [(.negSucc 2147483647, .ofNat 2147483647)], [(.ofNat 0, .ofNat 1)], [(.ofNat 0, .ofNat 99)], [(.ofNat 0, .ofNat 99)], [(.negSucc 2147483647, .ofNat 2147483647)], [(.negSucc 2147483647, .ofNat 2147483647)], [(.ofNat 0, .ofNat 9)], [(.ofNat 0, .ofNat 3)]]
noncomputable def zo_Om : zt_Om := [(zo_w0, zo_g0), (zo_w1, zo_g1), (zo_w2, zo_g2), (zo_w3, zo_g3), (zo_w4, zo_g4), (zo_w5, zo_g5), (zo_w6, zo_g6), (zo_w7, zo_g7), (zo_w8, zo_g8), (zo_w9, zo_g9), (zo_w10, zo_g10), (zo_w11, zo_g11), (zo_w12, zo_g12), (zo_w13, zo_g13), (zo_w14, zo_g14), (zo_w15, zo_g15), (zo_w16, zo_g16), (zo_w17, zo_g17), (zo_w18, zo_g18), (zo_w19, zo_g19), (zo_w20, zo_g20), (zo_w21, zo_g21), (zo_w22, zo_g22)]
noncomputable def zo_Sg : zt_Sg := [(1, [(1, 10)], 2), (1, [(1, 10), (11, 10)], 4), (1, [(11, 10)], 2), (1, [(11, 10), (1, 10)], 4), (1, [(21, 11)], 9), (1, [(21, 11), (1, 10)], 8), (1, [(22, 8), (1, 10)], 7), (1, [(32, 11)], 9), (1, [(43, 8), (1, 10)], 7), (1, [(43, 8), (11, 10)], 7), (1, [(51, 2)], 0), (1, [(51, 2), (11, 10)], 3), (1, [(54, 2)], 20), (1, [(56, 2)], 20), (1, [(58, 2)], 20), (1, [(60, 2)], 20), (1, [(63, 3)], 13), (1, [(66, 2), (11, 10), (43, 8)], 14), (1, [(68, 4), (1, 10), (11, 10), (43, 8)], 12), (1, [(72, 92)], 19), (1, [(72, 92), (1, 10)], 16), (3, [(2, 10)], 2), (7, [(8, 10)], 2), (8, [(1, 8), (11, 10)], 7), (8, [(9, 1)], 5), (8, [(10, 1)], 6), (11, [(14, 8), (4, 10)], 7), (12, [(0, 4), (4, 10)], 10), (12, [(0, 4), (14, 10)], 10), (12, [(0, 4), (14, 10), (24, 8)], 11), (12, [(14, 10), (4, 10)], 4), (12, [(24, 8), (14, 10)], 7), (14, [(12, 8), (2, 10)], 7), (16, [(1, 1)], 15), (16, [(2, 1)], 15), (16, [(4, 8), (92, 10)], 7), (16, [(12, 8)], 18), (16, [(12, 8), (4, 8)], 17), (16, [(12, 8), (92, 10)], 7), (16, [(20, 8)], 18), (16, [(20, 8), (12, 8)], 17), (16, [(20, 8), (92, 10)], 7), (16, [(28, 8)], 18), (16, [(28, 8), (20, 8)], 17), (16, [(28, 8), (92, 10)], 7), (16, [(36, 8)], 18), (16, [(36, 8), (28, 8)], 17), (16, [(36, 8), (92, 10)], 7), (16, [(44, 8)], 18), (16, [(44, 8), (36, 8)], 17), (16, [(44, 8), (92, 10)], 7), (16, [(52, 8)], 18), (16, [(52, 8), (44, 8)], 17), (16, [(52, 8), (92, 10)], 7), (16, [(60, 8)], 18), (16, [(60, 8), (52, 8)], 17), (16, [(60, 8), (92, 10)], 7), (16, [(68, 8)], 18), (16, [(68, 8), (60, 8)], 17), (16, [(68, 8), (92, 10)], 7), (16, [(76, 8)], 18), (16, [(76, 8), (68, 8)], 17), (16, [(76, 8), (92, 10)], 7), (16, [(84, 8)], 18), (16, [(84, 8), (76, 8)], 17), (16, [(84, 8), (92, 10)], 7), (16, [(92, 10)], 2), (20, [(1, 1)], 21)]
theorem zo_sg : zo_Sg.all (zt_sbB zo_Om) = true := by decide +kernel
noncomputable def zo_hd : Nat × Option Nat × Bool × List (Nat × Nat) := (0, none, true, [])
noncomputable def zo_U : zt_U := fun f => match f with
  | 0 => [(0, 7, 7), (0, 6, 6), (0, 8, 8)]
  | 1 => [(0, 7, 7), (0, 6, 6), (0, 8, 8)]
  | 2 => [(0, 7, 7), (0, 6, 6)]
  | 3 => [(54, 1, 1), (55, 0, 59)]
  | 4 => [(56, 1, 1), (57, 0, 59)]
  | 5 => [(58, 1, 1), (59, 0, 59)]
  | 6 => [(60, 1, 1), (61, 0, 59)]
  | 7 => [(2, 0, 0), (3, 0, 59)]
  | 8 => [(2, 1, 1), (3, 60, 119)]
  | 9 => [(2, 2, 2), (3, 120, 179)]
  | 10 => [(2, 3, 3), (3, 180, 239)]
  | _ => []
noncomputable def zo_see (r j n o : Nat) (M : zm_I) : Prop := (M.1 r j).toInt % 3 = 0 ∧ ∀ i : Nat, i < 60 → (i : Int) < (M.1 r j).toInt → (i % 3 = 0 → 0 ≤ (M.2 n (o + i)).toInt ∧ (M.2 n (o + i)).toInt ≤ 4) ∧ (i % 3 = 1 → 0 ≤ (M.2 n (o + i)).toInt ∧ (M.2 n (o + i)).toInt ≤ 60)
noncomputable def zo_mu (M : zm_I) : Nat := 2 * ((M.1 0 6).toInt - (M.1 0 7).toInt).toNat + (if (M.1 0 8).toInt = 0 then 0 else 1)
noncomputable def zo_Rel (v : Nat) : Nat → zm_I → Prop := fun f M => match f with
  | 0 => (M.1 0 7).toInt ≤ (M.1 0 6).toInt ∧ zo_mu M ≤ v
  | 1 => zo_mu M < v
  | 2 => (M.1 0 7).toInt ≤ (M.1 0 6).toInt
  | 3 => zo_see 54 1 55 0 M
  | 4 => zo_see 56 1 57 0 M
  | 5 => zo_see 58 1 59 0 M
  | 6 => zo_see 60 1 61 0 M
  | 7 => zo_see 2 0 3 0 M
  | 8 => zo_see 2 1 3 60 M
  | 9 => zo_see 2 2 3 120 M
  | 10 => zo_see 2 3 3 180 M
  | _ => True
theorem zo_see_go {r j n o : Nat} {M M' : zm_I} (h : zo_see r j n o M) (hk : ∀ a b, zt_hit [(r, j, j), (n, o, o + 59)] a b = true → M'.1 a b = M.1 a b ∧ M'.2 a b = M.2 a b) : zo_see r j n o M' := by
  have h1 := (hk r j (by simp [zt_hit])).1
  have h2 : ∀ i, i < 60 → M'.2 n (o + i) = M.2 n (o + i) := fun i hi => (hk n (o + i) (by simp [zt_hit]; omega)).2
  refine ⟨by rw [h1]; exact h.1, fun i hi hl => ?_⟩
  rw [h1] at hl
  rw [h2 i hi]
  exact h.2 i hi hl
theorem zo_UR (v : Nat) : zt_UR zo_U (zo_Rel v) := by
  intro f M M' h hk
  match f, h, hk with
  | 0, h, hk =>
    have h1 := (hk 0 7 rfl).1
    have h2 := (hk 0 6 rfl).1
    have h3 := (hk 0 8 rfl).1
    show (M'.1 0 7).toInt ≤ (M'.1 0 6).toInt ∧ zo_mu M' ≤ v
    unfold zo_mu
    rw [h1, h2, h3]
    exact h
  | 1, h, hk =>
    have h1 := (hk 0 7 rfl).1
    have h2 := (hk 0 6 rfl).1
    have h3 := (hk 0 8 rfl).1
    show zo_mu M' < v
    unfold zo_mu
    rw [h1, h2, h3]
    exact h
  | 2, h, hk =>
    have h1 := (hk 0 7 rfl).1
    have h2 := (hk 0 6 rfl).1
    show (M'.1 0 7).toInt ≤ (M'.1 0 6).toInt
    rw [h1, h2]
    exact h
  | 3, h, hk => exact zo_see_go h hk
  | 4, h, hk => exact zo_see_go h hk
  | 5, h, hk => exact zo_see_go h hk
  | 6, h, hk => exact zo_see_go h hk
  | 7, h, hk => exact zo_see_go h hk
  | 8, h, hk => exact zo_see_go h hk
  | 9, h, hk => exact zo_see_go h hk
  | 10, h, hk => exact zo_see_go h hk
  | f + 11, h, hk => trivial
theorem zo_Mu : zt_Mu zo_Rel zo_mu := ⟨fun _ _ h => ⟨h, Nat.le_refl _⟩, fun _ _ h => h.2, fun _ _ h => h, fun _ _ _ h => h⟩
noncomputable def zt_ksall (Om : zt_Om) (Rel : Nat → zm_I → Prop) (C : Nat × Option Nat × Bool × List (Nat × Nat) × (zm_L → List Value → zm_I → zm_R)) : List zt_K → Prop
  | [] => True
  | K :: r => (K.1 = (C.1, C.2.1, C.2.2.1, C.2.2.2.1) ∧ zt_Con Om Rel K C.2.2.2.2) ∧ zt_ksall Om Rel C r
noncomputable def zt_ksok (Om : zt_Om) (Rel : Nat → zm_I → Prop) (T : zm_T) : List (Nat × List zt_K) → Prop
  | [] => True
  | (idx, ks) :: r => (∃ C, zm_look T.2.2.1 idx = some C ∧ zt_ksall Om Rel C ks) ∧ zt_ksok Om Rel T r
theorem zt_ksall_mem {Om : zt_Om} {Rel : Nat → zm_I → Prop} {C : Nat × Option Nat × Bool × List (Nat × Nat) × (zm_L → List Value → zm_I → zm_R)} : ∀ (ks : List zt_K), zt_ksall Om Rel C ks → ∀ K ∈ ks, K.1 = (C.1, C.2.1, C.2.2.1, C.2.2.2.1) ∧ zt_Con Om Rel K C.2.2.2.2
  | [], _, _, h => by cases h
  | K :: r, h, K', hm => by
    rcases List.mem_cons.mp hm with rfl | hm
    · exact h.1
    · exact zt_ksall_mem r h.2 K' hm
theorem zt_k0 {Om : zt_Om} {Rel : Nat → zm_I → Prop} {T : zm_T} : zt_ksok Om Rel T [] := trivial
theorem zt_k1 {Om : zt_Om} {Rel : Nat → zm_I → Prop} {T : zm_T} {idx : Nat} {ks : List zt_K} {r : List (Nat × List zt_K)} {C : Nat × Option Nat × Bool × List (Nat × Nat) × (zm_L → List Value → zm_I → zm_R)} (h1 : zm_look T.2.2.1 idx = some C) (h2 : zt_ksall Om Rel C ks) (h3 : zt_ksok Om Rel T r) : zt_ksok Om Rel T ((idx, ks) :: r) := ⟨⟨C, h1, h2⟩, h3⟩
theorem zt_k2 {Om : zt_Om} {Rel : Nat → zm_I → Prop} {C : Nat × Option Nat × Bool × List (Nat × Nat) × (zm_L → List Value → zm_I → zm_R)} {K : zt_K} {r : List zt_K} (h1 : K.1 = (C.1, C.2.1, C.2.2.1, C.2.2.2.1)) (h2 : zt_Con Om Rel K C.2.2.2.2) (h3 : zt_ksall Om Rel C r) : zt_ksall Om Rel C (K :: r) := ⟨⟨h1, h2⟩, h3⟩
theorem zt_k3 {Om : zt_Om} {Rel : Nat → zm_I → Prop} {C : Nat × Option Nat × Bool × List (Nat × Nat) × (zm_L → List Value → zm_I → zm_R)} : zt_ksall Om Rel C [] := trivial
theorem zt_ksok_of {Om : zt_Om} {Rel : Nat → zm_I → Prop} {T : zm_T} : ∀ {Ks : List (Nat × List zt_K)}, zt_ksok Om Rel T Ks → ∀ (idx : Nat) (ks : List zt_K), zm_look Ks idx = some ks → ∃ C, zm_look T.2.2.1 idx = some C ∧ ∀ K ∈ ks, K.1 = (C.1, C.2.1, C.2.2.1, C.2.2.2.1) ∧ zt_Con Om Rel K C.2.2.2.2
  | [], _, _, _, h => by cases h
  | (j, k) :: r, h, idx, ks, hl => by
    unfold zm_look at hl
    split at hl
    · next e =>
      have e := Nat.eq_of_beq_eq_true e
      cases hl
      subst e
      obtain ⟨C, h1, h2⟩ := h.1
      exact ⟨C, h1, zt_ksall_mem _ h2⟩
    · exact zt_ksok_of h.2 idx ks hl
end
