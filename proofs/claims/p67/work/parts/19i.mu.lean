/-! A LOOP THAT ENDS BY THE MEMORY: a measure mu of the memory falls (flag 1), or stays (flag 0) while a rank falls; flag 2 is what mu's heads know -/
def zt_stf (fl : List Nat) : List Nat := match fl with
  | [] => []
  | _ => [0, 2]
def zt_edgeM (A : zt_An) (σ0 : zt_St) (q0 : zt_Q) (q : Nat × zt_St) : Bool := match zm_look A q.1 with
  | none => false
  | some zs => zs.any (fun z => zt_wi q.2 z.1 && (match σ0.2.2.2.isEmpty, z.1.2.2.2.isEmpty with
    | true, false => true
    | false, true => false
    | b, _ => (!b && q.2.2.2.2.any (Nat.beq 1)) || ((b || q.2.2.2.2.any (Nat.beq 0)) && (match zt_rkd q.2.1 σ0.1 z.2.2 q0.2 with
      | some d => zt_le (z.2.1 - q0.1 + d + 1) (.ofNat 0)
      | none => false))))
def zt_headM (H : zt_H) (P : zt_P) (fuel : Nat) (A : zt_An) (pc : Nat) (z : zt_St × zt_Q) : Bool := zt_no3s z.1 && z.1.2.2.2.all (Nat.beq 2) && (match zt_lbs z.1.1 z.2.2 with
  | some x => zt_le (.ofNat 0) (z.2.1 + x)
  | none => false) && (match zt_exp H P fuel pc (zt_sta 0 z.1.1, z.1.2.1, z.1.2.2.1, zt_stf z.1.2.2.2) with
  | some J => J.all (zt_edgeM A z.1 z.2)
  | none => false)
def zt_chkM (H : zt_H) (P : zt_P) (fuel : Nat) (A : zt_An) (nL : Nat) (K : zt_K) : Bool := Nat.ble (zt_sl K.2.2.1.1).length nL && K.2.2.1.1.all (fun a => a.2.2.2.2.isEmpty) && (K.2.2.1.2.2.isEmpty && K.2.2.2.2.all (fun o => o.2.2.2.isEmpty)) && (match zm_look A 0 with
  | some zs => zs.any (fun z => zt_wi (zt_pad nL (zt_sl K.2.2.1.1), [], K.2.2.1.2.1, K.2.2.1.2.2) z.1)
  | none => false) && A.all (fun h => h.2.all (zt_headM H P fuel A h.1))
def zt_Mu (Rel : Nat → Nat → zm_I → Prop) (mu : zm_I → Nat) : Prop := (∀ v M, Rel v 2 M → Rel (mu M) 0 M) ∧ (∀ v M, Rel v 0 M → mu M ≤ v) ∧ (∀ v M, Rel v 1 M → mu M < v) ∧ ∀ v v' M, Rel v 2 M → Rel v' 2 M
section ZTM
variable {Rel : Nat → Nat → zm_I → Prop} {mu : zm_I → Nat} {G : zt_G} {W : zt_W} {Kl : List Nat} {M0 : zm_I} {l0 : List (Option Value)} {s s' : Nat → Int} {ls : List (Option Value)} {st : List Value} {M : zm_I} {σ : zt_St} {Om : zt_Om} {H : zt_H} {T : zm_T} {wl : zm_L} {as : List Value}
theorem zt_S_v (hm : zt_Mu Rel mu) {v v' : Nat} (h : σ.2.2.2.all (Nat.beq 2) = true) (hS : zt_S (G, W, Kl, Rel v, M0, l0) s σ ls st M) : zt_S (G, W, Kl, Rel v', M0, l0) s σ ls st M := by
  obtain ⟨a, b, c, d, e⟩ := hS
  refine ⟨a, b, c, fun f hf => ?_, e⟩
  have h1 := d f hf
  have h2 := Nat.eq_of_beq_eq_true (List.all_eq_true.mp h f hf)
  subst h2
  exact hm.2.2.2 v v' M h1
theorem zt_S_st (hm : zt_Mu Rel mu) {v : Nat} (h : σ.2.2.2.all (Nat.beq 2) = true) (hS : zt_S (G, W, Kl, Rel v, M0, l0) s σ ls st M) : zt_S (G, W, Kl, Rel (mu M), M0, l0) s (σ.1, σ.2.1, σ.2.2.1, zt_stf σ.2.2.2) ls st M := by
  have hS' := zt_S_v (v' := mu M) hm h hS
  obtain ⟨a, b, c, d, e⟩ := hS'
  refine ⟨a, b, c, fun f hf => ?_, e⟩
  obtain ⟨x1, x2, x3, fl⟩ := σ
  cases fl with
  | nil => cases hf
  | cons f0 r =>
    have h2 : f0 = 2 := (Nat.eq_of_beq_eq_true (List.all_eq_true.mp h f0 (List.mem_cons_self ..))).symm
    subst h2
    have hd : Rel (mu M) 2 M := d 2 (List.mem_cons_self ..)
    have hf : f = 0 ∨ f = 2 := by simpa [zt_stf] using hf
    rcases hf with rfl | rfl
    · exact hm.1 _ M hd
    · exact hd
theorem zt_post_v {v v' : Nat} {O : List zt_O} (hO : O.all (fun o => o.2.2.2.isEmpty) = true) {w : Option Value} {N : zm_I} (h : zt_post (G, W, Kl, Rel v, M0, l0) as O w N) : zt_post (G, W, Kl, Rel v', M0, l0) as O w N := by
  obtain ⟨a, b, o, ho, c1, c2, c3, c4⟩ := h
  refine ⟨a, b, o, ho, c1, c2, c3, fun f hf => ?_⟩
  have := List.all_eq_true.mp hO o ho
  rw [List.isEmpty_iff.mp this] at hf
  cases hf
theorem zt_headsM0 (hm : zt_Mu Rel mu) (hH : ∀ v, zt_fits Om H (G, W, Kl, Rel v, M0, l0) T wl as) (hO : H.2.2.2.1.2.1.all (fun o => o.2.2.2.isEmpty) = true) {P : zt_P} (hP : P.1 = T.1) {fuel : Nat} {A : zt_An} (hA : A.all (fun h => h.2.all (zt_headM H P fuel A h.1)) = true) : ∀ (m n pc : Nat) (zs : List (zt_St × zt_Q)) (z : zt_St × zt_Q), zm_look A pc = some zs → z ∈ zs → z.1.2.2.2.isEmpty = false → ∀ (v0 : Nat) (s : Nat → Int) (ls : List (Option Value)) (st : List Value) (M : zm_I), zt_S (G, W, Kl, Rel v0, M0, l0) s z.1 ls st M → mu M < m → (z.2.1 + zt_sum (zt_ln ls) z.2.2).toNat < n → ∃ v N, zm_V T wl (pc, ls, st, M) = some (v, N) ∧ zt_post (G, W, Kl, Rel 0, M0, l0) as H.2.2.2.1.2.1 v N := by
  intro m
  induction m with
  | zero => intro n pc zs z _ _ _ v0 s ls st M _ h; omega
  | succ m ihm =>
    intro n
    induction n with
    | zero => intro pc zs z _ _ _ v0 s ls st M _ _ h; omega
    | succ n ihn =>
      intro pc zs z hzs hz hfl v0 s ls st M hS hmu hn
      have h1 := List.all_eq_true.mp (List.all_eq_true.mp hA _ (zm_look_mem hzs)) z hz
      simp only [zt_headM, Bool.and_eq_true] at h1
      obtain ⟨⟨⟨h2, h2f⟩, h3⟩, h4⟩ := h1
      have hS0 : zt_S (G, W, Kl, Rel (mu M), M0, l0) (zt_ln ls) (zt_sta 0 z.1.1, z.1.2.1, z.1.2.2.1, zt_stf z.1.2.2.2) ls st M := zt_S_st (σ := (zt_sta 0 z.1.1, z.1.2)) hm h2f (zt_start h2 hS)
      split at h4
      · next J hJ =>
        rcases zt_exp_ok (hH (mu M)) hP fuel pc _ J hJ ls st M hS0 with ⟨q, g1, ls', st', M', g2, g3⟩ | ⟨v, N, g1, g2⟩
        · have h5 := List.all_eq_true.mp h4 q g1
          unfold zt_edgeM at h5
          split at h5
          · cases h5
          · next zs' hzs' =>
            obtain ⟨z', h6, h7⟩ := List.any_eq_true.mp h5
            simp only [Bool.and_eq_true] at h7
            obtain ⟨h7, h8⟩ := h7
            rw [hfl] at h8
            have hfl' : z'.1.2.2.2.isEmpty = false := by
              cases hq : z'.1.2.2.2.isEmpty with
              | false => rfl
              | true => rw [hq] at h8; cases h8
            rw [hfl'] at h8
            simp only [Bool.not_false, Bool.true_and, Bool.false_or, Bool.or_eq_true, Bool.and_eq_true] at h8
            have hS' := zt_wi_ok h7 g3
            rw [g2]
            rcases h8 with h8 | ⟨h8, h9⟩
            · obtain ⟨f, hf, e⟩ := List.any_eq_true.mp h8
              have e := Nat.eq_of_beq_eq_true e
              subst e
              have hlt : mu M' < mu M := hm.2.2.1 _ _ (g3.2.2.2.1 1 hf)
              exact ihm _ q.1 zs' z' hzs' h6 hfl' _ _ ls' st' M' hS' (by omega) (Nat.lt_succ_self _)
            · obtain ⟨f, hf, e⟩ := List.any_eq_true.mp h8
              have e := Nat.eq_of_beq_eq_true e
              subst e
              have hle : mu M' ≤ mu M := hm.2.1 _ _ (g3.2.2.2.1 0 hf)
              split at h9
              · next d hd =>
                have h9 := zt_le_ok.mp h9
                have h9 : z'.2.1 - z.2.1 + d + 1 ≤ 0 := h9
                have h10 := zt_rkd_ok g3.1 hS.1 rfl _ _ d hd
                have hz' := List.all_eq_true.mp (List.all_eq_true.mp hA _ (zm_look_mem hzs')) z' h6
                simp only [zt_headM, Bool.and_eq_true] at hz'
                have h11 := hz'.1.2
                split at h11
                · next x hx =>
                  have h11 : 0 ≤ z'.2.1 + x := zt_le_ok.mp h11
                  have h12 := zt_lbs_ok hS'.1 _ x hx
                  exact ihn q.1 zs' z' hzs' h6 hfl' _ _ ls' st' M' hS' (by omega) (by omega)
                · cases h11
              · cases h9
        · exact ⟨v, N, g1, zt_post_v hO g2⟩
      · cases h4
theorem zt_headsM1 (hm : zt_Mu Rel mu) (hH : ∀ v, zt_fits Om H (G, W, Kl, Rel v, M0, l0) T wl as) (hO : H.2.2.2.1.2.1.all (fun o => o.2.2.2.isEmpty) = true) {P : zt_P} (hP : P.1 = T.1) {fuel : Nat} {A : zt_An} (hA : A.all (fun h => h.2.all (zt_headM H P fuel A h.1)) = true) : ∀ (n pc : Nat) (zs : List (zt_St × zt_Q)) (z : zt_St × zt_Q), zm_look A pc = some zs → z ∈ zs → ∀ (v0 : Nat) (s : Nat → Int) (ls : List (Option Value)) (st : List Value) (M : zm_I), zt_S (G, W, Kl, Rel v0, M0, l0) s z.1 ls st M → (z.2.1 + zt_sum (zt_ln ls) z.2.2).toNat < n → ∃ v N, zm_V T wl (pc, ls, st, M) = some (v, N) ∧ zt_post (G, W, Kl, Rel 0, M0, l0) as H.2.2.2.1.2.1 v N := by
  intro n
  induction n with
  | zero => intro pc zs z _ _ v0 s ls st M _ h; omega
  | succ n ihn =>
    intro pc zs z hzs hz v0 s ls st M hS hn
    cases hfl : z.1.2.2.2.isEmpty with
    | false => exact zt_headsM0 hm hH hO hP hA _ _ pc zs z hzs hz hfl v0 s ls st M hS (Nat.lt_succ_self _) (Nat.lt_succ_self _)
    | true =>
      have h1 := List.all_eq_true.mp (List.all_eq_true.mp hA _ (zm_look_mem hzs)) z hz
      simp only [zt_headM, Bool.and_eq_true] at h1
      obtain ⟨⟨⟨h2, h2f⟩, h3⟩, h4⟩ := h1
      have hS0 : zt_S (G, W, Kl, Rel (mu M), M0, l0) (zt_ln ls) (zt_sta 0 z.1.1, z.1.2.1, z.1.2.2.1, zt_stf z.1.2.2.2) ls st M := zt_S_st (σ := (zt_sta 0 z.1.1, z.1.2)) hm h2f (zt_start h2 hS)
      split at h4
      · next J hJ =>
        rcases zt_exp_ok (hH (mu M)) hP fuel pc _ J hJ ls st M hS0 with ⟨q, g1, ls', st', M', g2, g3⟩ | ⟨v, N, g1, g2⟩
        · have h5 := List.all_eq_true.mp h4 q g1
          unfold zt_edgeM at h5
          split at h5
          · cases h5
          · next zs' hzs' =>
            obtain ⟨z', h6, h7⟩ := List.any_eq_true.mp h5
            simp only [Bool.and_eq_true] at h7
            obtain ⟨h7, h8⟩ := h7
            have hS' := zt_wi_ok h7 g3
            rw [g2]
            cases hq : z'.1.2.2.2.isEmpty with
            | false => exact zt_headsM0 hm hH hO hP hA _ _ q.1 zs' z' hzs' h6 hq _ _ ls' st' M' hS' (Nat.lt_succ_self _) (Nat.lt_succ_self _)
            | true =>
              rw [hfl, hq] at h8
              simp only [Bool.not_true, Bool.false_and, Bool.true_or, Bool.false_or, Bool.true_and] at h8
              split at h8
              · next d hd =>
                have h9 := zt_le_ok.mp h8
                have h9 : z'.2.1 - z.2.1 + d + 1 ≤ 0 := h9
                have h10 := zt_rkd_ok g3.1 hS.1 rfl _ _ d hd
                have hz' := List.all_eq_true.mp (List.all_eq_true.mp hA _ (zm_look_mem hzs')) z' h6
                simp only [zt_headM, Bool.and_eq_true] at hz'
                have h11 := hz'.1.2
                split at h11
                · next x hx =>
                  have h11 : 0 ≤ z'.2.1 + x := zt_le_ok.mp h11
                  have h12 := zt_lbs_ok hS'.1 _ x hx
                  exact ihn q.1 zs' z' hzs' h6 _ _ ls' st' M' hS' (by omega)
                · cases h11
              · cases h8
        · exact ⟨v, N, g1, zt_post_v hO g2⟩
      · cases h4
end ZTM
theorem zt_conM {Om : zt_Om} {Rel : Nat → Nat → zm_I → Prop} {mu : zm_I → Nat} {U : zt_U} {T : zm_T} {nL : Nat} {K : zt_K} {w0 : zm_L} {Sg : zt_Sg} {G : zt_G} {Kl : List Nat} {Ks : List (Nat × List zt_K)} {sp : List (Nat × List (Nat × Nat × Nat))} {hd : List Nat} {fuel : Nat} {A : zt_An} {B : List (Nat × List (Instr × Nat × Nat))} {cs : List (Nat × Value)} {ret : Option FieldType}
    (hm : zt_Mu Rel mu) (hU : ∀ v, zt_UR U (Rel v)) (hOm : Om[K.2.1]? = some (w0, G)) (hSg : Sg.all (zt_sbB Om) = true) (hB : B = T.1) (hcs : cs = T.2.1) (hret : ret = T.2.2.2.1) (hKs : ∀ v (idx : Nat) (ks : List zt_K), zm_look Ks idx = some ks → ∃ C, zm_look T.2.2.1 idx = some C ∧ ∀ K ∈ ks, K.1 = (C.1, C.2.1, C.2.2.1, C.2.2.2.1) ∧ zt_Con Om (Rel v) K C.2.2.2.2)
    (h : zt_chkM ((w0, K.2.1, Sg), (G, K.2.2.2.1, Kl, U), cs, (ret, K.2.2.2.2, K.2.2.1.1), Ks) (B, sp, hd) fuel A nL K = true) : ∀ v, zt_Con Om (Rel v) K (zm_F zm_V T nL) := by
  intro v1
  intro w0' G' hOm' wl as M hw hA hC hF hG
  rw [hOm] at hOm'
  cases hOm'
  simp only [zt_chkM, Bool.and_eq_true, Nat.ble_eq] at h
  obtain ⟨⟨⟨⟨h1, h0⟩, hfe, hO⟩, h2⟩, h3⟩ := h
  have hlen := zt_sl_len _ _ hA
  have hle : (zm_sl as).length ≤ nL := by rw [hlen]; exact h1
  have hfit : ∀ v, zt_fits Om ((w0, K.2.1, Sg), (G, K.2.2.2.1, Kl, U), cs, (ret, K.2.2.2.2, K.2.2.1.1), Ks) (G, K.2.2.2.1, Kl, Rel v, M, zm_pad nL (zm_sl as)) T wl as := fun v => ⟨⟨hw, hOm, hSg⟩, ⟨rfl, rfl, rfl, hU v⟩, hcs, ⟨hret, hA, fun k v hk => zt_pad_to nL _ k v hle hk⟩, hKs v⟩
  split at h2
  · next zs hzs =>
    obtain ⟨z, h4, h5⟩ := List.any_eq_true.mp h2
    have hS : zt_S (G, K.2.2.2.1, Kl, Rel v1, M, zm_pad nL (zm_sl as)) (fun _ => 0) (zt_pad nL (zt_sl K.2.2.1.1), [], K.2.2.1.2.1, K.2.2.1.2.2) (zm_pad nL (zm_sl as)) [] M := by
      refine ⟨⟨by rw [zm_pad_len, zt_pad_len], fun k a hk => ?_⟩, trivial, fun c hc => ?_, hF, hG, fun _ _ _ => ⟨rfl, rfl⟩, fun _ _ => rfl⟩
      · have hk := zt_pad_get _ _ _ _ hk
        obtain ⟨v, g1, g2⟩ := zt_sl_ok _ _ k a hA hk
        refine ⟨v, zt_pad_to nL _ k v hle g1, zt_v_no ?_ g2⟩
        have : ∀ (xs : List zt_A) (j : Nat), xs.all (fun a => a.2.2.2.2.isEmpty) = true → (zt_sl xs)[j]? = some (some a) → a.2.2.2.2.isEmpty = true := by
          intro xs
          induction xs with
          | nil => intro j _ h; simp [zt_sl] at h
          | cons b xs ih =>
            intro j hall h
            simp only [List.all_cons, Bool.and_eq_true] at hall
            unfold zt_sl at h
            split at h
            · match j, h with
              | 0, h => cases h; exact hall.1
              | 1, h => cases h
              | j + 2, h => exact ih j hall.2 h
            · match j, h with
              | 0, h => cases h; exact hall.1
              | j + 1, h => exact ih j hall.2 h
        exact this _ k h0 hk
      · have h6 := hC c hc
        obtain ⟨⟨t, a, b⟩, lo, hi⟩ := c
        by_cases ht : t = 1
        · subst ht
          exact h6
        · rw [zt_cs_ne (c := ((t, a, b), lo, hi)) ht] at h6 ⊢
          obtain ⟨y, g1, g2⟩ := h6
          exact ⟨y, zt_pad_to nL _ _ _ hle g1, g2⟩
    have hS1 := zt_wi_ok h5 hS
    obtain ⟨v, N, g1, g2, g3, g4⟩ := zt_headsM1 hm hfit hO hB h3 _ 0 zs z hzs h4 v1 _ _ _ _ hS1 (Nat.lt_succ_self _)
    obtain ⟨g2, g3, g4⟩ := zt_post_v (v' := v1) hO ⟨g2, g3, g4⟩
    refine ⟨v, N, ?_, g2, g3, g4⟩
    unfold zm_F
    rw [Nat.ble_eq.mpr hle]
    exact g1
  · cases h2
