/-! CALLS, RETURNS, EVERY INSTRUCTION, EVERY RUN -/
theorem zm_tolist (h : Nat → Nat → Nat) (v : Option Value) (rest : List Value) : (v.map (zm_cv h)).toList ++ rest.map (zm_cv h) = (v.toList ++ rest).map (zm_cv h) := by
  cases v <;> simp
section ZMA
variable {p : Program} {l : Launch} {e : Env} {R : Room} {s : State} {m : MethodId} {args : Array Value} {below : List Frame} {meth : Method} {c : Code}
variable {Q : State → Prop} {D : va_G} {cA : FieldType → ClassId} {h : Nat → Nat → Nat} {wl : zm_L} {A : Nat → Prop} {nL c0 s0 : Nat} {own : String} {cc : ByteArray} {T : zm_T} {pc : Nat} {ls : List (Option Value)} {st : List Value} {M : zm_I} {r : Option Value × zm_I} {k : zm_S → zm_R} {kn : zm_N}
theorem zm_i_call (B : zm_B p s m args meth c own cc nL T D cA h A R c0 s0) (hO : ∀ (idx : Nat) (C : zm_C), zm_look T.2.2.1 idx = some C → zm_callok l R own idx C) (hD : va_D A (zm_ws cA h wl M)) (hA : ∀ q, s.heap.size ≤ q → A q) (hw : zm_wok wl) {ct idx : Nat} {ins : Instr} (hi : (ct = 0 ∧ ins = .invokevirtual idx) ∨ (ct = 1 ∧ ins = .invokestatic idx)) (hd : decode cc pc = .ok (ins, 3)) (hh : zm_cl3 kn T wl ct idx ls st M = some r)
    (hn : ∀ ls' st' M', kn ls' st' M' = some r → zm_G p l e R s m args below meth c Q D cA h wl A nL c0 s0 (pc + 3, ls', st', M')) : zm_G p l e R s m args below meth c Q D cA h wl A nL c0 s0 (pc, ls, st, M) := by
  intro H locs la hl hP hS
  have hZ0 : zm_Z (h 1) A s s.heap := B.2.2.2.2.2.2.2.2.1
  unfold zm_cl3 at hh
  split at hh
  · next C hC =>
    split at hh
    · next hb =>
      simp only [Bool.and_eq_true, Nat.ble_eq] at hb
      obtain ⟨⟨hb1, hb2⟩, hb3⟩ := hb
      have hst : st.map (zm_cv h) = ((st.take C.1).reverse.map (zm_cv h)).reverse ++ (st.drop C.1).map (zm_cv h) := by
        rw [← List.map_reverse, List.reverse_reverse, ← List.map_append, List.take_append_drop]
      have hsum : (((st.drop C.1).map (zm_cv h)).map fun v => v.category).sum ≤ 8 := by
        rw [List.map_map]
        have e9 : ((fun v : Value => v.category) ∘ zm_cv h) = fun v => v.category := by funext v; exact zm_cv_cat h v
        rw [e9]
        exact hb2
      have hlen : (st.take C.1).reverse.length = C.1 := by simp; omega
      generalize (st.take C.1).reverse = as at hh hst hlen
      dsimp only
      rw [hst]
      unfold zm_app at hh
      split at hh
      · cases hh
      · next hrv =>
        split at hh
        · split at hh
          · next v N hF =>
            have hfree : ∀ q, va_A (zm_ws cA h wl M) H.size q → A q := by
              intro q hq
              rcases hq with ⟨k9, e9, hq⟩ | hq
              · exact hD.2 k9 _ hq
              · exact hA q (Nat.le_trans hS.1 hq)
            have hrun := zm_runC (locs := locs) (e := e) (below := below) B (hO _ _ hC) hi hd hb3 hl.2.1 hlen hsum hP hrv hF rfl hP (hD.weaken (fun _ _ _ _ => trivial)) hw (fun U _ hW => zm_Z_go hZ0 hS hW hfree) (fun k hk => by obtain ⟨⟨adV, h1, -, -⟩, -⟩ := hZ0; exact vk_recv h1 hk hS)
            refine zm_callW hrun hS (fun q _ hq => hfree q hq) hfree (fun H1 locs1 hP1 _ _ hS1 => ?_)
            rw [zm_tolist]
            exact hn _ _ _ hh H1 locs1 la hl hP1 hS1
          · cases hh
        · split at hh
          · cases hh
          · next bs hbs =>
            split at hh
            · cases hh
            · next hdb =>
              simp only [Bool.and_eq_true] at hdb
              obtain ⟨hdis, hbd⟩ := hdb
              split at hh
              · next v N hF =>
                have hget : ∀ {X : zm_I} {k9 : Nat} {q : Nat × va_E}, (zm_ws cA (zm_hr h bs) (zm_sub bs wl) X)[k9]? = some q → ∃ d, k9 < zm_tot bs ∧ wl[zm_fw bs k9]? = some d ∧ q = (h 0 (zm_fw bs k9), zm_e cA (zm_hr h bs) X k9 (d.1, d.2.map (zm_tr bs))) := by
                  intro X k9 q hq
                  obtain ⟨d, h1, rfl⟩ := zm_ws_of hq
                  have hk : k9 < zm_tot bs := by
                    have := (List.getElem?_eq_some_iff.mp h1).1
                    rwa [zm_sub_len] at this
                  obtain ⟨d0, g1, g2⟩ := zm_sub_get hbd hk
                  rw [h1] at g2
                  cases g2
                  exact ⟨d0, hk, g1, rfl⟩
                have hP' : va_P D zm_cl (zm_ws cA (zm_hr h bs) (zm_sub bs wl) (fun n => M.1 (zm_fw bs n), fun n => M.2 (zm_fw bs n))) H := by
                  intro k9 q hq
                  obtain ⟨d, hk, g1, rfl⟩ := hget hq
                  rw [zm_e_sub (N := (fun n => M.1 (zm_fw bs n), fun n => M.2 (zm_fw bs n))) (k := k9) (M := M) (n := zm_fw bs k9) d rfl rfl]
                  exact hP _ _ (zm_ws_at g1)
                have hD' : va_D (fun _ => True) (zm_ws cA (zm_hr h bs) (zm_sub bs wl) (fun n => M.1 (zm_fw bs n), fun n => M.2 (zm_fw bs n))) := by
                  refine ⟨fun i j p q hi hj hpq => ?_, fun _ _ _ => trivial⟩
                  obtain ⟨d1, hk1, g1, rfl⟩ := hget hi
                  obtain ⟨d2, hk2, g2, rfl⟩ := hget hj
                  have := hD.1 _ _ _ _ (zm_ws_at g1) (zm_ws_at g2) hpq
                  have e9 := congrArg (zm_iv bs) this
                  rwa [zm_iv_fw bs i hdis hk1, zm_iv_fw bs j hdis hk2] at e9
                have hw' : zm_wok (zm_sub bs wl) := by
                  intro n C9 len rs hq
                  have hk : n < zm_tot bs := by
                    have := (List.getElem?_eq_some_iff.mp hq).1
                    rwa [zm_sub_len] at this
                  obtain ⟨⟨d01, d02⟩, g1, g2⟩ := zm_sub_get hbd hk
                  rw [hq] at g2
                  simp only [Option.some.injEq, Prod.mk.injEq] at g2
                  rw [← g2.1] at g1
                  exact hw _ _ _ _ g1
                have hin : ∀ q, (∃ (k9 : Nat) (e9 : va_E), (zm_ws cA (zm_hr h bs) (zm_sub bs wl) (fun n => M.1 (zm_fw bs n), fun n => M.2 (zm_fw bs n)))[k9]? = some (q, e9)) → ∃ k9, k9 < zm_tot bs ∧ q = h 0 (zm_fw bs k9) ∧ A q := by
                  intro q ⟨k9, e9, hq⟩
                  obtain ⟨d, hk, g1, g2⟩ := hget hq
                  have e1 : q = h 0 (zm_fw bs k9) := congrArg Prod.fst g2
                  exact ⟨k9, hk, e1, by rw [e1]; exact hD.2 _ _ (zm_ws_at g1)⟩
                have hfree : ∀ q, va_A (zm_ws cA (zm_hr h bs) (zm_sub bs wl) (fun n => M.1 (zm_fw bs n), fun n => M.2 (zm_fw bs n))) H.size q → A q := by
                  intro q hq
                  rcases hq with hq | hq
                  · obtain ⟨_, _, _, g⟩ := hin q hq
                    exact g
                  · exact hA q (Nat.le_trans hS.1 hq)
                have hrun := zm_runC (locs := locs) (e := e) (below := below) B (hO _ _ hC) hi hd hb3 hl.2.1 hlen hsum hP hrv (h' := zm_hr h bs) hF (by rw [List.map_map]; apply List.map_congr_left; intro v _; exact zm_cv_tr h bs v) hP' hD' hw' (fun U _ hW => zm_Z_go hZ0 hS hW hfree) (fun k hk => by obtain ⟨⟨adV, h1, -, -⟩, -⟩ := hZ0; exact vk_recv h1 hk hS)
                refine zm_callW hrun hS (fun q _ hq => hfree q hq) hfree (fun H1 locs1 hP1 _ hkeep hS1 => ?_)
                have e8 : (v.map (zm_cv (zm_hr h bs))) = (v.map (zm_bk bs)).map (zm_cv h) := by
                  cases v with
                  | none => rfl
                  | some v => simp only [Option.map_some]; rw [zm_cv_bk]
                dsimp only
                rw [e8, zm_tolist]
                refine hn _ _ _ hh H1 locs1 la hl ?_ hS1
                intro n q hq
                obtain ⟨d, g1, rfl⟩ := zm_ws_of hq
                dsimp only at g1 ⊢
                cases hin9 : zm_in bs n with
                | true =>
                  have hk9 := zm_in_iv bs n hin9
                  obtain ⟨d0, f1, f2⟩ := zm_sub_get hbd hk9
                  rw [zm_fw_iv, g1] at f1
                  cases f1
                  have := hP1 (zm_iv bs n) _ (zm_ws_at f2)
                  rw [zm_e_sub (M := zm_mrg bs M N) (n := n) d (by funext i; simp only [zm_mrg, hin9]) (by funext i; simp only [zm_mrg, hin9])] at this
                  rw [show zm_hr h bs 0 (zm_iv bs n) = h 0 (zm_fw bs (zm_iv bs n)) from rfl, zm_fw_iv] at this
                  exact this
                | false =>
                  have hold := hP n _ (zm_ws_at g1)
                  rw [zm_e_congr (M := M) (M' := zm_mrg bs M N) d (by funext i; simp only [zm_mrg, hin9]) (by funext i; simp only [zm_mrg, hin9])]
                  refine hold.kept (hkeep (h 0 n) hold.lt (fun hq9 => ?_))
                  rcases hq9 with hq9 | hq9
                  · obtain ⟨k9, hk9, e9, -⟩ := hin _ hq9
                    obtain ⟨d0, f1, -⟩ := zm_sub_get hbd hk9
                    have := hD.1 _ _ _ _ (zm_ws_at (cA := cA) (h := h) (M := M) g1) (zm_ws_at (cA := cA) (h := h) (M := M) f1) e9
                    rw [this, zm_in_fw bs k9 hk9] at hin9
                    cases hin9
                  · exact absurd hold.lt (Nat.not_lt.mpr hq9)
              · cases hh
    · cases hh
  · cases hh
theorem zm_i_ret (B : zm_B p s m args meth c own cc nL T D cA h A R c0 s0) {ct : Nat} {ins : Instr} (hi : (ct = 0 ∧ ins = .ireturn) ∨ (ct = 1 ∧ ins = .lreturn) ∨ (ct = 2 ∧ ins = .areturn) ∨ (ct = 3 ∧ ins = .return_)) (hd : decode cc pc = .ok (ins, 1)) (hh : zm_ret T ct st M = some r) : zm_G p l e R s m args below meth c (MQ below (zm_Q D cA h wl A r) args s c0 s0 A) D cA h wl A nL c0 s0 (pc, ls, st, M) := by
  intro H locs la hl hP hS
  obtain ⟨hx, hb, hml, hown, hts, hK, hr, hlk, hZ, hcs, hsc⟩ := B
  unfold zm_ret at hh
  split at hh
  · split at hh
    · next hT =>
      split at hh
      · next hc =>
        have hc := Nat.eq_of_beq_eq_true hc
        subst hc
        rcases hi with ⟨hc, -⟩ | ⟨hc, -⟩ | ⟨hc, -⟩ | ⟨-, rfl⟩
        · cases hc
        · cases hc
        · cases hc
        · cases hh
          exact W.vret hx hb (by rw [hr, hT]) (fun t ht hW => ⟨rfl, by rw [ht]; exact hP, hS.F ht⟩) hS.2.2 hd
      · cases hh
    · cases hh
  · next x =>
    split at hh
    · cases hh
    · next hc =>
      have hc := Nat.eq_of_beq_eq_true hc
      subst hc
      rcases hi with ⟨-, rfl⟩ | ⟨hc, -⟩ | ⟨hc, -⟩ | ⟨hc, -⟩
      · split at hh
        · next hT =>
          cases hh
          exact W.zret (ty := .int) hx hb (by rw [hr, hT]) rfl (fun t ht hW => ⟨rfl, by rw [ht]; exact hP, hS.F ht⟩) hS.2.2 hd
        · next hT =>
          split at hh
          · next h01 =>
            cases hh
            exact W.zret (ty := .boolean) hx hb (by rw [hr, hT]) (by rcases h01 with rfl | rfl <;> rfl) (fun t ht hW => ⟨rfl, by rw [ht]; exact hP, hS.F ht⟩) hS.2.2 hd
          · cases hh
        · cases hh
      all_goals cases hc
  · next x =>
    split at hh
    · cases hh
    · next hc =>
      have hc := Nat.eq_of_beq_eq_true hc
      subst hc
      rcases hi with ⟨hc, -⟩ | ⟨-, rfl⟩ | ⟨hc, -⟩ | ⟨hc, -⟩
      · cases hc
      · split at hh
        · next hT =>
          cases hh
          exact W.lret hx hb (by rw [hr, hT]) (fun t ht hW => ⟨rfl, by rw [ht]; exact hP, hS.F ht⟩) hS.2.2 hd
        · cases hh
      all_goals cases hc
  · next x =>
    split at hh
    · cases hh
    · next hc =>
      have hc := Nat.eq_of_beq_eq_true hc
      subst hc
      rcases hi with ⟨hc, -⟩ | ⟨hc, -⟩ | ⟨-, rfl⟩ | ⟨hc, -⟩
      · cases hc
      · cases hc
      · split at hh
        · next hT =>
          cases hh
          exact W.aret hx hb (by rw [hr, hT]) (Or.inl ⟨_, rfl⟩) (Or.inr ⟨_, rfl⟩) (fun t ht hW => ⟨rfl, by rw [ht]; exact hP, hS.F ht⟩) hS.2.2 hd
        · cases hh
      · cases hc
  · split at hh
    · cases hh
    · next hc =>
      have hc := Nat.eq_of_beq_eq_true hc
      subst hc
      rcases hi with ⟨hc, -⟩ | ⟨hc, -⟩ | ⟨-, rfl⟩ | ⟨hc, -⟩
      · cases hc
      · cases hc
      · split at hh
        · next hT =>
          cases hh
          exact W.aret hx hb (by rw [hr, hT]) (Or.inl ⟨_, rfl⟩) (Or.inl rfl) (fun t ht hW => ⟨rfl, by rw [ht]; exact hP, hS.F ht⟩) hS.2.2 hd
        · cases hh
      · cases hc
  · cases hh
theorem zm_i_stk (B : zm_B p s m args meth c own cc nL T D cA h A R c0 s0) {i : Instr} (hdec : zm_dec cc pc i = true) (hh : zm_stk k kn i pc ls st M = some r)
    (hk : ∀ S, k S = some r → zm_G p l e R s m args below meth c Q D cA h wl A nL c0 s0 S) (hn : ∀ ls' st' M', kn ls' st' M' = some r → zm_G p l e R s m args below meth c Q D cA h wl A nL c0 s0 (pc + zm_len i, ls', st', M')) : zm_G p l e R s m args below meth c Q D cA h wl A nL c0 s0 (pc, ls, st, M) := by
  intro H locs la hl hP hS
  obtain ⟨hx, hb, hml, hown, hts, hK, hr, hlk, hZ, hcs, hsc⟩ := B
  unfold zm_stk at hh
  split at hh
  · have hd := zm_dec_o hdec rfl
    split at hh
    · exact lv_i2l hx hb hd rfl (hn _ _ _ hh H locs la hl hP hS)
    · cases hh
  · have hd := zm_dec_o hdec rfl
    split at hh
    · exact lv_l2i hx hb hd rfl (hn _ _ _ hh H locs la hl hP hS)
    · cases hh
  · have hd := zm_dec_o hdec rfl
    split at hh
    · exact W.lcmp hx hb hd (hn _ _ _ hh H locs la hl hP hS)
    · cases hh
  · have hd := zm_dec_o hdec rfl
    split at hh
    · exact lv_dup hx hb hd rfl (hn _ _ _ hh H locs la hl hP hS)
    · exact lv_dup hx hb hd rfl (hn _ _ _ hh H locs la hl hP hS)
    · cases hh
  · have hd := zm_dec_o hdec rfl
    split at hh
    · exact lv_dup2_11 hx hb hd rfl rfl (hn _ _ _ hh H locs la hl hP hS)
    · exact lv_dup2_2 hx hb hd rfl (hn _ _ _ hh H locs la hl hP hS)
    · cases hh
  · have hd := zm_dec_o hdec rfl
    split at hh
    · exact lv_pop hx hb hd rfl (hn _ _ _ hh H locs la hl hP hS)
    · cases hh
  · next off =>
    have hd := zm_dec_o hdec rfl
    have ht := zm_dec_tg hdec (o := off) List.mem_cons_self
    split at hh
    · next t => exact lv_ifnullN hx hb hd ht (hk (zm_tg pc off, ls, t, M) hh H locs la hl hP hS)
    · exact lv_ifnull hx hb hd (hn _ _ _ hh H locs la hl hP hS)
    · cases hh
  · next off =>
    have hd := zm_dec_o hdec rfl
    have ht := zm_dec_tg hdec (o := off) List.mem_cons_self
    split at hh
    · next t => exact lv_ifnonnull hx hb hd ht (hk (zm_tg pc off, ls, _, M) hh H locs la hl hP hS)
    · exact lv_ifnonnullN hx hb hd (hn _ _ _ hh H locs la hl hP hS)
    · cases hh
  · next i n =>
    have hd := zm_dec_o hdec rfl
    split at hh
    · next x hx9 =>
      have hi : i < ls.length := (List.getElem?_eq_some_iff.mp hx9).1
      obtain ⟨j, hj⟩ := List.getElem?_of_mem (zm_prs_in (h := h) hx9)
      exact lv_iinc hx hb hd (zm_lok_has hl) hj rfl (by rw [← hl.1]; exact hi) rfl (fun la' hla' => hn _ _ _ hh H locs la' (zm_lok_1 (v := .int (x + Int32.ofInt n)) hl hi hla') hP hS)
    · cases hh
  · cases hh
/-- ONE INSTRUCTION OF ANY KIND -/
theorem zm_i (hcw : zm_cwok) (hma : zm_mathok) (B : zm_B p s m args meth c own cc nL T D cA h A R c0 s0) (hO1 : ∀ (idx : Nat) (v : Value), zm_look T.2.1 idx = some v → zm_cok own idx v) (hO2 : ∀ (idx : Nat) (C : zm_C), zm_look T.2.2.1 idx = some C → zm_callok l R own idx C) (hD : va_D A (zm_ws cA h wl M)) (hA : ∀ q, s.heap.size ≤ q → A q) (hw : zm_wok wl) {i : Instr} {a b : Nat} (hdec : zm_dec cc pc i = true) (hio : zm_iok R own i a b) (hQ : Q = MQ below (zm_Q D cA h wl A r) args s c0 s0 A) (hh : zm_ins T wl k kn i a b pc ls st M = some r)
    (hk : ∀ S, k S = some r → zm_G p l e R s m args below meth c Q D cA h wl A nL c0 s0 S) (hn : ∀ ls' st' M', kn ls' st' M' = some r → zm_G p l e R s m args below meth c Q D cA h wl A nL c0 s0 (pc + zm_len i, ls', st', M')) : zm_G p l e R s m args below meth c Q D cA h wl A nL c0 s0 (pc, ls, st, M) := by
  have B0 := B
  obtain ⟨hx, hb, hml, hown, hts, hK, hr, hlk, hZ, hcs, hsc⟩ := B0
  have LD0 : ∀ {x : Nat}, zm_ld kn 0 x ls st M = some r → (∀ (H : Heap) (locs : List Loc) (la : Array Slot) (y : Int32), la[x]? = some (.val (.int y)) → W p l e R s m args below meth c H locs c0 s0 Q (F0 m (pc + zm_len i) la (.int y :: st.map (zm_cv h))) → W p l e R s m args below meth c H locs c0 s0 Q (F0 m pc la (st.map (zm_cv h)))) → zm_G p l e R s m args below meth c Q D cA h wl A nL c0 s0 (pc, ls, st, M) := by
    intro x hh hrow H locs la hl hP hS
    obtain ⟨y, h1, h2⟩ := zm_ld_0 hh
    exact hrow H locs la y (hl.2.2.2 _ _ h1) (hn _ _ _ h2 H locs la hl hP hS)
  have LD1 : ∀ {x : Nat}, zm_ld kn 1 x ls st M = some r → (∀ (H : Heap) (locs : List Loc) (la : Array Slot) (y : Int64), la[x]? = some (.val (.long y)) → W p l e R s m args below meth c H locs c0 s0 Q (F0 m (pc + zm_len i) la (.long y :: st.map (zm_cv h))) → W p l e R s m args below meth c H locs c0 s0 Q (F0 m pc la (st.map (zm_cv h)))) → zm_G p l e R s m args below meth c Q D cA h wl A nL c0 s0 (pc, ls, st, M) := by
    intro x hh hrow H locs la hl hP hS
    obtain ⟨y, h1, h2⟩ := zm_ld_1 hh
    exact hrow H locs la y (hl.2.2.2 _ _ h1) (hn _ _ _ h2 H locs la hl hP hS)
  have LD2 : ∀ {x : Nat}, zm_ld kn 2 x ls st M = some r → (∀ (H : Heap) (locs : List Loc) (la : Array Slot) (y : Nat), la[x]? = some (.val (.ref y)) → W p l e R s m args below meth c H locs c0 s0 Q (F0 m (pc + zm_len i) la (.ref y :: st.map (zm_cv h))) → W p l e R s m args below meth c H locs c0 s0 Q (F0 m pc la (st.map (zm_cv h)))) → (∀ (H : Heap) (locs : List Loc) (la : Array Slot), la[x]? = some (.val .null) → W p l e R s m args below meth c H locs c0 s0 Q (F0 m (pc + zm_len i) la (.null :: st.map (zm_cv h))) → W p l e R s m args below meth c H locs c0 s0 Q (F0 m pc la (st.map (zm_cv h)))) → zm_G p l e R s m args below meth c Q D cA h wl A nL c0 s0 (pc, ls, st, M) := by
    intro x hh hrow hrowN H locs la hl hP hS
    rcases zm_ld_2 hh with ⟨y, h1, h2⟩ | ⟨h1, h2⟩ | ⟨y, h1, h2⟩
    · exact hrow H locs la (h 0 y) (hl.2.2.2 _ _ h1) (hn _ _ _ h2 H locs la hl hP hS)
    · exact hrowN H locs la (hl.2.2.2 _ _ h1) (hn _ _ _ h2 H locs la hl hP hS)
    · exact hrow H locs la (h 1 y) (hl.2.2.2 _ _ h1) (hn _ _ _ h2 H locs la hl hP hS)
  cases i
  case iload_n x => exact LD0 hh (fun H locs la y h1 h2 => lv_iload_n hx hb (zm_dec_o hdec rfl) rfl h1 h2)
  case iload x => exact LD0 hh (fun H locs la y h1 h2 => lv_iload hx hb (zm_dec_o hdec rfl) h1 h2)
  case lload_n x => exact LD1 hh (fun H locs la y h1 h2 => lv_lload_n hx hb (zm_dec_o hdec rfl) rfl h1 h2)
  case lload x => exact LD1 hh (fun H locs la y h1 h2 => lv_lload hx hb (zm_dec_o hdec rfl) h1 h2)
  case aload_n x => exact LD2 hh (fun H locs la y h1 h2 => lv_aload_n hx hb (zm_dec_o hdec rfl) rfl h1 h2) (fun H locs la h1 h2 => lv_aload_nN hx hb (zm_dec_o hdec rfl) rfl h1 h2)
  case aload x => exact LD2 hh (fun H locs la y h1 h2 => lv_aload hx hb (zm_dec_o hdec rfl) h1 h2) (fun H locs la h1 h2 => lv_aloadN hx hb (zm_dec_o hdec rfl) h1 h2)
  case istore_n x =>
    intro H locs la hl hP hS
    obtain ⟨y, t, rfl, h1, h2⟩ := zm_st_0 hh
    exact lv_istore_n hx hb (zm_dec_o hdec rfl) rfl (zm_lok_has hl) (by rw [← hl.1]; exact h1) rfl (fun la' hla' => hn _ _ _ h2 H locs la' (zm_lok_1 (v := .int y) hl h1 hla') hP hS)
  case istore x =>
    intro H locs la hl hP hS
    obtain ⟨y, t, rfl, h1, h2⟩ := zm_st_0 hh
    exact lv_istore hx hb (zm_dec_o hdec rfl) (zm_lok_has hl) (by rw [← hl.1]; exact h1) rfl (fun la' hla' => hn _ _ _ h2 H locs la' (zm_lok_1 (v := .int y) hl h1 hla') hP hS)
  case lstore_n x =>
    intro H locs la hl hP hS
    obtain ⟨y, t, rfl, h1, h2⟩ := zm_st_1 hh
    exact lv_lstore_n hx hb (zm_dec_o hdec rfl) rfl (zm_lok_has hl) (by rw [← hl.1]; exact h1) rfl (fun la' hla' => hn _ _ _ h2 H locs la' (zm_lok_2 (v := .long y) hl h1 hla') hP hS)
  case lstore x =>
    intro H locs la hl hP hS
    obtain ⟨y, t, rfl, h1, h2⟩ := zm_st_1 hh
    exact lv_lstore hx hb (zm_dec_o hdec rfl) (zm_lok_has hl) (by rw [← hl.1]; exact h1) rfl (fun la' hla' => hn _ _ _ h2 H locs la' (zm_lok_2 (v := .long y) hl h1 hla') hP hS)
  case astore_n x =>
    intro H locs la hl hP hS
    rcases zm_st_2 hh with ⟨y, t, rfl, h1, h2⟩ | ⟨t, rfl, h1, h2⟩
    · exact lv_astore_n hx hb (zm_dec_o hdec rfl) rfl (zm_lok_has hl) (by rw [← hl.1]; exact h1) rfl (fun la' hla' => hn _ _ _ h2 H locs la' (zm_lok_1 (v := .ref y) hl h1 hla') hP hS)
    · exact lv_astore_nN hx hb (zm_dec_o hdec rfl) rfl (zm_lok_has hl) (by rw [← hl.1]; exact h1) rfl (fun la' hla' => hn _ _ _ h2 H locs la' (zm_lok_1 (v := .null) hl h1 hla') hP hS)
  case astore x =>
    intro H locs la hl hP hS
    rcases zm_st_2 hh with ⟨y, t, rfl, h1, h2⟩ | ⟨t, rfl, h1, h2⟩
    · exact lv_astore hx hb (zm_dec_o hdec rfl) (zm_lok_has hl) (by rw [← hl.1]; exact h1) rfl (fun la' hla' => hn _ _ _ h2 H locs la' (zm_lok_1 (v := .ref y) hl h1 hla') hP hS)
    · exact lv_astoreN hx hb (zm_dec_o hdec rfl) (zm_lok_has hl) (by rw [← hl.1]; exact h1) rfl (fun la' hla' => hn _ _ _ h2 H locs la' (zm_lok_1 (v := .null) hl h1 hla') hP hS)
  case iconst n => exact fun H locs la hl hP hS => lv_iconst hx hb (zm_dec_o hdec rfl) rfl (hn _ _ _ hh H locs la hl hP hS)
  case bipush n => exact fun H locs la hl hP hS => lv_bipush hx hb (zm_dec_o hdec rfl) rfl (hn _ _ _ hh H locs la hl hP hS)
  case sipush n => exact fun H locs la hl hP hS => lv_sipush hx hb (zm_dec_o hdec rfl) rfl (hn _ _ _ hh H locs la hl hP hS)
  case lconst n => exact fun H locs la hl hP hS => lv_lconst hx hb (zm_dec_o hdec rfl) rfl (hn _ _ _ hh H locs la hl hP hS)
  case aconst_null => exact fun H locs la hl hP hS => lv_null hx hb (zm_dec_o hdec rfl) (hn _ _ _ hh H locs la hl hP hS)
  case ldc x => exact zm_i_cst B hO1 (Or.inl ⟨rfl, rfl, rfl⟩) (zm_dec_o hdec rfl) hh hn
  case ldc_w x => exact zm_i_cst B hO1 (Or.inr (Or.inr ⟨rfl, rfl, rfl⟩)) (zm_dec_o hdec rfl) hh hn
  case ldc2_w x => exact zm_i_cst B hO1 (Or.inr (Or.inl ⟨rfl, rfl, rfl⟩)) (zm_dec_o hdec rfl) hh hn
  case iadd => intro H locs la hl hP hS; obtain ⟨y, x, t, rfl, h2⟩ := zm_b2_o hh; exact lv_iadd hx hb (zm_dec_o hdec rfl) (hn _ _ _ h2 H locs la hl hP hS)
  case isub => intro H locs la hl hP hS; obtain ⟨y, x, t, rfl, h2⟩ := zm_b2_o hh; exact lv_isub hx hb (zm_dec_o hdec rfl) (hn _ _ _ h2 H locs la hl hP hS)
  case imul => intro H locs la hl hP hS; obtain ⟨y, x, t, rfl, h2⟩ := zm_b2_o hh; exact lv_imul hx hb (zm_dec_o hdec rfl) (hn _ _ _ h2 H locs la hl hP hS)
  case iand => intro H locs la hl hP hS; obtain ⟨y, x, t, rfl, h2⟩ := zm_b2_o hh; exact lv_iand hx hb (zm_dec_o hdec rfl) (hn _ _ _ h2 H locs la hl hP hS)
  case ior => intro H locs la hl hP hS; obtain ⟨y, x, t, rfl, h2⟩ := zm_b2_o hh; exact lv_ior hx hb (zm_dec_o hdec rfl) (hn _ _ _ h2 H locs la hl hP hS)
  case ixor => intro H locs la hl hP hS; obtain ⟨y, x, t, rfl, h2⟩ := zm_b2_o hh; exact lv_ixor hx hb (zm_dec_o hdec rfl) (hn _ _ _ h2 H locs la hl hP hS)
  case ishl => intro H locs la hl hP hS; obtain ⟨y, x, t, rfl, h2⟩ := zm_b2_o hh; exact lv_ishl hx hb (zm_dec_o hdec rfl) (hn _ _ _ h2 H locs la hl hP hS)
  case ishr => intro H locs la hl hP hS; obtain ⟨y, x, t, rfl, h2⟩ := zm_b2_o hh; exact lv_ishr hx hb (zm_dec_o hdec rfl) (hn _ _ _ h2 H locs la hl hP hS)
  case iushr => intro H locs la hl hP hS; obtain ⟨y, x, t, rfl, h2⟩ := zm_b2_o hh; exact lv_iushr hx hb (zm_dec_o hdec rfl) rfl (hn _ _ _ h2 H locs la hl hP hS)
  case idiv => intro H locs la hl hP hS; obtain ⟨y, x, t, rfl, h1, h2⟩ := zm_b2z_o hh; exact lv_idiv hx hb (zm_dec_o hdec rfl) h1 (hn _ _ _ h2 H locs la hl hP hS)
  case irem => intro H locs la hl hP hS; obtain ⟨y, x, t, rfl, h1, h2⟩ := zm_b2z_o hh; exact lv_irem hx hb (zm_dec_o hdec rfl) h1 (hn _ _ _ h2 H locs la hl hP hS)
  case ineg => intro H locs la hl hP hS; obtain ⟨x, t, rfl, h2⟩ := zm_u_o hh; exact lv_ineg hx hb (zm_dec_o hdec rfl) (hn _ _ _ h2 H locs la hl hP hS)
  case i2b => intro H locs la hl hP hS; obtain ⟨x, t, rfl, h2⟩ := zm_u_o hh; exact lv_i2b hx hb (zm_dec_o hdec rfl) rfl (hn _ _ _ h2 H locs la hl hP hS)
  case i2s => intro H locs la hl hP hS; obtain ⟨x, t, rfl, h2⟩ := zm_u_o hh; exact lv_i2s hx hb (zm_dec_o hdec rfl) rfl (hn _ _ _ h2 H locs la hl hP hS)
  case ladd => intro H locs la hl hP hS; obtain ⟨y, x, t, rfl, h2⟩ := zm_l2_o hh; exact lv_ladd hx hb (zm_dec_o hdec rfl) (hn _ _ _ h2 H locs la hl hP hS)
  case lsub => intro H locs la hl hP hS; obtain ⟨y, x, t, rfl, h2⟩ := zm_l2_o hh; exact lv_lsub hx hb (zm_dec_o hdec rfl) (hn _ _ _ h2 H locs la hl hP hS)
  case lmul => intro H locs la hl hP hS; obtain ⟨y, x, t, rfl, h2⟩ := zm_l2_o hh; exact lv_lmul hx hb (zm_dec_o hdec rfl) (hn _ _ _ h2 H locs la hl hP hS)
  case land => intro H locs la hl hP hS; obtain ⟨y, x, t, rfl, h2⟩ := zm_l2_o hh; exact lv_land hx hb (zm_dec_o hdec rfl) (hn _ _ _ h2 H locs la hl hP hS)
  case lor => intro H locs la hl hP hS; obtain ⟨y, x, t, rfl, h2⟩ := zm_l2_o hh; exact lv_lor hx hb (zm_dec_o hdec rfl) (hn _ _ _ h2 H locs la hl hP hS)
  case ldiv => intro H locs la hl hP hS; obtain ⟨y, x, t, rfl, h1, h2⟩ := zm_l2z_o hh; exact lv_ldiv hx hb (zm_dec_o hdec rfl) h1 (hn _ _ _ h2 H locs la hl hP hS)
  case lrem => intro H locs la hl hP hS; obtain ⟨y, x, t, rfl, h1, h2⟩ := zm_l2z_o hh; exact lv_lrem hx hb (zm_dec_o hdec rfl) h1 (hn _ _ _ h2 H locs la hl hP hS)
  case lshl => intro H locs la hl hP hS; obtain ⟨y, x, t, rfl, h2⟩ := zm_ls_o hh; exact lv_lshl hx hb (zm_dec_o hdec rfl) rfl (hn _ _ _ h2 H locs la hl hP hS)
  case lshr => intro H locs la hl hP hS; obtain ⟨y, x, t, rfl, h2⟩ := zm_ls_o hh; exact lv_lshr hx hb (zm_dec_o hdec rfl) rfl (hn _ _ _ h2 H locs la hl hP hS)
  case lushr => intro H locs la hl hP hS; obtain ⟨y, x, t, rfl, h2⟩ := zm_ls_o hh; exact lv_lushr hx hb (zm_dec_o hdec rfl) rfl (hn _ _ _ h2 H locs la hl hP hS)
  case ifCond co off => exact zm_i_if1 B (zm_dec_o hdec rfl) (zm_dec_tg hdec (o := off) List.mem_cons_self) hh hk hn
  case if_icmp co off => exact zm_i_if2 B (zm_dec_o hdec rfl) (zm_dec_tg hdec (o := off) List.mem_cons_self) hh hk hn
  case goto off => exact fun H locs la hl hP hS => lv_goto hx hb (zm_dec_o hdec rfl) (zm_dec_tg hdec (o := off) List.mem_cons_self) (hk (zm_tg pc off, ls, st, M) hh H locs la hl hP hS)
  case tableswitch d lo hi os =>
    obtain ⟨len, hd⟩ := zm_dec_sw hdec
    exact zm_i_sw B hd (fun o ho => zm_dec_tg hdec ho) hh hk
  case getfield x => exact zm_i_gf hcw B (zm_dec_o hdec rfl) hio hh hn
  case putfield x => exact zm_i_pf hcw B hD (zm_dec_o hdec rfl) hio hh hn
  case iaload => exact zm_i_al B (Or.inl ⟨rfl, rfl⟩) hw (zm_dec_o hdec rfl) hh hn
  case laload => exact zm_i_al B (Or.inr (Or.inl ⟨rfl, rfl⟩)) hw (zm_dec_o hdec rfl) hh hn
  case baload => exact zm_i_al B (Or.inr (Or.inr (Or.inl ⟨rfl, rfl⟩))) hw (zm_dec_o hdec rfl) hh hn
  case aaload => exact zm_i_al B (Or.inr (Or.inr (Or.inr ⟨rfl, rfl⟩))) hw (zm_dec_o hdec rfl) hh hn
  case iastore => exact zm_i_as B hD (Or.inl ⟨rfl, rfl⟩) (zm_dec_o hdec rfl) hh hn
  case lastore => exact zm_i_as B hD (Or.inr (Or.inl ⟨rfl, rfl⟩)) (zm_dec_o hdec rfl) hh hn
  case bastore => exact zm_i_as B hD (Or.inr (Or.inr ⟨rfl, rfl⟩)) (zm_dec_o hdec rfl) hh hn
  case arraylength => exact zm_i_aln B (zm_dec_o hdec rfl) hh hn
  case invokevirtual x => exact zm_i_call B hO2 hD hA hw (Or.inl ⟨rfl, rfl⟩) (zm_dec_o hdec rfl) hh hn
  case invokestatic x =>
    match a, hio, hh with
    | 0, _, hh => exact zm_i_call B hO2 hD hA hw (Or.inr ⟨rfl, rfl⟩) (zm_dec_o hdec rfl) hh hn
    | 1, hio, hh => exact zm_i_m (a := 0) hma B (zm_dec_o hdec rfl) hio hh hn
    | 2, hio, hh => exact zm_i_m (a := 1) hma B (zm_dec_o hdec rfl) hio hh hn
    | a + 3, hio, hh => exact zm_i_m (a := a + 2) hma B (zm_dec_o hdec rfl) hio hh hn
  case ireturn => rw [hQ]; exact zm_i_ret B (Or.inl ⟨rfl, rfl⟩) (zm_dec_o hdec rfl) hh
  case lreturn => rw [hQ]; exact zm_i_ret B (Or.inr (Or.inl ⟨rfl, rfl⟩)) (zm_dec_o hdec rfl) hh
  case areturn => rw [hQ]; exact zm_i_ret B (Or.inr (Or.inr (Or.inl ⟨rfl, rfl⟩))) (zm_dec_o hdec rfl) hh
  case return_ => rw [hQ]; exact zm_i_ret B (Or.inr (Or.inr (Or.inr ⟨rfl, rfl⟩))) (zm_dec_o hdec rfl) hh
  all_goals exact zm_i_stk B hdec hh hk hn
end ZMA
