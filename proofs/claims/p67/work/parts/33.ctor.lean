/-! CONSTRUCTORS: calls, runs, contracts -/
section ZNR
variable {p : Program} {l : Launch} {e : Env} {R : Room} {s : State} {m : MethodId} {args : Array Value} {below : List Frame} {meth : Method} {c : Code}
variable {Q : State → Prop} {D : va_G} {cA : FieldType → ClassId} {h : Nat → Nat → Nat} {g : Nat → Nat} {A : Nat → Prop} {nL : Nat} {own : String} {cc : ByteArray} {T0 : zm_T} {T : zn_T} {S S1 : zn_S}
theorem zn_oi_ok (B : zn_B p s m args meth c own cc nL T0 D cA g A R) (hok : zn_ok l R own cc T) (hg : ∀ n, h 1 n = g n) {idx b : Nat} (hlk : zm_look T.1 S.1.1 = some (.invokespecial idx, 0, b)) {n : Nat} {r : List Value} (hst : S.1.2.2.1 = .ref n :: r) (hsum : (r.map fun v => v.category).sum ≤ 8)
    (hk : zn_G p l e R s m args below meth c Q D cA A nL h ((S.1.1 + 3, S.1.2.1, r, S.1.2.2.2), S.2)) : zn_G p l e R s m args below meth c Q D cA A nL h S := by
  obtain ⟨hdec, hio⟩ := hok.1 _ _ hlk
  obtain ⟨hR1, hR2, hlink, hinst, hcode⟩ := hio rfl
  obtain ⟨hx, hb, hml, hown, hts, hK, hr, hlk2, hZ, hcs, hsc⟩ := B.1 h 0 0 hg (Nat.zero_le _) (Nat.zero_le _)
  intro hD hfr hwk H locs la hl hP hS
  rw [hst, List.map_cons]
  refine W.objInit hx hb hown (hts _ hlink) (hts _ hinst) (hts _ hcode) rfl (by rw [hml]; exact hl.2.1) rfl (zn_dec_o hdec) hR1 (Nat.le_trans (Nat.add_le_add_right (lv_room (by rw [zm_cat_map]; exact hsum)) 12) hR2) ?_
  exact hk hD hfr hwk H locs la hl hP hS
theorem zn_blind {wl : zm_L} {av : List Value} {M : zm_I} : FrameBlind (zn_Pc D cA h A wl av M) := by
  intro a U gf mk q
  obtain ⟨q0, qP, qK, qD, qA, qw, qf, ⟨⟨adV, qz, qz3, qz4⟩, qr⟩, qo⟩ := q
  exact ⟨q0, qP, va_K.moved (u := U) (U := U.calling gf mk a) (Vm.Alike.refl U.vm) qK, qD, qA, qw, qf, ⟨⟨adV, vk_S.moved (u := U) (U := U.calling gf mk a) (Vm.Alike.refl U.vm) qz, va_Z.moved (u := U) (U := U.calling gf mk a) (Vm.Alike.refl U.vm) qz3, va_Zq.moved (u := U) (U := U.calling gf mk a) (Vm.Alike.refl U.vm) qz4⟩, fun i x hx => (qr i x hx).same (U := U.calling gf mk a) rfl⟩, zn_AO_same (u := U) (U := U.calling gf mk a) rfl qo⟩
theorem zn_ct_ok (B : zn_B p s m args meth c own cc nL T0 D cA g A R) (hok : zn_ok l R own cc T) (hg : ∀ n, h 1 n = g n) {idx a b : Nat} (hlk : zm_look T.1 S.1.1 = some (.invokespecial idx, a, b)) (hh : zn_ct T S idx = some S1)
    (hk : ∀ h1, zn_ext S.2.1.length h h1 → zn_G p l e R s m args below meth c Q D cA A nL h1 S1) : zn_G p l e R s m args below meth c Q D cA A nL h S := by
  obtain ⟨hdec, -⟩ := hok.1 _ _ hlk
  unfold zn_ct at hh
  split at hh
  · next n r hst =>
    split at hh
    · next C hC =>
      split at hh
      · next hcond =>
        simp only [Bool.and_eq_true] at hcond
        obtain ⟨⟨⟨hsum, hcl⟩, hc1⟩, hs1⟩ := hcond
        have hsum := Nat.le_of_ble_eq_true hsum
        have hc1 := Nat.le_of_ble_eq_true hc1
        have hs1 := Nat.le_of_ble_eq_true hs1
        split at hh
        · next q hq =>
          split at hh
          · next hle =>
            cases hh
            obtain ⟨hx, hb, hml, hown, hts, hK, hr, hlk2, hZ, hcs, hsc⟩ := B.1 h 0 0 hg (Nat.zero_le _) (Nat.zero_le _)
            obtain ⟨cl1, cl2, cl3⟩ := zn_cl_o hcl
            obtain ⟨y, bytes, maxL, rm, hcon, hrc, hrs, hRR, hcode, hlink, hini, hinst, hy1, hyd⟩ := hok.2.1 _ _ hC
            intro hD hfr hwk H locs la hl hP hS
            have hM := hcon D cA h A S.2.1 [.ref n] S.1.2.2.2 q hq
            have hG : GoodIn zm_tbl (Jvm.Cond.code y bytes maxL none :: zm_tbl) := by
              intro w hw
              rcases List.mem_cons.mp hw with rfl | hw
              · exact zm_good _ hcode
              · exact zm_good _ hw
            rw [hst, List.map_cons]
            have hpre : PreS s H (zn_Pc D cA h A S.2.1 [.ref n] S.1.2.2.2) [.ref (h 0 n)] := ⟨zn_blind, fun U hU hW => ⟨rfl, by rw [hU]; exact hP, va_K.moved hW.alike hK, hD, fun q9 h9 => B.2.1 q9 (Nat.le_trans hS.1 (by rw [hU] at h9; exact h9)), hwk, hfr, by rw [hU]; exact zm_Z_go hZ hS hW (fun _ z => z), zn_AO_warm hW B.2.2⟩⟩
            have hrun : va_Run p l e R s m args below meth c H locs S.2.2.1 S.2.2.2 C.2.1 C.2.2 (F0 m S.1.1 la (.ref (h 0 n) :: r.map (zm_cv h))) (r.map (zm_cv h)) (zn_Q D cA h A S.2.1.length q [Value.ref (h 0 n)].toArray) A := by
              rcases hlink with hlink | hlink
              · exact va_runI (b := h 0 n) (As := []) ⟨hx, hb, hml, hown, hts⟩ hM (cwI 0 hts hG rfl hrc hrs (hts _ hini) (hts _ hlink) (hts _ hinst) hy1 hyd hRR) hpre rfl rfl hl.2.1 rfl (lv_room (by rw [zm_cat_map]; exact hsum)) (zn_dec_o hdec) ⟨Nat.le_trans hc1 hok.2.2.1, Nat.le_trans hs1 hok.2.2.2⟩
              · exact va_runIN (b := h 0 n) (As := []) ⟨hx, hb, hml, hown, hts⟩ hM ⟨va_cnB 0 hts hG rfl hrc hrs (B.2.2.2 _ hlink) (hts _ hini) hyd hRR, hy1, hts _ hinst⟩ hpre rfl rfl hl.2.1 rfl (lv_room (by rw [zm_cat_map]; exact hsum)) (zn_dec_o hdec) ⟨Nat.le_trans hc1 hok.2.2.1, Nat.le_trans hs1 hok.2.2.2⟩
            intro Tn hT X
            obtain ⟨v, st₀, t, T', L, h0, X', hL, e1, e2, ⟨hv, ⟨h1, hx1, hP1, hD1, hwk1, hfr1⟩, hz, hkk⟩, stp⟩ := hrun Tn hT X
            cases hv
            rw [h0] at hz hkk
            have hW := hk h1 hx1 hD1 hfr1 hwk1 T'.heap (locs ++ L) la (zn_lok hx1 hl cl1) (by rw [e1]; exact hP1)
              ⟨Nat.le_trans hS.1 (by rw [e1]; exact hz), fun q9 g1 g2 => by rw [e1, hkk q9 (Nat.lt_of_lt_of_le g1 hS.1) g2]; exact hS.2.1 q9 g1 g2, fun q9 hq9 => by
                rcases List.mem_append.mp hq9 with h9 | h9
                · exact hS.2.2 q9 h9
                · exact hL q9 h9⟩
            dsimp only at hW
            rw [zn_st hx1 cl2] at hW
            obtain ⟨t2, a1, b1⟩ := hW T' rfl X'
            exact ⟨t2, stp t2 a1, b1⟩
          · cases hh
        · cases hh
      · cases hh
    · cases hh
  · cases hh
theorem zn_ord_ok (B : zn_B p s m args meth c own cc nL T0 D cA g A R) (hT0 : T0.2.1 = [] ∧ T0.2.2.1 = []) (hok : zn_ok l R own cc T) (hg : ∀ n, h 1 n = g n) (hc0 : S.2.2.1 ≤ T.2.2.1) (hs0 : S.2.2.2 ≤ T.2.2.2) {i : Instr} {a b : Nat} (hlk : zm_look T.1 S.1.1 = some (i, a, b)) {q : zm_S} (hh : zn_next S.2.1 i a b S.1.1 S.1.2.1 S.1.2.2.1 S.1.2.2.2 = some q)
    (hk : zn_G p l e R s m args below meth c Q D cA A nL h (q, S.2)) : zn_G p l e R s m args below meth c Q D cA A nL h S := by
  obtain ⟨hdec, hio⟩ := hok.1 _ _ hlk
  obtain ⟨h1, h2, h3, h4⟩ := zn_next_ok T0 hh
  intro hD hfr hwk
  have hB := B.1 h S.2.2.1 S.2.2.2 hg (Nat.le_trans hc0 hok.2.2.1) (Nat.le_trans hs0 hok.2.2.2)
  have hio2 : zm_iok R own i a b := by
    cases i <;> first | exact trivial | exact hio | exact hio.1 | (simp [zn_next] at hh; done)
  have hend : ∀ S', zn_k q S' = some (none, q.2.2.2) → zm_G p l e R s m args below meth c Q D cA h S.2.1 A nL S.2.2.1 S.2.2.2 S' := fun S' hS' => by
    have := zn_k_inv hS'
    subst this
    exact hk (zm_D_any hD) (h3 hfr) hwk
  exact zn_i zm_cwok_ok zm_mathok_ok hB (fun idx v hv => by rw [hT0.1] at hv; cases hv) (fun idx C hC => by rw [hT0.2] at hC; cases hC) hD B.2.1 hwk (zn_dec_zm hdec h2) hio2 h1 h4 hend (fun ls' st' M' h' => hend _ h')
/-- one step -/
theorem zn_step_ok (B : zn_B p s m args meth c own cc nL T0 D cA g A R) (hin2 : meth.name = "<init>" ∨ ∀ pc idx a b, zm_look T.1 pc ≠ some (.putfield idx, a, b)) (hT0 : T0.2.1 = [] ∧ T0.2.2.1 = []) (hok : zn_ok l R own cc T) (hg : ∀ n, h 1 n = g n) (hc0 : S.2.2.1 ≤ T.2.2.1) (hs0 : S.2.2.2 ≤ T.2.2.2) (hh : zn_step T S = some S1) :
    (S.2.1.length ≤ S1.2.1.length ∧ S1.2.2.1 ≤ T.2.2.1 ∧ S1.2.2.2 ≤ T.2.2.2) ∧ ((∀ h1, zn_ext S.2.1.length h h1 → zn_G p l e R s m args below meth c Q D cA A nL h1 S1) → zn_G p l e R s m args below meth c Q D cA A nL h S) := by
  unfold zn_step at hh
  split at hh
  · cases hh
  · next i a b hlk =>
    have ord : ∀ {S1 : zn_S}, (match zn_next S.2.1 i a b S.1.1 S.1.2.1 S.1.2.2.1 S.1.2.2.2 with
      | some q => some (q, S.2)
      | none => none) = some S1 → (S.2.1.length ≤ S1.2.1.length ∧ S1.2.2.1 ≤ T.2.2.1 ∧ S1.2.2.2 ≤ T.2.2.2) ∧ ((∀ h1, zn_ext S.2.1.length h h1 → zn_G p l e R s m args below meth c Q D cA A nL h1 S1) → zn_G p l e R s m args below meth c Q D cA A nL h S) := by
      intro S1 hh
      split at hh
      · next q hq => cases hh; exact ⟨⟨Nat.le_refl _, hc0, hs0⟩, fun hk => zn_ord_ok B hT0 hok hg hc0 hs0 hlk hq (hk h (zn_ext_rf _ _))⟩
      · cases hh
    cases i
    case new idx =>
      simp only at hh
      split at hh
      · next hcond =>
        simp only [Bool.and_eq_true] at hcond
        obtain ⟨⟨⟨hcl, hc1⟩, hs1⟩, hof⟩ := hcond
        cases hh
        exact ⟨⟨by simp, Nat.le_of_ble_eq_true hc1, Nat.le_of_ble_eq_true hs1⟩, fun hk => zn_s_new B hok hg hlk hcl (Nat.le_of_ble_eq_true hc1) (Nat.le_of_ble_eq_true hs1) hof hk⟩
      · cases hh
    case newarray t =>
      simp only at hh
      split at hh
      · next n r hst =>
        split at hh
        · cases hh
        · next hn =>
          split at hh
          · next hcond =>
            simp only [Bool.and_eq_true] at hcond
            obtain ⟨⟨⟨⟨hcl, hc1⟩, hs1⟩, hp⟩, hle⟩ := hcond
            cases hh
            exact ⟨⟨by simp, Nat.le_of_ble_eq_true hc1, Nat.le_of_ble_eq_true hs1⟩, fun hk => zn_s_newa B hok hg hlk hst hn hcl (Nat.le_of_ble_eq_true hc1) (Nat.le_of_ble_eq_true hs1) hp (Nat.le_of_ble_eq_true hle) hk⟩
          · cases hh
      · cases hh
    case anewarray idx =>
      simp only at hh
      split at hh
      · next n r hst =>
        split at hh
        · cases hh
        · next hn =>
          split at hh
          · next hcond =>
            simp only [Bool.and_eq_true] at hcond
            obtain ⟨⟨⟨⟨hcl, hc1⟩, hs1⟩, hp⟩, hle⟩ := hcond
            cases hh
            exact ⟨⟨by simp, Nat.le_of_ble_eq_true hc1, Nat.le_of_ble_eq_true hs1⟩, fun hk => zn_s_newq B hok hg hlk hst hn hcl (Nat.le_of_ble_eq_true hc1) (Nat.le_of_ble_eq_true hs1) hp (Nat.le_of_ble_eq_true hle) hk⟩
          · cases hh
      · cases hh
    case aastore =>
      simp only at hh
      split at hh
      · next q hq =>
        cases hh
        refine ⟨⟨?_, hc0, hs0⟩, fun hk => zn_as_ok B hok hg hlk hq hk⟩
        unfold zn_as at hq
        repeat' split at hq
        all_goals first | (cases hq; done) | (cases hq; simp)
      · cases hh
    case invokespecial idx =>
      match a, hlk, hh with
      | 0, hlk, hh =>
        simp only at hh
        split at hh
        · next n r hst =>
          split at hh
          · next hsum =>
            cases hh
            exact ⟨⟨Nat.le_refl _, hc0, hs0⟩, fun hk => zn_oi_ok B hok hg hlk hst (Nat.le_of_ble_eq_true hsum) (hk h (zn_ext_rf _ _))⟩
          · cases hh
        · cases hh
      | a + 1, hlk, hh =>
        simp only at hh
        refine ⟨?_, fun hk => zn_ct_ok B hok hg hlk hh hk⟩
        unfold zn_ct at hh
        split at hh
        · split at hh
          · split at hh
            · next hcond =>
              simp only [Bool.and_eq_true] at hcond
              split at hh
              · split at hh
                · next hle => cases hh; exact ⟨Nat.le_of_ble_eq_true hle, Nat.le_of_ble_eq_true hcond.1.2, Nat.le_of_ble_eq_true hcond.2⟩
                · cases hh
              · cases hh
            · cases hh
          · cases hh
        · cases hh
    case putfield idx =>
      simp only at hh
      split at hh
      · next q hq =>
        cases hh
        rcases hin2 with hin2 | hin2
        · refine ⟨⟨?_, hc0, hs0⟩, fun hk => zn_pr_ok B hin2 hok hg hlk hq hk⟩
          unfold zn_pr at hq
          repeat' split at hq
          all_goals first | (cases hq; done) | (cases hq; simp)
        · exact absurd hlk (hin2 _ _ _ _)
      · exact ord hh
    all_goals exact ord hh
theorem zn_go_ok (B : zn_B p s m args meth c own cc nL T0 D cA g A R) (hin2 : meth.name = "<init>" ∨ ∀ pc idx a b, zm_look T.1 pc ≠ some (.putfield idx, a, b)) (hT0 : T0.2.1 = [] ∧ T0.2.2.1 = []) (hok : zn_ok l R own cc T) {stop : Nat} : ∀ (n : Nat) (h : Nat → Nat → Nat) (S S1 : zn_S), (∀ n, h 1 n = g n) → S.2.2.1 ≤ T.2.2.1 → S.2.2.2 ≤ T.2.2.2 → zn_go T stop n S = some S1 → (S1.1.1 = stop ∧ S.2.1.length ≤ S1.2.1.length ∧ S1.2.2.1 ≤ T.2.2.1 ∧ S1.2.2.2 ≤ T.2.2.2) ∧ ((∀ h1, zn_ext S.2.1.length h h1 → zn_G p l e R s m args below meth c Q D cA A nL h1 S1) → zn_G p l e R s m args below meth c Q D cA A nL h S)
  | 0, h, S, S1, _, _, _, hh => by cases hh
  | n + 1, h, S, S1, hg, hc0, hs0, hh => by
    unfold zn_go at hh
    split at hh
    · next hb => cases hh; exact ⟨⟨Nat.eq_of_beq_eq_true hb, Nat.le_refl _, hc0, hs0⟩, fun hk => hk h (zn_ext_rf _ _)⟩
    · split at hh
      · next S2 hS2 =>
        have st := fun h' (hg' : ∀ n, h' 1 n = g n) => zn_step_ok (l := l) (e := e) (below := below) (Q := Q) (h := h') B hin2 hT0 hok hg' hc0 hs0 hS2
        obtain ⟨⟨hlen, hc2, hs2⟩, hcont⟩ := st h hg
        have ih := zn_go_ok B hin2 hT0 hok n h S2 S1 hg hc2 hs2 hh
        refine ⟨⟨ih.1.1, Nat.le_trans hlen ih.1.2.1, ih.1.2.2⟩, fun hk => hcont fun h2 hx2 => ?_⟩
        have hg2 : ∀ n, h2 1 n = g n := fun n => (hx2.2 n).trans (hg n)
        exact (zn_go_ok B hin2 hT0 hok n h2 S2 S1 hg2 hc2 hs2 hh).2 fun h3 hx3 => hk h3 (zn_ext_tr hlen hx2 hx3)
      · cases hh
end ZNR
/-- A CONSTRUCTOR: its table is right, so it does what its table's run says -/
theorem zn_con {l : Launch} {y : MethodName} {cc : ByteArray} {nL stop fuel : Nat} {T : zn_T} {rm : Room} (hy : plainName y.cls = true) (hyn : y.name = "<init>") (hok : zn_ok l rm y.cls cc T) (hst : decode cc stop = .ok (.return_, 1)) : zn_Con l y cc nL rm (zn_run T nL stop fuel, T.2.2.1, T.2.2.2) := by
  intro D cA h A wl av M r hF
  dsimp only at hF ⊢
  unfold zn_run at hF
  split at hF
  · cases hF
  · next hlen =>
    have hlen := Nat.le_of_ble_eq_true hlen
    split at hF
    · next S hgo =>
      split at hF
      · next hemp =>
        split at hF
        · next hcnt =>
          cases hF
          simp only [Bool.and_eq_true] at hcnt
          have hcc := Nat.eq_of_beq_eq_true hcnt.1
          have hss := Nat.eq_of_beq_eq_true hcnt.2
          refine Met.ofW (cc := cc) (maxL := nL) (ret := none) hy rfl ?_
          intro p e s m args below meth c s₁ B hml hv
          obtain ⟨rfl, hP, hK, hD, hA, hw, hfr, hZ, hAO⟩ := hv
          have hts := atoms_spec (ws := Jvm.Cond.code y cc nL none :: zm_tbl) B.pre
          have hown : s.vm.findClass y.cls = some m.cls := findClass_of_methodNamed B.named
          have hin2 : meth.name = "<init>" := (name_of_methodNamed B.named B.method).1.trans hyn
          have hB : zn_B p s m (av.map (zm_cv h)).toArray meth c y.cls cc nL ([], [], [], none, none) D cA (h 1) A rm := ⟨fun h' c0 s0 hg hc0 hs0 => ⟨B.exec, B.bytes, hml, hown, fun w hw9 => hts w (List.mem_cons_of_mem _ hw9), hK, B.returns, B.notSynchronized, by rw [show h' 1 = h 1 from funext hg]; exact hZ, ⟨hc0, hs0⟩, fun x hx9 => by cases hx9⟩, hA, hAO⟩
          rw [lg_entry_eq]
          have hle : (lg_sl (av.map (zm_cv h))).length ≤ nL := by rw [zm_sl_lg, List.length_map]; exact hlen
          have hl := lv_entry (av.map (zm_cv h)) (n := nL) hle
          have hgo2 := zn_go_ok (l := l) (e := e) (below := below) (Q := MQ below (zn_Q D cA h A wl.length (S.2.1, S.1.2.2.2)) (av.map (zm_cv h)).toArray s T.2.2.1 T.2.2.2 A) hB (Or.inl hin2) ⟨rfl, rfl⟩ hok fuel h _ S (fun _ => rfl) (Nat.zero_le _) (Nat.zero_le _) hgo
          refine hgo2.2 (fun h1 hx1 => ?_) hD hfr hw s.heap [] _ ⟨zm_pad_len _ _, hl.1, hl.2.1, fun k v hk => ?_⟩ hP va_S.rf
          · intro hD1 hfr1 hw1 H locs la hl1 hP1 hS1
            rw [hemp, hgo2.1.1, hcc, hss]
            exact W.vret B.exec B.bytes B.returns (fun t ht hW => ⟨rfl, ⟨h1, hx1, by rw [ht]; exact hP1, hD1, hw1, hfr1⟩, hS1.F ht⟩) hS1.2.2 hst B.notSynchronized
          · have hk := zm_pad_get _ _ _ _ hk
            have hlt : k < (zm_sl av).length := (List.getElem?_eq_some_iff.mp hk).1
            rw [List.getElem?_toArray, List.getElem?_append_left (by rw [zm_sl_lg, List.length_map]; exact hlt), zm_sl_lg, List.getElem?_map, hk]
            rfl
        · cases hF
      · cases hF
    · cases hF
