/-! THE BLOCKS OF A CALL -/
theorem zm_fw_iv : ∀ (bs : List (Nat × Nat)) (n : Nat), zm_fw bs (zm_iv bs n) = n
  | [], n => rfl
  | (a, z) :: bs, n => by
    simp only [zm_iv]
    split
    · next h => simp only [zm_fw]; rw [if_pos (by omega)]; omega
    · next h => simp only [zm_fw]; rw [if_neg (by omega), Nat.add_sub_cancel_left]; exact zm_fw_iv bs n
theorem zm_fw_bd : ∀ (bs : List (Nat × Nat)) (N k : Nat), zm_bound N bs = true → k < zm_tot bs → zm_fw bs k < N
  | [], N, k, _, h => by simp [zm_tot] at h
  | (a, z) :: bs, N, k, hb, h => by
    simp only [zm_bound, Bool.and_eq_true, Nat.ble_eq] at hb
    simp only [zm_tot] at h
    simp only [zm_fw]
    split
    · omega
    · exact zm_fw_bd bs N (k - z) hb.2 (by omega)
theorem zm_fw_ap : ∀ (bs : List (Nat × Nat)) (a z k : Nat), zm_apart a z bs = true → k < zm_tot bs → ¬ (a ≤ zm_fw bs k ∧ zm_fw bs k < a + z)
  | [], a, z, k, _, h => by simp [zm_tot] at h
  | (b, y) :: bs, a, z, k, ha, h => by
    simp only [zm_apart, Bool.and_eq_true, Bool.or_eq_true, Nat.ble_eq] at ha
    simp only [zm_tot] at h
    simp only [zm_fw]
    split
    · omega
    · exact zm_fw_ap bs a z (k - y) ha.2 (by omega)
theorem zm_iv_fw : ∀ (bs : List (Nat × Nat)) (k : Nat), zm_dis bs = true → k < zm_tot bs → zm_iv bs (zm_fw bs k) = k
  | [], k, _, h => by simp [zm_tot] at h
  | (a, z) :: bs, k, hd, h => by
    simp only [zm_dis, Bool.and_eq_true] at hd
    simp only [zm_tot] at h
    simp only [zm_fw]
    by_cases hk : k < z
    · rw [if_pos hk]; simp only [zm_iv]; rw [if_pos (by omega)]; omega
    · rw [if_neg hk]; simp only [zm_iv]
      rw [if_neg (zm_fw_ap bs a z (k - z) hd.1 (by omega)), zm_iv_fw bs (k - z) hd.2 (by omega)]
      omega
theorem zm_in_fw : ∀ (bs : List (Nat × Nat)) (k : Nat), k < zm_tot bs → zm_in bs (zm_fw bs k) = true
  | [], k, h => by simp [zm_tot] at h
  | (a, z) :: bs, k, h => by
    simp only [zm_tot] at h
    simp only [zm_fw]
    by_cases hk : k < z
    · rw [if_pos hk]; simp only [zm_in, Bool.or_eq_true, Bool.and_eq_true, Nat.ble_eq]; left; omega
    · rw [if_neg hk]; simp only [zm_in, Bool.or_eq_true]; right; exact zm_in_fw bs (k - z) (by omega)
theorem zm_in_iv : ∀ (bs : List (Nat × Nat)) (n : Nat), zm_in bs n = true → zm_iv bs n < zm_tot bs
  | [], n, h => by simp [zm_in] at h
  | (a, z) :: bs, n, h => by
    simp only [zm_in, Bool.or_eq_true, Bool.and_eq_true, Nat.ble_eq] at h
    simp only [zm_iv, zm_tot]
    split
    · omega
    · next hq =>
      rcases h with h | h
      · omega
      · have := zm_in_iv bs n h; omega
theorem zm_cv_tr (h : Nat → Nat → Nat) (bs : List (Nat × Nat)) (v : Value) : zm_cv (zm_hr h bs) (zm_tr bs v) = zm_cv h v := by
  cases v <;> simp [zm_cv, zm_tr, zm_hr, zm_fw_iv]
theorem zm_cv_bk (h : Nat → Nat → Nat) (bs : List (Nat × Nat)) (v : Value) : zm_cv (zm_hr h bs) v = zm_cv h (zm_bk bs v) := by
  cases v <;> rfl
theorem zm_tr_getD (bs : List (Nat × Nat)) (rs : List Value) (f : Nat) : (rs.map (zm_tr bs)).getD f .null = zm_tr bs (rs.getD f .null) := by
  simp only [List.getD_eq_getElem?_getD, List.getElem?_map]
  cases rs[f]? <;> rfl
theorem zm_rr_tr (h : Nat → Nat → Nat) (bs : List (Nat × Nat)) (v : Value) : zm_rr (zm_hr h bs) (zm_tr bs v) = zm_rr h v := by
  cases v <;> simp [zm_rr, zm_tr, zm_hr, zm_fw_iv]
theorem zm_e_sub {cA : FieldType → ClassId} {h : Nat → Nat → Nat} {bs : List (Nat × Nat)} {M N : zm_I} {k n : Nat} (d : zm_D × List Value) (h1 : N.1 k = M.1 n) (h2 : N.2 k = M.2 n) : zm_e cA (zm_hr h bs) N k (d.1, d.2.map (zm_tr bs)) = zm_e cA h M n d := by
  obtain ⟨ci | ⟨ty, len⟩, rs⟩ := d
  · have hv : ∀ (ty : FieldType) (f : Nat), zm_cv (zm_hr h bs) (zm_vA N k (rs.map (zm_tr bs)) ty f) = zm_cv h (zm_vA M n rs ty f) := by
      intro ty f
      cases ty <;> simp only [zm_vA, h1, h2, zm_tr_getD, zm_cv_tr] <;> rfl
    simp only [zm_e, hv]
  · have hr : zm_row (zm_hr h bs) N k (rs.map (zm_tr bs)) ty = zm_row h M n rs ty := by
      cases ty <;> simp only [zm_row, h1, h2, zm_tr_getD, zm_rr_tr]
    simp only [zm_e, hr]
theorem zm_sub_get {bs : List (Nat × Nat)} {wl : zm_L} {k : Nat} (hb : zm_bound wl.length bs = true) (hk : k < zm_tot bs) : ∃ d, wl[zm_fw bs k]? = some d ∧ (zm_sub bs wl)[k]? = some (d.1, d.2.map (zm_tr bs)) := by
  have hl := zm_fw_bd bs _ k hb hk
  refine ⟨wl[zm_fw bs k], List.getElem?_eq_getElem hl, ?_⟩
  simp only [zm_sub, List.getElem?_map, List.getElem?_range hk, Option.map_some, List.getElem?_eq_getElem hl]
theorem zm_sub_len {bs : List (Nat × Nat)} {wl : zm_L} : (zm_sub bs wl).length = zm_tot bs := by simp [zm_sub]
section ZMC
variable {p : Program} {l : Launch} {e : Env} {R : Room} {s : State} {m : MethodId} {args : Array Value} {below : List Frame} {meth : Method} {c : Code}
theorem zm_callW {Q : State → Prop} {D : va_G} {cA : FieldType → ClassId} {h : Nat → Nat → Nat} {wl : zm_L} {A0 A1 : Nat → Prop} {H0 H : Heap} {locs : List Loc} {free : Addr → Prop} {a : Array Value} {r : Option Value × zm_I} {pc c0 s0 : Nat} {la : Array Slot} {st0 rest : List Value}
    (hr : va_Run p l e R s m args below meth c H locs c0 s0 0 0 (F0 m pc la st0) rest (zm_Q D cA h wl A1 r a) free) (hS : va_S A0 H0 H locs) (hA : ∀ q, q < H.size → A1 q → A0 q) (hf : ∀ q, free q → A0 q)
    (kk : ∀ (H1 : Heap) (locs1 : List Loc), va_P D zm_cl (zm_ws cA h wl r.2) H1 → H.size ≤ H1.size → (∀ q : Nat, q < H.size → ¬ A1 q → H1[q]? = H[q]?) → va_S A0 H0 H1 locs1 → W p l e R s m args below meth c H1 locs1 c0 s0 Q (F0 m (pc + 3) la ((r.1.map (zm_cv h)).toList ++ rest))) :
    W p l e R s m args below meth c H locs c0 s0 Q (F0 m pc la st0) := by
  intro T hT X
  obtain ⟨v, st₀, t, T', L, h0, X', hL, e1, e2, ⟨hv, hP, hz, hk⟩, st⟩ := hr T hT X
  cases hv
  rw [h0] at hz hk
  obtain ⟨t2, a1, b1⟩ := kk T'.heap (locs ++ L) (by rw [e1]; exact hP) (by rw [e1]; exact hz) (fun q h1 h2 => by rw [e1]; exact hk q h1 h2)
    ⟨Nat.le_trans hS.1 (by rw [e1]; exact hz), fun q h1 h2 => by rw [e1, hk q (Nat.lt_of_lt_of_le h1 hS.1) (fun z => h2 (hA q (Nat.lt_of_lt_of_le h1 hS.1) z))]; exact hS.2.1 q h1 h2, fun q hq => by
      rcases List.mem_append.mp hq with h | h
      · exact hS.2.2 q h
      · exact hf _ (hL q h)⟩ T' rfl X'
  exact ⟨t2, st t2 a1, b1⟩
theorem zm_blind {D : va_G} {cA : FieldType → ClassId} {h : Nat → Nat → Nat} {wl : zm_L} {sz : Nat} {av : List Value} {M : zm_I} : FrameBlind (zm_Pc D cA h wl sz av M) := by
  intro a U g mk q
  obtain ⟨q0, q1, qP, qK, qD, qw, ⟨adV, qz, qz3, qz4⟩, qr⟩ := q
  exact ⟨q0, q1, qP, va_K.moved (u := U) (U := U.calling g mk a) (Vm.Alike.refl U.vm) qK, qD, qw, ⟨adV, vk_S.moved (u := U) (U := U.calling g mk a) (Vm.Alike.refl U.vm) qz, va_Z.moved (u := U) (U := U.calling g mk a) (Vm.Alike.refl U.vm) qz3, va_Zq.moved (u := U) (U := U.calling g mk a) (Vm.Alike.refl U.vm) qz4⟩, fun i x hx => (qr i x hx).same (U := U.calling g mk a) rfl⟩
/-- the call itself, of any kind -/
theorem zm_runC {D : va_G} {cA : FieldType → ClassId} {own : String} {cc : ByteArray} {nL : Nat} {T : zm_T} {hB : Nat → Nat → Nat} {AB : Nat → Prop} {c0 s0 : Nat} (B : zm_B p s m args meth c own cc nL T D cA hB AB R c0 s0) {idx : Nat} {C : zm_C} (hC : zm_callok l R own idx C) {ct : Nat} {ins : Instr} (hi : (ct = 0 ∧ ins = .invokevirtual idx) ∨ (ct = 1 ∧ ins = .invokestatic idx)) {pc : Nat} (hd : decode cc pc = .ok (ins, 3))
    (hct : (match C.2.1 with
    | some _ => Nat.beq ct 0
    | none => Nat.beq ct 1) = true)
    {h : Nat → Nat → Nat} {wl : zm_L} {M : zm_I} {H : Heap} {locs : List Loc} {la : Array Slot} (hla : la.size = nL) {as rest : List Value} (hn : as.length = C.1) (hsum : (rest.map fun v => v.category).sum ≤ 8) (hP : va_P D zm_cl (zm_ws cA h wl M) H) (hrv : zm_recv wl as C.2.1 = true)
    {h' : Nat → Nat → Nat} {wl' : zm_L} {M' : zm_I} {av : List Value} {r : Option Value × zm_I} (hF : C.2.2.2.2 wl' av M' = some r) (hav : av.map (zm_cv h') = as.map (zm_cv h)) (hP' : va_P D zm_cl (zm_ws cA h' wl' M') H) (hD' : va_D (fun _ => True) (zm_ws cA h' wl' M')) (hw' : zm_wok wl') (hZ' : ∀ U : State, U.heap = H → s.WarmedH U.vm → zm_Z (h' 1) (va_A (zm_ws cA h' wl' M') H.size) U H)
    (hrS : ∀ k, k < 13 → ∃ cellB : Cell, H[h 1 k]? = some cellB ∧ cellB.vm.isStatics = false ∧ s.vm.findClass RJ0 = some cellB.cls) :
    va_Run p l e R s m args below meth c H locs c0 s0 0 0 (F0 m pc la ((as.map (zm_cv h)).reverse ++ rest)) rest (zm_Q D cA h' wl' (va_A (zm_ws cA h' wl' M') H.size) r (as.map (zm_cv h)).toArray) (va_A (zm_ws cA h' wl' M') H.size) := by
  obtain ⟨hx, hb, hml, hown, hts, hK, hr, hlk, hZ, hcs, hsc⟩ := B
  obtain ⟨y, bytes, maxL, ret, rm, n, hcon, hrc, hrs, hR, hcode, hlink, hini, hyd, hkind⟩ := hC
  have hM := hcon D cA h' wl' H.size av M' r hF
  have hG : GoodIn zm_tbl (Jvm.Cond.code y bytes maxL ret :: zm_tbl) := by
    intro w hw
    rcases List.mem_cons.mp hw with rfl | hw
    · exact zm_good _ hcode
    · exact zm_good _ hw
  have hfix : CallFix p m c cc nL s args zm_tbl own := ⟨hx, hb, hml, hown, hts⟩
  have hpc : ∀ U : State, U.heap = H → s.WarmedH U.vm → zm_Pc D cA h' wl' H.size av M' (as.map (zm_cv h)).toArray U := by
    intro U hU hW
    exact ⟨by rw [hav], by rw [hU], by rw [hU]; exact hP', va_K.moved hW.alike hK, hD', hw', by rw [hU]; exact hZ' U hU hW⟩
  cases hc : C.2.1 with
  | some ci =>
    rw [hc] at hkind hct hrv
    obtain ⟨hCn, hinst, hsel, hrk⟩ := hkind
    have hct := Nat.eq_of_beq_eq_true hct
    subst hct
    have hGV : GoodIn zm_tbl (wsV own idx y.cls y (Jvm.Cond.code y bytes maxL ret :: zm_tbl)) := by
      intro w hw
      unfold wsV at hw
      rcases List.mem_append.mp hw with hw | hw
      · simp only [List.mem_cons, List.not_mem_nil, or_false] at hw
        rcases hw with rfl | rfl | rfl | rfl
        · exact zm_good _ hlink
        · exact zm_good _ hinst
        · exact zm_good _ hsel
        · exact zm_good _ hini
      · exact hG w hw
    rcases hi with ⟨-, rfl⟩ | ⟨hq, -⟩
    · cases as with
      | nil => simp [zm_recv] at hrv
      | cons v As =>
        simp only [zm_recv] at hrv
        have hrec : ∃ b, zm_cv h v = .ref b ∧ ∃ cellB : Cell, H[b]? = some cellB ∧ cellB.vm.isStatics = false ∧ s.vm.findClass y.cls = some cellB.cls := by
          unfold zm_isO at hrv
          split at hrv
          · next nh =>
            split at hrv
            · next ci' rs hw =>
              have hci := Nat.eq_of_beq_eq_true hrv
              subst hci
              refine ⟨h 0 nh, rfl, ?_⟩
              obtain ⟨r0, g1, cell, q1, q2, q3, -⟩ := hP nh _ (zm_ws_at hw)
              refine ⟨cell, q1, by rw [q3]; rfl, ?_⟩
              rcases hrk with ⟨rr, hcl, hcls⟩ | ⟨he, -⟩
              · have e9 : r0 = rr := Option.some.inj (g1.symm.trans hcl)
                subst e9
                rw [q2, ← hcls]
                exact (hK.1 ci' _ hcl).2.1
              · exfalso
                subst he
                have g2 : zm_cl[99]? = some r0 := g1
                simp [zm_cl] at g2
            · cases hrv
          · next k =>
            rw [Bool.and_eq_true] at hrv
            have hci := Nat.eq_of_beq_eq_true hrv.1
            have hk : k < 13 := Nat.le_of_ble_eq_true hrv.2
            refine ⟨h 1 k, rfl, ?_⟩
            rcases hrk with ⟨rr, hcl, hcls⟩ | ⟨-, hy⟩
            · exfalso
              subst hci
              simp [zm_cl] at hcl
            · rw [hy]
              exact hrS k hk
          · cases hrv
        obtain ⟨b9, hb9, hrec⟩ := hrec
        refine va_runV (b := b9) (As := As.map (zm_cv h)) hfix hM (cwV n hts hGV rfl hrc hrs ⟨rfl, hyd⟩ hR) ⟨zm_blind, hrec, ?_⟩ rfl ?_ hla ?_ (lv_room hsum) hd ⟨hcs.1, hcs.2⟩
        · rw [← hb9]; exact hpc
        · simp only [List.length_map]; simp only [List.length_cons] at hn; omega
        · simp [hb9]
    · cases hq
  | none =>
    rw [hc] at hkind hct
    obtain ⟨hCn, hstat⟩ := hkind
    have hct := Nat.eq_of_beq_eq_true hct
    subst hct
    rcases hi with ⟨hq, -⟩ | ⟨-, rfl⟩
    · cases hq
    · refine va_runS (As := as.map (zm_cv h)) hfix hM ⟨callB_of n hts hG rfl hrc hrs (hts _ hini) (hts _ hlink) hyd hR, hts _ hstat⟩ ⟨zm_blind, hpc⟩ rfl ?_ hla rfl (lv_room hsum) hd ⟨hcs.1, hcs.2⟩
      simp only [List.length_map]; omega
end ZMC
