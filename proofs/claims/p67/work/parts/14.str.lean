/-! STRING: length, charAt of the texts, walked by hand -/
def zs_E (g adV : Nat → Nat) (A : Nat → Prop) (U : State) : Prop := vk_S 13 zm_slen zm_sbyt g adV A U U.heap ∧ va_Z RJ0 "COMPACT_STRINGS" "Z" (.int 1) A U U.heap ∧ va_Zq RJ3 "SIOOBE_FORMATTER" "Ljava/util/function/BiFunction;" A U U.heap
def zs_P (as : List Value) (sz : Nat) (g adV : Nat → Nat) : Array Value → State → Prop := fun v U => v = as.toArray ∧ U.heap.size = sz ∧ zs_E g adV (fun q => sz ≤ q) U
def zs_Q (r : Int32) (sz : Nat) : Array Value → State → Outcome → State → Prop := va_Qi (fun (x : Int32) (_ : Unit) => x = r) (fun _ _ => True) (fun q => sz ≤ q)
def zs_Qv (sz : Nat) : Array Value → State → Outcome → State → Prop := va_Qv (fun (_ : Unit) => True) (fun _ _ => True) (fun q => sz ≤ q)
theorem zs_E_go {g adV : Nat → Nat} {A A' : Nat → Prop} {s U : State} {H : Heap} {locs : List Loc} (hE : zs_E g adV A s) (hS : va_S A s.heap H locs) (hU : U.heap = H) (hW : s.WarmedH U.vm) (hB : ∀ q, A' q → A q) : zs_E g adV A' U := by
  obtain ⟨h1, h3, h4⟩ := hE
  unfold zs_E
  rw [hU]
  exact ⟨((h1.kept hS.2.1).moved hW.alike).narrow hB, ((h3.kept hS.2.1).moved hW.alike).narrow hB, ((h4.kept hS.2.1).moved hW.alike).narrow hB⟩
theorem zs_blind {as : List Value} {sz : Nat} {g adV : Nat → Nat} : FrameBlind (zs_P as sz g adV) := by
  intro a U gf mk q
  obtain ⟨q0, q1, qz, qz3, qz4⟩ := q
  exact ⟨q0, q1, vk_S.moved (u := U) (U := U.calling gf mk a) (Vm.Alike.refl U.vm) qz, va_Z.moved (u := U) (U := U.calling gf mk a) (Vm.Alike.refl U.vm) qz3, va_Zq.moved (u := U) (U := U.calling gf mk a) (Vm.Alike.refl U.vm) qz4⟩
/-- what a callee finds -/
theorem zs_pre {g adV : Nat → Nat} {s : State} {H : Heap} {locs : List Loc} {as : List Value} (hE : zs_E g adV (fun q => s.heap.size ≤ q) s) (hS : va_S (fun q => s.heap.size ≤ q) s.heap H locs) : ∀ U : State, U.heap = H → s.WarmedH U.vm → zs_P as H.size g adV as.toArray U := fun U hU hW => ⟨rfl, by rw [hU], zs_E_go hE hS hU hW (fun q h => Nat.le_trans hS.1 h)⟩
theorem zs_GV {own : String} {idx : Nat} {y : MethodName} {bytes : ByteArray} {maxL : Nat} {ret : Option FieldType} (hlink : Jvm.Cond.methodLink own idx y ∈ zm_tbl) (hinst : Jvm.Cond.instanceMethod y ∈ zm_tbl) (hsel : Jvm.Cond.selects y.cls y y ∈ zm_tbl) (hini : Jvm.Cond.initialized y.cls ∈ zm_tbl) (hcode : Jvm.Cond.code y bytes maxL ret ∈ zm_tbl) : GoodIn zm_tbl (wsV own idx y.cls y (Jvm.Cond.code y bytes maxL ret :: zm_tbl)) := by
  intro w hw
  unfold wsV at hw
  rcases List.mem_append.mp hw with hw | hw
  · simp only [List.mem_cons, List.not_mem_nil, or_false] at hw
    rcases hw with rfl | rfl | rfl | rfl
    · exact zm_good _ hlink
    · exact zm_good _ hinst
    · exact zm_good _ hsel
    · exact zm_good _ hini
  · rcases List.mem_cons.mp hw with rfl | hw
    · exact zm_good _ hcode
    · exact zm_good _ hw
theorem zs_GS {y : MethodName} {bytes : ByteArray} {maxL : Nat} {ret : Option FieldType} (hcode : Jvm.Cond.code y bytes maxL ret ∈ zm_tbl) : GoodIn zm_tbl (Jvm.Cond.code y bytes maxL ret :: zm_tbl) := by
  intro w hw
  rcases List.mem_cons.mp hw with rfl | hw
  · exact zm_good _ hcode
  · exact zm_good _ hw
theorem zsd_co_0 : decode cJ0_coder_7d493 0 = .ok (.getstatic 38, 3) := by decide +kernel
theorem zsd_co_3 : decode cJ0_coder_7d493 3 = .ok (.ifCond .eq 10, 3) := by decide +kernel
theorem zsd_co_6 : decode cJ0_coder_7d493 6 = .ok (.aload_n 0, 1) := by decide +kernel
theorem zsd_co_7 : decode cJ0_coder_7d493 7 = .ok (.getfield 15, 3) := by decide +kernel
theorem zsd_co_10 : decode cJ0_coder_7d493 10 = .ok (.goto 4, 3) := by decide +kernel
theorem zsd_co_14 : decode cJ0_coder_7d493 14 = .ok (.ireturn, 1) := by decide +kernel
theorem zsd_la_0 : decode cJ0_isLatin1_aae02 0 = .ok (.getstatic 38, 3) := by decide +kernel
theorem zsd_la_3 : decode cJ0_isLatin1_aae02 3 = .ok (.ifCond .eq 14, 3) := by decide +kernel
theorem zsd_la_6 : decode cJ0_isLatin1_aae02 6 = .ok (.aload_n 0, 1) := by decide +kernel
theorem zsd_la_7 : decode cJ0_isLatin1_aae02 7 = .ok (.getfield 15, 3) := by decide +kernel
theorem zsd_la_10 : decode cJ0_isLatin1_aae02 10 = .ok (.ifCond .ne 7, 3) := by decide +kernel
theorem zsd_la_13 : decode cJ0_isLatin1_aae02 13 = .ok (.iconst 1, 1) := by decide +kernel
theorem zsd_la_14 : decode cJ0_isLatin1_aae02 14 = .ok (.goto 4, 3) := by decide +kernel
theorem zsd_la_18 : decode cJ0_isLatin1_aae02 18 = .ok (.ireturn, 1) := by decide +kernel
theorem zsd_le_0 : decode cJ0_length_8abf5 0 = .ok (.aload_n 0, 1) := by decide +kernel
theorem zsd_le_1 : decode cJ0_length_8abf5 1 = .ok (.getfield 9, 3) := by decide +kernel
theorem zsd_le_4 : decode cJ0_length_8abf5 4 = .ok (.arraylength, 1) := by decide +kernel
theorem zsd_le_5 : decode cJ0_length_8abf5 5 = .ok (.aload_n 0, 1) := by decide +kernel
theorem zsd_le_6 : decode cJ0_length_8abf5 6 = .ok (.invokevirtual 335, 3) := by decide +kernel
theorem zsd_le_9 : decode cJ0_length_8abf5 9 = .ok (.ishr, 1) := by decide +kernel
theorem zsd_le_10 : decode cJ0_length_8abf5 10 = .ok (.ireturn, 1) := by decide +kernel
theorem zsd_ca_0 : decode cJ0_charAt_5068e 0 = .ok (.aload_n 0, 1) := by decide +kernel
theorem zsd_ca_1 : decode cJ0_charAt_5068e 1 = .ok (.invokevirtual 492, 3) := by decide +kernel
theorem zsd_ca_4 : decode cJ0_charAt_5068e 4 = .ok (.ifCond .eq 12, 3) := by decide +kernel
theorem zsd_ca_7 : decode cJ0_charAt_5068e 7 = .ok (.aload_n 0, 1) := by decide +kernel
theorem zsd_ca_8 : decode cJ0_charAt_5068e 8 = .ok (.getfield 9, 3) := by decide +kernel
theorem zsd_ca_11 : decode cJ0_charAt_5068e 11 = .ok (.iload_n 1, 1) := by decide +kernel
theorem zsd_ca_12 : decode cJ0_charAt_5068e 12 = .ok (.invokestatic 495, 3) := by decide +kernel
theorem zsd_ca_15 : decode cJ0_charAt_5068e 15 = .ok (.ireturn, 1) := by decide +kernel
theorem zsd_ci_0 : decode cJ0_checkIndex_df160 0 = .ok (.iload_n 0, 1) := by decide +kernel
theorem zsd_ci_1 : decode cJ0_checkIndex_df160 1 = .ok (.iload_n 1, 1) := by decide +kernel
theorem zsd_ci_2 : decode cJ0_checkIndex_df160 2 = .ok (.getstatic 1053, 3) := by decide +kernel
theorem zsd_ci_5 : decode cJ0_checkIndex_df160 5 = .ok (.invokestatic 1059, 3) := by decide +kernel
theorem zsd_ci_8 : decode cJ0_checkIndex_df160 8 = .ok (.pop, 1) := by decide +kernel
theorem zsd_ci_9 : decode cJ0_checkIndex_df160 9 = .ok (.return_, 1) := by decide +kernel
theorem zsd_lc_0 : decode cJ1_charAt_3b067 0 = .ok (.iload_n 1, 1) := by decide +kernel
theorem zsd_lc_1 : decode cJ1_charAt_3b067 1 = .ok (.aload_n 0, 1) := by decide +kernel
theorem zsd_lc_2 : decode cJ1_charAt_3b067 2 = .ok (.arraylength, 1) := by decide +kernel
theorem zsd_lc_3 : decode cJ1_charAt_3b067 3 = .ok (.invokestatic 9, 3) := by decide +kernel
theorem zsd_lc_6 : decode cJ1_charAt_3b067 6 = .ok (.aload_n 0, 1) := by decide +kernel
theorem zsd_lc_7 : decode cJ1_charAt_3b067 7 = .ok (.iload_n 1, 1) := by decide +kernel
theorem zsd_lc_8 : decode cJ1_charAt_3b067 8 = .ok (.baload, 1) := by decide +kernel
theorem zsd_lc_9 : decode cJ1_charAt_3b067 9 = .ok (.sipush 255, 3) := by decide +kernel
theorem zsd_lc_12 : decode cJ1_charAt_3b067 12 = .ok (.iand, 1) := by decide +kernel
theorem zsd_lc_13 : decode cJ1_charAt_3b067 13 = .ok (.i2c, 1) := by decide +kernel
theorem zsd_lc_14 : decode cJ1_charAt_3b067 14 = .ok (.ireturn, 1) := by decide +kernel
theorem zsd_pc_0 : decode cJ3_checkIndex_8e157 0 = .ok (.iload_n 0, 1) := by decide +kernel
theorem zsd_pc_1 : decode cJ3_checkIndex_8e157 1 = .ok (.ifCond .lt 8, 3) := by decide +kernel
theorem zsd_pc_4 : decode cJ3_checkIndex_8e157 4 = .ok (.iload_n 0, 1) := by decide +kernel
theorem zsd_pc_5 : decode cJ3_checkIndex_8e157 5 = .ok (.iload_n 1, 1) := by decide +kernel
theorem zsd_pc_6 : decode cJ3_checkIndex_8e157 6 = .ok (.if_icmp .lt 10, 3) := by decide +kernel
theorem zsd_pc_16 : decode cJ3_checkIndex_8e157 16 = .ok (.iload_n 0, 1) := by decide +kernel
theorem zsd_pc_17 : decode cJ3_checkIndex_8e157 17 = .ok (.ireturn, 1) := by decide +kernel
set_option maxHeartbeats 4000000 in
set_option maxRecDepth 100000 in
/-- coder(): 0 -/
theorem zs_coder (l : Launch) (g adV : Nat → Nat) (sz : Nat) (k : Nat) (hk : k < 13) : Met l yJ0_coder_7d493 (.code yJ0_coder_7d493 cJ0_coder_7d493 1 (some .byte) :: zm_tbl) { frames := 0, cells := 0, slots := 0, locals := 0 } (zs_P [.ref (g k)] sz g adV) (zs_Q 0 sz) 0 0 (fun q => sz ≤ q) := by
  refine Met.ofW (cc := cJ0_coder_7d493) (maxL := 1) (ret := (some .byte)) (by decide) rfl ?_
  intro p e s m args below meth c s₁ B hml hv
  obtain ⟨rfl, hsz, hE⟩ := hv
  have hx := B.exec
  have hb := B.bytes
  have hr := B.returns
  have hts0 := atoms_spec B.pre
  have hts : ∀ w ∈ zm_tbl, w.before _ s = true := fun w hw => hts0 w (List.mem_cons_of_mem _ hw)
  have hown : s.vm.findClass RJ0 = some m.cls := findClass_of_methodNamed B.named
  have hlocks := B.notSynchronized
  subst hsz
  have hS : va_S (fun q => s.heap.size ≤ q) s.heap s.heap [] := va_S.rf
  have hl := lv_entry ([.ref (g k)]) (n := 1) (Nat.le_of_ble_eq_true rfl)
  rw [lg_entry_eq]
  generalize (lg_sl ([.ref (g k)]) ++ List.replicate (1 - (lg_sl ([.ref (g k)])).length) Slot.unset).toArray = ls at hl ⊢
  have hfix : CallFix p m c cJ0_coder_7d493 1 s _ zm_tbl RJ0 := ⟨hx, hb, hml, hown, hts⟩
  have hl : lv_has ls 1 [(0, .ref (g k))] := hl
  refine va_gets hx hb hE.2.1 hS hown (hts (.fieldLink RJ0 38 RJ0 "COMPACT_STRINGS" "Z") (zm_cw 2 220 rfl rfl)) (fun _ h9 => h9) zsd_co_0 ?_
  refine lv_if_eq hx hb zsd_co_3 (tgt := 13) rfl (fun h => absurd h (by decide)) (fun _ => ?_)
  refine lv_aload_n hx hb zsd_co_6 rfl (lv_at hl 0 rfl) ?_
  refine vk_getf hx hb (hE.1.1 k hk).2.1 hS hown (hts (.fieldLink RJ0 15 RJ0 "coder" "B") (zm_cw 9 81 rfl rfl)) (fun _ h9 => h9) zsd_co_7 ?_
  refine lv_goto hx hb zsd_co_10 (tgt := 14) rfl ?_
  exact W.zret (v := 0) hx hb hr (by decide) (fun t ht hW => ⟨⟨0, (), rfl, rfl, trivial⟩, hS.F ht⟩) hS.2.2 zsd_co_14
set_option maxHeartbeats 4000000 in
set_option maxRecDepth 100000 in
/-- isLatin1(): true -/
theorem zs_latin (l : Launch) (g adV : Nat → Nat) (sz : Nat) (k : Nat) (hk : k < 13) : Met l yJ0_isLatin1_aae02 (.code yJ0_isLatin1_aae02 cJ0_isLatin1_aae02 1 (some .boolean) :: zm_tbl) { frames := 0, cells := 0, slots := 0, locals := 0 } (zs_P [.ref (g k)] sz g adV) (zs_Q 1 sz) 0 0 (fun q => sz ≤ q) := by
  refine Met.ofW (cc := cJ0_isLatin1_aae02) (maxL := 1) (ret := (some .boolean)) (by decide) rfl ?_
  intro p e s m args below meth c s₁ B hml hv
  obtain ⟨rfl, hsz, hE⟩ := hv
  have hx := B.exec
  have hb := B.bytes
  have hr := B.returns
  have hts0 := atoms_spec B.pre
  have hts : ∀ w ∈ zm_tbl, w.before _ s = true := fun w hw => hts0 w (List.mem_cons_of_mem _ hw)
  have hown : s.vm.findClass RJ0 = some m.cls := findClass_of_methodNamed B.named
  have hlocks := B.notSynchronized
  subst hsz
  have hS : va_S (fun q => s.heap.size ≤ q) s.heap s.heap [] := va_S.rf
  have hl := lv_entry ([.ref (g k)]) (n := 1) (Nat.le_of_ble_eq_true rfl)
  rw [lg_entry_eq]
  generalize (lg_sl ([.ref (g k)]) ++ List.replicate (1 - (lg_sl ([.ref (g k)])).length) Slot.unset).toArray = ls at hl ⊢
  have hfix : CallFix p m c cJ0_isLatin1_aae02 1 s _ zm_tbl RJ0 := ⟨hx, hb, hml, hown, hts⟩
  have hl : lv_has ls 1 [(0, .ref (g k))] := hl
  refine va_gets hx hb hE.2.1 hS hown (hts (.fieldLink RJ0 38 RJ0 "COMPACT_STRINGS" "Z") (zm_cw 2 220 rfl rfl)) (fun _ h9 => h9) zsd_la_0 ?_
  refine lv_if_eq hx hb zsd_la_3 (tgt := 17) rfl (fun h => absurd h (by decide)) (fun _ => ?_)
  refine lv_aload_n hx hb zsd_la_6 rfl (lv_at hl 0 rfl) ?_
  refine vk_getf hx hb (hE.1.1 k hk).2.1 hS hown (hts (.fieldLink RJ0 15 RJ0 "coder" "B") (zm_cw 9 81 rfl rfl)) (fun _ h9 => h9) zsd_la_7 ?_
  refine lv_if_ne hx hb zsd_la_10 (tgt := 17) rfl (fun h => absurd rfl h) (fun _ => ?_)
  refine lv_iconst hx hb zsd_la_13 (v := 1) rfl ?_
  refine lv_goto hx hb zsd_la_14 (tgt := 18) rfl ?_
  exact W.zret (v := 1) hx hb hr (by decide) (fun t ht hW => ⟨⟨1, (), rfl, rfl, trivial⟩, hS.F ht⟩) hS.2.2 zsd_la_18
theorem zs_len_all : ∀ k, k < 13 → (Int32.ofNat (zm_slen.getD k 0)) >>> ((0 : Int32) &&& 31) = Int32.ofNat (zm_slen.getD k 0) := by decide +kernel
set_option maxHeartbeats 4000000 in
set_option maxRecDepth 100000 in
/-- checkIndex(i, n, f): i, where it lies within -/
theorem zs_pcheck (l : Launch) (g adV : Nat → Nat) (sz : Nat) (i n : Int32) (w : Value) (hw : w = .null ∨ ∃ t, w = .ref t) (h0 : ¬ i < 0) (h1 : i < n) : Met l yJ3_checkIndex_8e157 (.code yJ3_checkIndex_8e157 cJ3_checkIndex_8e157 3 (some .int) :: zm_tbl) { frames := 0, cells := 0, slots := 0, locals := 0 } (zs_P [.int i, .int n, w] sz g adV) (zs_Q i sz) 0 0 (fun q => sz ≤ q) := by
  refine Met.ofW (cc := cJ3_checkIndex_8e157) (maxL := 3) (ret := (some .int)) (by decide) rfl ?_
  intro p e s m args below meth c s₁ B hml hv
  obtain ⟨rfl, hsz, hE⟩ := hv
  have hx := B.exec
  have hb := B.bytes
  have hr := B.returns
  have hts0 := atoms_spec B.pre
  have hts : ∀ w ∈ zm_tbl, w.before _ s = true := fun w hw => hts0 w (List.mem_cons_of_mem _ hw)
  have hown : s.vm.findClass RJ3 = some m.cls := findClass_of_methodNamed B.named
  have hlocks := B.notSynchronized
  subst hsz
  have hS : va_S (fun q => s.heap.size ≤ q) s.heap s.heap [] := va_S.rf
  have hl := lv_entry ([.int i, .int n, w]) (n := 3) (by rcases hw with rfl | ⟨t, rfl⟩ <;> exact Nat.le_of_ble_eq_true rfl)
  rw [lg_entry_eq]
  generalize (lg_sl ([.int i, .int n, w]) ++ List.replicate (3 - (lg_sl ([.int i, .int n, w])).length) Slot.unset).toArray = ls at hl ⊢
  have hfix : CallFix p m c cJ3_checkIndex_8e157 3 s _ zm_tbl RJ3 := ⟨hx, hb, hml, hown, hts⟩
  have hl1 : ls[0]? = some (.val (.int i)) := lv_at hl 0 rfl
  have hl2 : ls[1]? = some (.val (.int n)) := lv_at hl 1 rfl
  refine lv_iload_n hx hb zsd_pc_0 rfl hl1 ?_
  refine lv_if_lt hx hb zsd_pc_1 (tgt := 9) rfl (fun h => absurd h h0) (fun _ => ?_)
  refine lv_iload_n hx hb zsd_pc_4 rfl hl1 ?_
  refine lv_iload_n hx hb zsd_pc_5 rfl hl2 ?_
  refine lv_icmp_lt hx hb zsd_pc_6 (tgt := 16) rfl (fun _ => ?_) (fun h => absurd h1 h)
  refine lv_iload_n hx hb zsd_pc_16 rfl hl1 ?_
  exact W.iret (v := i) hx hb hr (fun t ht hW => ⟨⟨i, (), rfl, rfl, trivial⟩, hS.F ht⟩) hS.2.2 zsd_pc_17
set_option maxHeartbeats 4000000 in
set_option maxRecDepth 100000 in
/-- checkIndex(i, n), where i lies within -/
theorem zs_check (l : Launch) (g adV : Nat → Nat) (sz : Nat) (i n : Int32) (h0 : ¬ i < 0) (h1 : i < n) : Met l yJ0_checkIndex_df160 (.code yJ0_checkIndex_df160 cJ0_checkIndex_df160 2 none :: zm_tbl) { frames := 1, cells := 0, slots := 0, locals := 22 } (zs_P [.int i, .int n] sz g adV) (zs_Qv sz) 0 0 (fun q => sz ≤ q) := by
  refine Met.ofW (cc := cJ0_checkIndex_df160) (maxL := 2) (ret := none) (by decide) rfl ?_
  intro p e s m args below meth c s₁ B hml hv
  obtain ⟨rfl, hsz, hE⟩ := hv
  have hx := B.exec
  have hb := B.bytes
  have hr := B.returns
  have hts0 := atoms_spec B.pre
  have hts : ∀ w ∈ zm_tbl, w.before _ s = true := fun w hw => hts0 w (List.mem_cons_of_mem _ hw)
  have hown : s.vm.findClass RJ0 = some m.cls := findClass_of_methodNamed B.named
  have hlocks := B.notSynchronized
  subst hsz
  have hS : va_S (fun q => s.heap.size ≤ q) s.heap s.heap [] := va_S.rf
  have hl := lv_entry ([.int i, .int n]) (n := 2) (Nat.le_of_ble_eq_true rfl)
  rw [lg_entry_eq]
  generalize (lg_sl ([.int i, .int n]) ++ List.replicate (2 - (lg_sl ([.int i, .int n])).length) Slot.unset).toArray = ls at hl ⊢
  have hfix : CallFix p m c cJ0_checkIndex_df160 2 s _ zm_tbl RJ0 := ⟨hx, hb, hml, hown, hts⟩
  have hl : lv_has ls 2 [(0, .int i), (1, .int n)] := hl
  refine lv_iload_n hx hb zsd_ci_0 rfl (lv_at hl 0 rfl) ?_
  refine lv_iload_n hx hb zsd_ci_1 rfl (lv_at hl 1 rfl) ?_
  have hq : ∃ w : Value, (w = .null ∨ ∃ t, w = .ref t) ∧ va_Z RJ3 "SIOOBE_FORMATTER" "Ljava/util/function/BiFunction;" w (fun q => s.heap.size ≤ q) s s.heap := by
    rcases hE.2.2 with h | ⟨t, h⟩
    · exact ⟨_, Or.inl rfl, h⟩
    · exact ⟨_, Or.inr ⟨t, rfl⟩, h⟩
  obtain ⟨w, hw, hq⟩ := hq
  refine va_gets hx hb hq hS hown (hts (.fieldLink RJ0 1053 RJ3 "SIOOBE_FORMATTER" "Ljava/util/function/BiFunction;") (zm_cw 2 236 rfl rfl)) (fun _ h9 => h9) zsd_ci_2 ?_
  refine va_calli (S := Unit) (va_runS (As := [.int i, .int n, w]) (rest := []) hfix (zs_pcheck l g adV s.heap.size i n w hw h0 h1) ⟨callB_of 3 hts (zs_GS (zm_cw 3 0 rfl rfl)) rfl rfl rfl (hts _ (zm_cw 1 14 rfl rfl)) (hts (.methodLink RJ0 1059 yJ3_checkIndex_8e157) (zm_cw 2 238 rfl rfl)) ⟨by decide, by decide, by decide +kernel⟩ ⟨Nat.le_of_ble_eq_true rfl, Nat.le_of_ble_eq_true rfl⟩, hts (.static yJ3_checkIndex_8e157) (zm_cw 2 239 rfl rfl)⟩ ⟨zs_blind, zs_pre hE hS⟩ rfl rfl hl.1 rfl (lv_room (Nat.le_of_ble_eq_true rfl)) zsd_ci_5 ⟨Nat.le_of_ble_eq_true rfl, Nat.le_of_ble_eq_true rfl⟩) hS (fun q _ h => Nat.le_trans hS.1 h) (fun q h => Nat.le_trans hS.1 h) (fun r u t H1 locs1 ht hvm hpost hB hz1 hk1 hS => ?_)
  refine lv_pop hx hb zsd_ci_8 rfl ?_
  exact W.vret hx hb hr (fun t ht hW => ⟨⟨(), rfl, trivial, trivial⟩, hS.F ht⟩) hS.2.2 zsd_ci_9
theorem zs_ch_all : ∀ k, k < 13 → ∀ j, j < zm_slen.getD k 0 → ((((zm_sbyt.getD k []).getD j 0) &&& (255 : Int32)).toUInt32 % 65536).toInt32 = (zm_sbyt.getD k []).getD j 0 ∧ (0 : Int32) ≤ (zm_sbyt.getD k []).getD j 0 ∧ (zm_sbyt.getD k []).getD j 0 < (128 : Int32) := by decide +kernel
theorem zs_nar {b : Int32} (h : (b.toUInt32 % 65536).toInt32 = b) : narrow .char (.int b) = .int b := by
  show Value.int _ = _
  exact congrArg _ h
theorem zs_ch2 : ∀ k, k < 13 → ∀ j, j < zm_slen.getD k 0 → (((zm_sbyt.getD k []).getD j 0).toUInt32 % 65536).toInt32 = (zm_sbyt.getD k []).getD j 0 := by decide +kernel
set_option maxHeartbeats 4000000 in
set_option maxRecDepth 100000 in
/-- the char at i, of the bytes -/
theorem zs_latchar (l : Launch) (g adV : Nat → Nat) (sz : Nat) (k : Nat) (hk : k < 13) (i : Int32) (h0 : ¬ i < 0) (h1 : i < Int32.ofNat (zm_slen.getD k 0)) (h2 : i.toNatClampNeg < zm_slen.getD k 0) : Met l yJ1_charAt_3b067 (.code yJ1_charAt_3b067 cJ1_charAt_3b067 2 (some .char) :: zm_tbl) { frames := 2, cells := 0, slots := 0, locals := 44 } (zs_P [.ref (adV k), .int i] sz g adV) (zs_Q ((zm_sbyt.getD k []).getD i.toNatClampNeg 0) sz) 0 0 (fun q => sz ≤ q) := by
  refine Met.ofW (cc := cJ1_charAt_3b067) (maxL := 2) (ret := (some .char)) (by decide) rfl ?_
  intro p e s m args below meth c s₁ B hml hv
  obtain ⟨rfl, hsz, hE⟩ := hv
  have hx := B.exec
  have hb := B.bytes
  have hr := B.returns
  have hts0 := atoms_spec B.pre
  have hts : ∀ w ∈ zm_tbl, w.before _ s = true := fun w hw => hts0 w (List.mem_cons_of_mem _ hw)
  have hown : s.vm.findClass RJ1 = some m.cls := findClass_of_methodNamed B.named
  have hlocks := B.notSynchronized
  subst hsz
  have hS : va_S (fun q => s.heap.size ≤ q) s.heap s.heap [] := va_S.rf
  have hl := lv_entry ([.ref (adV k), .int i]) (n := 2) (Nat.le_of_ble_eq_true rfl)
  rw [lg_entry_eq]
  generalize (lg_sl ([.ref (adV k), .int i]) ++ List.replicate (2 - (lg_sl ([.ref (adV k), .int i])).length) Slot.unset).toArray = ls at hl ⊢
  have hfix : CallFix p m c cJ1_charAt_3b067 2 s _ zm_tbl RJ1 := ⟨hx, hb, hml, hown, hts⟩
  have hl : lv_has ls 2 [(0, .ref (adV k)), (1, .int i)] := hl
  refine lv_iload_n hx hb zsd_lc_0 rfl (lv_at hl 1 rfl) ?_
  refine lv_aload_n hx hb zsd_lc_1 rfl (lv_at hl 0 rfl) ?_
  refine va_tlen hx hb (hE.1.1 k hk).2.2.2 hS rfl zsd_lc_2 ?_
  refine va_callv (S := Unit) (va_runS (As := [.int i, .int (Int32.ofNat (zm_slen.getD k 0))]) (rest := []) hfix (zs_check l g adV s.heap.size i (Int32.ofNat (zm_slen.getD k 0)) h0 h1) ⟨callB_of 2 hts (zs_GS (zm_cw 2 235 rfl rfl)) rfl rfl rfl (hts _ (zm_cw 1 12 rfl rfl)) (hts (.methodLink RJ1 9 yJ0_checkIndex_df160) (zm_cw 2 233 rfl rfl)) ⟨by decide, by decide, by decide +kernel⟩ ⟨Nat.le_of_ble_eq_true rfl, Nat.le_of_ble_eq_true rfl⟩, hts (.static yJ0_checkIndex_df160) (zm_cw 2 234 rfl rfl)⟩ ⟨zs_blind, zs_pre hE hS⟩ rfl rfl hl.1 rfl (lv_room (Nat.le_of_ble_eq_true rfl)) zsd_lc_3 ⟨Nat.le_of_ble_eq_true rfl, Nat.le_of_ble_eq_true rfl⟩) hS (fun q _ h => Nat.le_trans hS.1 h) (fun q h => Nat.le_trans hS.1 h) (fun u t H1 locs1 ht hvm hpost hB hz1 hk1 hS => ?_)
  refine lv_aload_n hx hb zsd_lc_6 rfl (lv_at hl 0 rfl) ?_
  refine lv_iload_n hx hb zsd_lc_7 rfl (lv_at hl 1 rfl) ?_
  refine va_tb hx hb (hE.1.1 k hk).2.2.2 hS (i := i) (by unfold vp_in; intro h; rcases h with h | h; exact h0 h; omega) rfl zsd_lc_8 ?_
  refine lv_sipush hx hb zsd_lc_9 (v := 255) rfl ?_
  refine lv_iand hx hb zsd_lc_12 ?_
  refine lv_i2c hx hb zsd_lc_13 (zs_ch_all k hk _ h2).1 ?_
  exact W.zret (v := (zm_sbyt.getD k []).getD i.toNatClampNeg 0) hx hb hr (zs_nar (zs_ch2 k hk _ h2)) (fun t ht hW => ⟨⟨_, (), rfl, rfl, trivial⟩, hS.F ht⟩) hS.2.2 zsd_lc_14
theorem zs_pre' {g adV : Nat → Nat} {A : Nat → Prop} {s : State} {H : Heap} {locs : List Loc} {as : List Value} (hE : zs_E g adV A s) (hA : ∀ q, s.heap.size ≤ q → A q) (hS : va_S A s.heap H locs) : ∀ U : State, U.heap = H → s.WarmedH U.vm → zs_P as H.size g adV as.toArray U := fun U hU hW => ⟨rfl, by rw [hU], zs_E_go hE hS hU hW (fun q h => hA q (Nat.le_trans hS.1 h))⟩
noncomputable def zF_len : zm_L → List Value → zm_I → zm_R := fun _ av M => match av with
  | [.retAddr k] => match Nat.ble (k + 1) 13 with
    | true => some (some (.int (Int32.ofNat (zm_slen.getD k 0))), M)
    | false => none
  | _ => none
noncomputable def zF_cha : zm_L → List Value → zm_I → zm_R := fun _ av M => match av with
  | [.retAddr k, .int i] => match Nat.ble (k + 1) 13 with
    | true => if i < 0 ∨ zm_slen.getD k 0 ≤ i.toNatClampNeg then none else some (some (.int ((zm_sbyt.getD k []).getD i.toNatClampNeg 0)), M)
    | false => none
  | _ => none
theorem zs_small : ∀ k, k < 13 → zm_slen.getD k 0 < 100 := by decide +kernel
theorem zs_clamp {i : Int32} (h : 0 ≤ i.toInt) : (i.toNatClampNeg : Int) = i.toInt := by
  show ((i.toInt.toNat : Nat) : Int) = i.toInt
  omega
theorem zs_lt {i : Int32} {n : Nat} (h0 : ¬ i < 0) (h : i.toNatClampNeg < n) (hn : n < 100) : i < Int32.ofNat n := by
  have h1 : 0 ≤ i.toInt := by
    have := fun q => h0 (Int32.lt_iff_toInt_lt.mpr q)
    simp at this
    omega
  have h2 : (i.toNatClampNeg : Int) = i.toInt := zs_clamp h1
  rw [Int32.lt_iff_toInt_lt, Int32.toInt_ofNat_of_lt (by omega)]
  omega
set_option maxHeartbeats 4000000 in
set_option maxRecDepth 100000 in
/-- length() -/
theorem zs_length (l : Launch) (D : va_G) (cA : FieldType → ClassId) (h : Nat → Nat → Nat) (wl : zm_L) (sz : Nat) (M : zm_I) (k : Nat) (hk : k < 13) : Met l yJ0_length_8abf5 (.code yJ0_length_8abf5 cJ0_length_8abf5 1 (some .int) :: zm_tbl) { frames := 1, cells := 0, slots := 0, locals := 20 } (zm_Pc D cA h wl sz [.retAddr k] M) (zm_Q D cA h wl (va_A (zm_ws cA h wl M) sz) (some (.int (Int32.ofNat (zm_slen.getD k 0))), M)) 0 0 (va_A (zm_ws cA h wl M) sz) := by
  refine Met.ofW (cc := cJ0_length_8abf5) (maxL := 1) (ret := (some .int)) (by decide) rfl ?_
  intro p e s m args below meth c s₁ B hml hv
  obtain ⟨hav, hsz, hP, hK, hD0, hw, ⟨adV, hE⟩, hR⟩ := hv
  have hav : args = ([.ref (h 1 k)] : List Value).toArray := hav
  subst hav
  have hx := B.exec
  have hb := B.bytes
  have hr := B.returns
  have hts0 := atoms_spec B.pre
  have hts : ∀ w ∈ zm_tbl, w.before _ s = true := fun w hw => hts0 w (List.mem_cons_of_mem _ hw)
  have hown : s.vm.findClass RJ0 = some m.cls := findClass_of_methodNamed B.named
  have hlocks := B.notSynchronized
  subst hsz
  generalize hAe : va_A (zm_ws cA h wl M) s.heap.size = A at hE ⊢
  have hA : ∀ q : Nat, s.heap.size ≤ q → A q := fun q h => by rw [← hAe]; exact Or.inr h
  have hE : zs_E (h 1) adV A s := hE
  have hS : va_S A s.heap s.heap [] := va_S.rf
  have hl := lv_entry ([.ref (h 1 k)]) (n := 1) (Nat.le_of_ble_eq_true rfl)
  rw [lg_entry_eq]
  generalize (lg_sl ([.ref (h 1 k)]) ++ List.replicate (1 - (lg_sl ([.ref (h 1 k)])).length) Slot.unset).toArray = ls at hl ⊢
  have hfix : CallFix p m c cJ0_length_8abf5 1 s _ zm_tbl RJ0 := ⟨hx, hb, hml, hown, hts⟩
  have hl : lv_has ls 1 [(0, .ref (h 1 k))] := hl
  refine lv_aload_n hx hb zsd_le_0 rfl (lv_at hl 0 rfl) ?_
  refine vk_getf hx hb (hE.1.1 k hk).2.2.1 hS hown (hts (.fieldLink RJ0 9 RJ0 "value" "[B") (zm_cw 9 80 rfl rfl)) (fun _ h9 => h9) zsd_le_1 ?_
  refine va_tlen hx hb (hE.1.1 k hk).2.2.2 hS rfl zsd_le_4 ?_
  refine lv_aload_n hx hb zsd_le_5 rfl (lv_at hl 0 rfl) ?_
  refine va_calli (S := Unit) (va_runV (b := h 1 k) (As := []) (rest := [.int (Int32.ofNat (zm_slen.getD k 0))]) hfix (zs_coder l (h 1) adV s.heap.size k hk) (cwV 0 hts (zs_GV (own := RJ0) (idx := 335) (zm_cw 2 216 rfl rfl) (zm_cw 2 217 rfl rfl) (zm_cw 2 218 rfl rfl) (zm_cw 1 12 rfl rfl) (zm_cw 2 219 rfl rfl)) rfl rfl rfl ⟨rfl, by decide, by decide, by decide +kernel⟩ ⟨Nat.le_of_ble_eq_true rfl, Nat.le_of_ble_eq_true rfl⟩) ⟨zs_blind, vk_recv hE.1 hk hS, zs_pre' hE hA hS⟩ rfl rfl hl.1 rfl (lv_room (Nat.le_of_ble_eq_true rfl)) zsd_le_6 ⟨Nat.le_of_ble_eq_true rfl, Nat.le_of_ble_eq_true rfl⟩) hS (fun q _ h => hA q (Nat.le_trans hS.1 h)) (fun q h => hA q (Nat.le_trans hS.1 h)) (fun r u t H1 locs1 ht hvm hpost hB hz1 hk1 hS => ?_)
  subst hpost
  have hP := hP.kept (H1 := H1) (fun k q hq => hk1 q.1 (hP k q hq).lt (Nat.not_le_of_lt (hP k q hq).lt))
  refine lv_ishr hx hb zsd_le_9 ?_
  rw [zs_len_all k hk]
  exact W.iret (v := Int32.ofNat (zm_slen.getD k 0)) hx hb hr (fun t ht hW => ⟨rfl, by rw [ht]; exact hP, hS.F ht⟩) hS.2.2 zsd_le_10
set_option maxHeartbeats 4000000 in
set_option maxRecDepth 100000 in
/-- the char at i -/
theorem zs_charAt (l : Launch) (D : va_G) (cA : FieldType → ClassId) (h : Nat → Nat → Nat) (wl : zm_L) (sz : Nat) (M : zm_I) (k : Nat) (hk : k < 13) (i : Int32) (h0 : ¬ i < 0) (h1 : i < Int32.ofNat (zm_slen.getD k 0)) (h2 : i.toNatClampNeg < zm_slen.getD k 0) : Met l yJ0_charAt_5068e (.code yJ0_charAt_5068e cJ0_charAt_5068e 2 (some .char) :: zm_tbl) { frames := 3, cells := 0, slots := 0, locals := 66 } (zm_Pc D cA h wl sz [.retAddr k, .int i] M) (zm_Q D cA h wl (va_A (zm_ws cA h wl M) sz) (some (.int ((zm_sbyt.getD k []).getD i.toNatClampNeg 0)), M)) 0 0 (va_A (zm_ws cA h wl M) sz) := by
  refine Met.ofW (cc := cJ0_charAt_5068e) (maxL := 2) (ret := (some .char)) (by decide) rfl ?_
  intro p e s m args below meth c s₁ B hml hv
  obtain ⟨hav, hsz, hP, hK, hD0, hw, ⟨adV, hE⟩, hR⟩ := hv
  have hav : args = ([.ref (h 1 k), .int i] : List Value).toArray := hav
  subst hav
  have hx := B.exec
  have hb := B.bytes
  have hr := B.returns
  have hts0 := atoms_spec B.pre
  have hts : ∀ w ∈ zm_tbl, w.before _ s = true := fun w hw => hts0 w (List.mem_cons_of_mem _ hw)
  have hown : s.vm.findClass RJ0 = some m.cls := findClass_of_methodNamed B.named
  have hlocks := B.notSynchronized
  subst hsz
  generalize hAe : va_A (zm_ws cA h wl M) s.heap.size = A at hE ⊢
  have hA : ∀ q : Nat, s.heap.size ≤ q → A q := fun q h => by rw [← hAe]; exact Or.inr h
  have hE : zs_E (h 1) adV A s := hE
  have hS : va_S A s.heap s.heap [] := va_S.rf
  have hl := lv_entry ([.ref (h 1 k), .int i]) (n := 2) (Nat.le_of_ble_eq_true rfl)
  rw [lg_entry_eq]
  generalize (lg_sl ([.ref (h 1 k), .int i]) ++ List.replicate (2 - (lg_sl ([.ref (h 1 k), .int i])).length) Slot.unset).toArray = ls at hl ⊢
  have hfix : CallFix p m c cJ0_charAt_5068e 2 s _ zm_tbl RJ0 := ⟨hx, hb, hml, hown, hts⟩
  have hl : lv_has ls 2 [(0, .ref (h 1 k)), (1, .int i)] := hl
  refine lv_aload_n hx hb zsd_ca_0 rfl (lv_at hl 0 rfl) ?_
  refine va_calli (S := Unit) (va_runV (b := h 1 k) (As := []) (rest := []) hfix (zs_latin l (h 1) adV s.heap.size k hk) (cwV 0 hts (zs_GV (own := RJ0) (idx := 492) (zm_cw 2 226 rfl rfl) (zm_cw 2 227 rfl rfl) (zm_cw 2 228 rfl rfl) (zm_cw 1 12 rfl rfl) (zm_cw 2 229 rfl rfl)) rfl rfl rfl ⟨rfl, by decide, by decide, by decide +kernel⟩ ⟨Nat.le_of_ble_eq_true rfl, Nat.le_of_ble_eq_true rfl⟩) ⟨zs_blind, vk_recv hE.1 hk hS, zs_pre' hE hA hS⟩ rfl rfl hl.1 rfl (lv_room (Nat.le_of_ble_eq_true rfl)) zsd_ca_1 ⟨Nat.le_of_ble_eq_true rfl, Nat.le_of_ble_eq_true rfl⟩) hS (fun q _ h => hA q (Nat.le_trans hS.1 h)) (fun q h => hA q (Nat.le_trans hS.1 h)) (fun r u t H1 locs1 ht hvm hpost hB hz1 hk1 hS => ?_)
  subst hpost
  have hP := hP.kept (H1 := H1) (fun k q hq => hk1 q.1 (hP k q hq).lt (Nat.not_le_of_lt (hP k q hq).lt))
  refine lv_if_eq hx hb zsd_ca_4 (tgt := 16) rfl (fun h => absurd h (by decide)) (fun _ => ?_)
  refine lv_aload_n hx hb zsd_ca_7 rfl (lv_at hl 0 rfl) ?_
  refine vk_getf hx hb (hE.1.1 k hk).2.2.1 hS hown (hts (.fieldLink RJ0 9 RJ0 "value" "[B") (zm_cw 9 80 rfl rfl)) (fun _ h9 => h9) zsd_ca_8 ?_
  refine lv_iload_n hx hb zsd_ca_11 rfl (lv_at hl 1 rfl) ?_
  refine va_calli (S := Unit) (va_runS (As := [.ref (adV k), .int i]) (rest := []) hfix (zs_latchar l (h 1) adV H1.size k hk i h0 h1 h2) ⟨callB_of 2 hts (zs_GS (zm_cw 2 232 rfl rfl)) rfl rfl rfl (hts _ (zm_cw 1 13 rfl rfl)) (hts (.methodLink RJ0 495 yJ1_charAt_3b067) (zm_cw 2 230 rfl rfl)) ⟨by decide, by decide, by decide +kernel⟩ ⟨Nat.le_of_ble_eq_true rfl, Nat.le_of_ble_eq_true rfl⟩, hts (.static yJ1_charAt_3b067) (zm_cw 2 231 rfl rfl)⟩ ⟨zs_blind, zs_pre' hE hA hS⟩ rfl rfl hl.1 rfl (lv_room (Nat.le_of_ble_eq_true rfl)) zsd_ca_12 ⟨Nat.le_of_ble_eq_true rfl, Nat.le_of_ble_eq_true rfl⟩) hS (fun q _ h => hA q (Nat.le_trans hS.1 h)) (fun q h => hA q (Nat.le_trans hS.1 h)) (fun r u t2 H2 locs2 ht2 hvm2 hpost hB2 hz2 hk2 hS => ?_)
  subst hpost
  have hP := hP.kept (H1 := H2) (fun k q hq => hk2 q.1 (hP k q hq).lt (Nat.not_le_of_lt (hP k q hq).lt))
  exact W.zret (v := (zm_sbyt.getD k []).getD i.toNatClampNeg 0) hx hb hr (zs_nar (zs_ch2 k hk _ h2)) (fun t ht hW => ⟨rfl, by rw [ht]; exact hP, hS.F ht⟩) hS.2.2 zsd_ca_15
theorem zs_con_len (l : Launch) : zm_Con l yJ0_length_8abf5 cJ0_length_8abf5 1 (some .int) { frames := 1, cells := 0, slots := 0, locals := 20 } zF_len := by
  intro D cA h wl sz av M r hF
  unfold zF_len at hF
  split at hF
  · next k =>
    split at hF
    · next hk => cases hF; exact zs_length l D cA h wl sz M k (Nat.le_of_ble_eq_true hk)
    · cases hF
  · cases hF
theorem zs_con_cha (l : Launch) : zm_Con l yJ0_charAt_5068e cJ0_charAt_5068e 2 (some .char) { frames := 3, cells := 0, slots := 0, locals := 66 } zF_cha := by
  intro D cA h wl sz av M r hF
  unfold zF_cha at hF
  split at hF
  · next k i =>
    split at hF
    · next hk =>
      have hk := Nat.le_of_ble_eq_true hk
      split at hF
      · cases hF
      · next hi =>
        cases hF
        have h0 : ¬ i < 0 := fun q => hi (Or.inl q)
        have h2 : i.toNatClampNeg < zm_slen.getD k 0 := Nat.lt_of_not_le (fun q => hi (Or.inr q))
        exact zs_charAt l D cA h wl sz M k hk i h0 (zs_lt h0 h2 (zs_small k hk)) h2
    · cases hF
  · cases hF
theorem zs_ok_len (l : Launch) {R : Room} {sm : Bool} {bl : List (Nat × Nat)} (hR : 2 ≤ R.frames ∧ 40 ≤ R.locals) : zm_callok l R RX8 132 (1, some 99, sm, bl, zF_len) := ⟨yJ0_length_8abf5, cJ0_length_8abf5, 1, some .int, _, 0, zs_con_len l, rfl, rfl, ⟨hR.1, hR.2⟩, zm_cw 2 215 rfl rfl, zm_cw 2 212 rfl rfl, zm_cw 1 12 rfl rfl, ⟨by decide, by decide, by decide +kernel⟩, rfl, zm_cw 2 213 rfl rfl, zm_cw 2 214 rfl rfl, Or.inr ⟨rfl, rfl⟩⟩
theorem zs_ok_cha (l : Launch) {R : Room} {sm : Bool} {bl : List (Nat × Nat)} (hR : 4 ≤ R.frames ∧ 87 ≤ R.locals) : zm_callok l R RX8 137 (2, some 99, sm, bl, zF_cha) := ⟨yJ0_charAt_5068e, cJ0_charAt_5068e, 2, some .char, _, 1, zs_con_cha l, rfl, rfl, ⟨hR.1, hR.2⟩, zm_cw 2 225 rfl rfl, zm_cw 2 222 rfl rfl, zm_cw 1 12 rfl rfl, ⟨by decide, by decide, by decide +kernel⟩, rfl, zm_cw 2 223 rfl rfl, zm_cw 2 224 rfl rfl, Or.inr ⟨rfl, rfl⟩⟩
