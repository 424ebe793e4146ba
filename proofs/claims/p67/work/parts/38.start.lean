/-! THE LAW'S START: classes, array classes, texts -/
def zs_tm (i : Nat) : Term := match zm_strs[i]? with
  | some q => .string RX8 q.1
  | none => .int 0
def zs_fl : List Jvm.Cond := flatC (Jvm.Cond.and given_1 narrow_1)
def zs_v (i : Nat) : Term := .field (zs_tm i) "java/lang/String" "value" "[B"
theorem zs_1 : (List.range 13).all (fun i => decide (Jvm.Cond.exactly (zs_tm i) "java/lang/String" ∈ zs_fl) && decide (Jvm.Cond.eq (.field (zs_tm i) "java/lang/String" "coder" "B") (.int 0) ∈ zs_fl) && decide (Jvm.Cond.arrayOf (zs_v i) .byte ∈ zs_fl) && decide (Jvm.Cond.eq (.length (zs_v i)) (.int (Int32.ofNat (zm_slen.getD i 0))) ∈ zs_fl) && decide (zm_slen.getD i 0 < 2 ^ 31)) = true := by decide +kernel
theorem zs_2 : (List.range 13).all (fun i => (List.range (zm_slen.getD i 0)).all (fun j => decide (Jvm.Cond.eq (.elem (zs_v i) (.int (Int32.ofNat j))) (.int ((zm_sbyt.getD i []).getD j 0)) ∈ zs_fl))) = true := by decide +kernel
theorem zs_3 : (List.range 13).all (fun i => (List.range 13).all (fun j => Nat.beq i j || decide (Jvm.Cond.not (.eq (zs_tm i) (zs_tm j)) ∈ zs_fl) || decide (Jvm.Cond.not (.eq (zs_tm j) (zs_tm i)) ∈ zs_fl))) = true := by decide +kernel
theorem zs_4 : zm_strs.all (fun q => decide (Jvm.Cond.stringRef RX8 q.1 q.2 ∈ lw_tbl)) = true := by decide +kernel
theorem zs_5 : zn_nest.all (fun q => decide (Jvm.Cond.methodLinkNest q.1 q.2.1 q.2.2 "WearingBench" ∈ lw_tbl)) = true := by decide +kernel
theorem zs_6 : (decide (Jvm.Cond.arrayOver (.object RX0) ∈ lw_tbl) && decide (Jvm.Cond.arrayOver (.object RX2) ∈ lw_tbl) && decide (Jvm.Cond.arrayOver (.object RX7) ∈ lw_tbl)) = true := by decide +kernel
theorem zs_7 : zm_cl.all (fun r => decide (Jvm.Cond.instantiable r.1 r.2.2 ∈ lw_tbl)) = true := by decide +kernel
theorem zs_8 : (decide (Jvm.Cond.arrayClass .int ∈ lw_tbl) && decide (Jvm.Cond.arrayClass .long ∈ lw_tbl) && decide (Jvm.Cond.arrayClass .byte ∈ lw_tbl) && decide (Jvm.Cond.arrayClass .boolean ∈ lw_tbl)) = true := by decide +kernel
theorem zs_in {w : Jvm.Cond} (h : w ∈ zm_tbl) : w ∈ lw_tbl := (List.mem_filter.mp h).1
theorem zs_9 : (decide (Jvm.Cond.eq (.static RJ0 "COMPACT_STRINGS" "Z") (.int 1) ∈ zs_fl) && decide (Jvm.Cond.isRef (.static RJ3 "SIOOBE_FORMATTER" "Ljava/util/function/BiFunction;") ∈ zs_fl)) = true := by decide +kernel
theorem zs_str {s : State} {b : Nat} (hts : ∀ w ∈ lw_tbl, w.before #[Value.ref b] s = true) (hgv : (Jvm.Cond.and given_1 narrow_1).before #[Value.ref b] s = true) : ∃ g : Nat → Nat, zm_Z g (fun q => s.heap.size ≤ q) s s.heap := by
  have hf := flat_of_before _ hgv
  have h1 : ∀ i, i < 13 → _ := fun i hi => List.all_eq_true.mp zs_1 i (List.mem_range.mpr hi)
  simp only [Bool.and_eq_true, decide_eq_true_eq] at h1
  obtain ⟨adK, adV, hS, hE⟩ := vk_Sof (args := #[Value.ref b]) (s := s) (N := 13) (tm := zs_tm) (len := zm_slen) (byt := zm_sbyt) (A := fun q => s.heap.size ≤ q) (fun i hi => (h1 i hi).2) (fun i hi => hf _ (h1 i hi).1.1.1.1) (fun i hi => hf _ (h1 i hi).1.1.1.2) (fun i hi => hf _ (h1 i hi).1.1.2) (fun i hi => hf _ (h1 i hi).1.2)
    (fun i hi j hj => hf _ (of_decide_eq_true (List.all_eq_true.mp (List.all_eq_true.mp zs_2 i (List.mem_range.mpr hi)) j (List.mem_range.mpr hj))))
    (fun i j hi hj hij => by
      have h3 := List.all_eq_true.mp (List.all_eq_true.mp zs_3 i (List.mem_range.mpr hi)) j (List.mem_range.mpr hj)
      simp only [Bool.or_eq_true, decide_eq_true_eq] at h3
      rcases h3 with (h3 | h3) | h3
      · exact absurd (Nat.eq_of_beq_eq_true h3) hij
      · exact Or.inl (hf _ h3)
      · exact Or.inr (hf _ h3))
    (fun a ha => by omega)
  have h9 := zs_9
  simp only [Bool.and_eq_true, decide_eq_true_eq] at h9
  refine ⟨adK, ⟨adV, hS, va_Zof (hts _ (zm_chunk_in 2 (List.mem_of_getElem? (i := 221) rfl))) (hts _ (zs_in (zm_cw 1 12 rfl rfl))) (va_eqt (hf _ h9.1)) (fun a ha => by omega), va_Zqof (hts _ (zm_chunk_in 2 (List.mem_of_getElem? (i := 237) rfl))) (hts _ (zs_in (zm_cw 1 14 rfl rfl))) (hf _ h9.2) (fun a ha => by omega)⟩, fun i q hq => ?_⟩
  have hi : i < 13 := (List.getElem?_eq_some_iff.mp hq).1
  have he := hE i hi
  unfold zs_tm at he
  rw [hq] at he
  exact vk_R.of (hts _ (of_decide_eq_true (List.all_eq_true.mp zs_4 q (List.mem_of_getElem? hq)))) he
theorem zs_AO {s : State} {b : Nat} (hts : ∀ w ∈ lw_tbl, w.before #[Value.ref b] s = true) : zn_AO s := by
  have h6 := zs_6
  simp only [Bool.and_eq_true, decide_eq_true_eq] at h6
  exact ⟨⟨va_AO.of (hts _ h6.1.1), va_AO.of (hts _ h6.1.2), va_AO.of (hts _ h6.2)⟩, fun q hq => va_Nw.of rfl (hts _ (of_decide_eq_true (List.all_eq_true.mp zs_5 q hq)))⟩
theorem zs_prim {s : State} {b : Nat} {ty : FieldType} (hp : zn_prim ty = true) (h : (Jvm.Cond.arrayClass ty).before #[Value.ref b] s = true) : ∃ q : ClassId, ArrOfT s q ty ∧ va_RA s q ty := by
  obtain ⟨cA, kA, comp, h1, h2, h3⟩ := Cond.arrayClass_spec h
  refine ⟨cA, fun n z => ⟨fun k h => (by cases h), kA, h2, comp, h3⟩, ?_⟩
  cases ty <;> first | (cases hp; done) | exact h1
theorem zs_obj {s : State} {C : String} (h : va_AO C s) : ∃ q : ClassId, ArrOfT s q (.object C) ∧ va_RA s q (.object C) := by
  obtain ⟨comp, cArr, kArr, hcomp, hidx, hkArr, hkind, hname⟩ := Cond.arrayOver_spec (args := #[]) h
  refine ⟨cArr, fun n z => ⟨fun k h => (by cases h), kArr, hkArr, comp, hkind⟩, kArr, comp, hkArr, hkind, hcomp, hname⟩
theorem zs_known {s : State} {b : Nat} (hts : ∀ w ∈ lw_tbl, w.before #[Value.ref b] s = true) : ∃ (D : va_G) (cA : FieldType → ClassId), va_K D zm_cl (zm_tys cA) s := by
  have hcl : ∀ ci : Nat, ∃ q : ClassId × (Nat → Nat), ∀ r, zm_cl[ci]? = some r → u_Kn s r.1 r.2.1 r.2.2 q.1 q.2 := by
    intro ci
    cases hr : zm_cl[ci]? with
    | none => exact ⟨(0, fun _ => 0), fun r h => by cases h⟩
    | some r =>
      obtain ⟨cC, iS, hK⟩ := u_known (T := r.2.1) (N := r.2.2) (C := r.1) (n := r.2.2) hts (fun w hw => zs_in ((zm_cwok_ok ci r hr).1 w hw)) (hts _ (of_decide_eq_true (List.all_eq_true.mp zs_7 r (List.mem_of_getElem? hr))))
      exact ⟨(cC, iS), fun r' h => by cases h; exact hK⟩
  have h8 := zs_8
  simp only [Bool.and_eq_true, decide_eq_true_eq] at h8
  have hAO := zs_AO hts
  have hall : ∀ ty : FieldType, ∃ q : ClassId, (ty = .int ∨ ty = .long ∨ ty = .byte ∨ ty = .boolean ∨ ty = .object RX0 ∨ ty = .object RX2 ∨ ty = .object RX7) → ArrOfT s q ty ∧ va_RA s q ty := by
    intro ty
    by_cases h : (ty = .int ∨ ty = .long ∨ ty = .byte ∨ ty = .boolean ∨ ty = .object RX0 ∨ ty = .object RX2 ∨ ty = .object RX7)
    · have : ∃ q : ClassId, ArrOfT s q ty ∧ va_RA s q ty := by
        rcases h with rfl | rfl | rfl | rfl | rfl | rfl | rfl
        · exact zs_prim rfl (hts _ h8.1.1.1)
        · exact zs_prim rfl (hts _ h8.1.1.2)
        · exact zs_prim rfl (hts _ h8.1.2)
        · exact zs_prim rfl (hts _ h8.2)
        · exact zs_obj hAO.1.1
        · exact zs_obj hAO.1.2.1
        · exact zs_obj hAO.1.2.2
      obtain ⟨q, hq⟩ := this
      exact ⟨q, fun _ => hq⟩
    · exact ⟨0, fun h' => absurd h' h⟩
  refine ⟨(fun ci => (Classical.choose (hcl ci)).1, fun ci => (Classical.choose (hcl ci)).2), fun ty => Classical.choose (hall ty), fun ci r hr => Classical.choose_spec (hcl ci) r hr, fun k q hk => ?_⟩
  have hk7 : k < 7 := (List.getElem?_eq_some_iff.mp hk).1
  match k, hk, hk7 with
  | 0, hk, _ => cases hk; exact Classical.choose_spec (hall .int) (by simp)
  | 1, hk, _ => cases hk; exact Classical.choose_spec (hall .long) (by simp)
  | 2, hk, _ => cases hk; exact Classical.choose_spec (hall .byte) (by simp)
  | 3, hk, _ => cases hk; exact Classical.choose_spec (hall .boolean) (by simp)
  | 4, hk, _ => cases hk; exact Classical.choose_spec (hall (.object RX0)) (by simp)
  | 5, hk, _ => cases hk; exact Classical.choose_spec (hall (.object RX2)) (by simp)
  | 6, hk, _ => cases hk; exact Classical.choose_spec (hall (.object RX7)) (by simp)
  | n + 7, _, h => omega
