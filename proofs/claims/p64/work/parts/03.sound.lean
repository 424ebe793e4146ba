/-! THE MACHINE OF ROWS IS THE MACHINE: the parts that a proof of it needs -/
theorem zm_ws_get (cA : FieldType → ClassId) (h : Nat → Nat → Nat) (wl : zm_L) (M : zm_I) (n : Nat) : (zm_ws cA h wl M)[n]? = (wl[n]?).map (fun d => (h 0 n, zm_e cA h M n d)) := by
  simp [zm_ws, List.getElem?_mapIdx]
theorem zm_ws_at {cA : FieldType → ClassId} {h : Nat → Nat → Nat} {wl : zm_L} {M : zm_I} {n : Nat} {d : zm_D × List Value} (hd : wl[n]? = some d) : (zm_ws cA h wl M)[n]? = some (h 0 n, zm_e cA h M n d) := by
  rw [zm_ws_get, hd]; rfl
theorem zm_ws_of {cA : FieldType → ClassId} {h : Nat → Nat → Nat} {wl : zm_L} {M : zm_I} {n : Nat} {q : Nat × va_E} (hq : (zm_ws cA h wl M)[n]? = some q) : ∃ d, wl[n]? = some d ∧ q = (h 0 n, zm_e cA h M n d) := by
  rw [zm_ws_get] at hq
  cases hd : wl[n]? with
  | none => rw [hd] at hq; cases hq
  | some d => rw [hd] at hq; exact ⟨d, rfl, (Option.some.inj hq).symm⟩
theorem zm_D_any {A : Nat → Prop} {cA cA' : FieldType → ClassId} {h : Nat → Nat → Nat} {wl : zm_L} {M M' : zm_I} (hD : va_D A (zm_ws cA h wl M)) : va_D A (zm_ws cA' h wl M') := by
  constructor
  · intro i j p q hi hj hpq
    obtain ⟨d1, h1, rfl⟩ := zm_ws_of hi
    obtain ⟨d2, h2, rfl⟩ := zm_ws_of hj
    exact hD.1 i j _ _ (zm_ws_at h1) (zm_ws_at h2) hpq
  · intro k q hk
    obtain ⟨d, h1, rfl⟩ := zm_ws_of hk
    exact hD.2 k (h 0 k, zm_e cA h M k d) (zm_ws_at h1)
theorem zm_e_congr {cA : FieldType → ClassId} {h : Nat → Nat → Nat} {M M' : zm_I} {n : Nat} (d : zm_D × List Value) (h1 : M'.1 n = M.1 n) (h2 : M'.2 n = M.2 n) : zm_e cA h M' n d = zm_e cA h M n d := by
  have hv : ∀ (rs : List Value) (ty : FieldType) (k : Nat), zm_vA M' n rs ty k = zm_vA M n rs ty k := fun rs ty k => by
    cases ty <;> simp [zm_vA, h1, h2]
  have hr : ∀ (rs : List Value) (ty : FieldType), zm_row h M' n rs ty = zm_row h M n rs ty := fun rs ty => by
    cases ty <;> simp [zm_row, h1, h2]
  obtain ⟨ci | ⟨ty, len⟩, rs⟩ := d
  · simp only [zm_e, hv]
  · simp only [zm_e, hr]
theorem zm_ws_set {cA : FieldType → ClassId} {h : Nat → Nat → Nat} {wl : zm_L} {M M' : zm_I} {n : Nat} {d : zm_D × List Value} {e' : va_E} (hd : wl[n]? = some d) (he : zm_e cA h M' n d = e') (ho : ∀ k, k ≠ n → M'.1 k = M.1 k ∧ M'.2 k = M.2 k) : (zm_ws cA h wl M).set n (h 0 n, e') = zm_ws cA h wl M' := by
  apply List.ext_getElem?
  intro k
  rw [List.getElem?_set, zm_ws_get, zm_ws_get]
  by_cases hk : n = k
  · subst hk
    have hl : n < (zm_ws cA h wl M).length := by
      have := (List.getElem?_eq_some_iff.mp hd).1
      simpa [zm_ws] using this
    simp [hl, hd, he]
  · rw [if_neg hk]
    cases hw : wl[k]? with
    | none => rfl
    | some dk => simp only [Option.map_some]; rw [zm_e_congr dk (ho k (Ne.symm hk)).1 (ho k (Ne.symm hk)).2]
theorem zm_w_ne {I : Nat → Nat → Int32} {n i k : Nat} {x : Int32} (hk : k ≠ n) : zm_w I n i x k = I k := by
  funext b
  simp [zm_w, hk]
theorem zm_wl_ne {J : Nat → Nat → Int64} {n i k : Nat} {x : Int64} (hk : k ≠ n) : zm_wl J n i x k = J k := by
  funext b
  simp [zm_wl, hk]
theorem zm_w_eq {I : Nat → Nat → Int32} {n i : Nat} {x : Int32} : zm_w I n i x n = upd (I n) i x := by
  funext b
  simp [zm_w, upd]
theorem zm_wl_eq {J : Nat → Nat → Int64} {n i : Nat} {x : Int64} : zm_wl J n i x n = vp_updL (J n) i x := by
  funext b
  simp [zm_wl, vp_updL]
theorem zm_fset {h : Nat → Nat → Nat} {M M' : zm_I} {n ci f : Nat} {rs : List Value} {v : Value} (hf : f < zm_nf ci) (h1 : zm_cv h (zm_vA M' n rs (zm_ty ci f) f) = v) (h2 : ∀ g, g ≠ f → zm_vA M' n rs (zm_ty ci g) g = zm_vA M n rs (zm_ty ci g) g) :
    (List.range (zm_nf ci)).map (fun g => zm_cv h (zm_vA M' n rs (zm_ty ci g) g)) = ((List.range (zm_nf ci)).map (fun g => zm_cv h (zm_vA M n rs (zm_ty ci g) g))).set f v := by
  apply List.ext_getElem?
  intro k
  rw [List.getElem?_set, List.getElem?_map, List.getElem?_map]
  by_cases hk : f = k
  · subst hk
    simp [hf, h1]
  · rw [if_neg hk]
    by_cases hl : k < zm_nf ci
    · simp [hl, h2 k (Ne.symm hk)]
    · simp [hl]
-- locals
def zm_lok (h : Nat → Nat → Nat) (nL : Nat) (ls : List (Option Value)) (la : Array Slot) : Prop := ls.length = nL ∧ la.size = nL ∧ lv_wf la ∧ ∀ (k : Nat) (v : Value), ls[k]? = some (some v) → la[k]? = some (.val (zm_cv h v))
def zm_prs (h : Nat → Nat → Nat) (ls : List (Option Value)) : List (Nat × Value) := (List.range ls.length).filterMap (fun k => match ls[k]? with
  | some (some v) => some (k, zm_cv h v)
  | _ => none)
theorem zm_prs_of {h : Nat → Nat → Nat} {ls : List (Option Value)} {q : Nat × Value} (hq : q ∈ zm_prs h ls) : ∃ v, ls[q.1]? = some (some v) ∧ q.2 = zm_cv h v := by
  obtain ⟨k, -, hk⟩ := List.mem_filterMap.mp hq
  split at hk
  · next v hv => cases hk; exact ⟨v, hv, rfl⟩
  · cases hk
theorem zm_prs_in {h : Nat → Nat → Nat} {ls : List (Option Value)} {k : Nat} {v : Value} (hv : ls[k]? = some (some v)) : (k, zm_cv h v) ∈ zm_prs h ls := by
  refine List.mem_filterMap.mpr ⟨k, List.mem_range.mpr (List.getElem?_eq_some_iff.mp hv).1, ?_⟩
  simp [hv]
theorem zm_lok_has {h : Nat → Nat → Nat} {nL : Nat} {ls : List (Option Value)} {la : Array Slot} (H : zm_lok h nL ls la) : lv_has la nL (zm_prs h ls) := by
  refine ⟨H.2.1, H.2.2.1, fun q hq => ?_⟩
  obtain ⟨v, h1, h2⟩ := zm_prs_of hq
  rw [h2]
  exact H.2.2.2 _ _ h1
theorem zm_cv_cat (h : Nat → Nat → Nat) (v : Value) : (zm_cv h v).category = v.category := by cases v <;> rfl
theorem zm_clr_len (ls : List (Option Value)) (i : Nat) : (zm_clr ls i).length = ls.length := by
  cases i with
  | zero => rfl
  | succ j => simp only [zm_clr]; split <;> simp
theorem zm_clr_get {ls : List (Option Value)} {i k : Nat} {v : Value} (hv : (zm_clr ls i)[k]? = some (some v)) : ls[k]? = some (some v) ∧ ¬ (k + 1 = i ∧ v.category = 2) := by
  have hset : ∀ {j : Nat}, (ls.set j none)[k]? = some (some v) → ls[k]? = some (some v) ∧ ¬ (k + 1 = j + 1 ∧ v.category = 2) := by
    intro j hv
    rw [List.getElem?_set] at hv
    by_cases hk : j = k
    · subst hk
      rw [if_pos rfl] at hv
      split at hv <;> simp at hv
    · rw [if_neg hk] at hv
      exact ⟨hv, fun q => hk (by omega)⟩
  cases i with
  | zero => exact ⟨hv, fun q => by omega⟩
  | succ j =>
    simp only [zm_clr] at hv
    split at hv
    · exact hset hv
    · exact hset hv
    · next hx hy =>
      refine ⟨hv, fun q => ?_⟩
      have hk : k = j := by omega
      subst hk
      cases v with
      | long y => exact hx y hv
      | double y => exact hy y hv
      | int y => simp [Value.category] at q
      | float y => simp [Value.category] at q
      | null => simp [Value.category] at q
      | ref y => simp [Value.category] at q
      | retAddr y => simp [Value.category] at q
theorem zm_lok_1 {h : Nat → Nat → Nat} {nL i : Nat} {ls : List (Option Value)} {la la' : Array Slot} {v : Value} (H : zm_lok h nL ls la) (hi : i < ls.length) (hl : lv_has la' nL ((i, zm_cv h v) :: (zm_prs h ls).filter (fun q => !(q.1 == i) && !(q.1 + 1 == i && q.2.category == 2)))) : zm_lok h nL ((zm_clr ls i).set i (some v)) la' := by
  refine ⟨by simp [zm_clr_len, H.1], hl.1, hl.2.1, fun k u hu => ?_⟩
  rw [List.getElem?_set] at hu
  by_cases hk : i = k
  · subst hk
    rw [if_pos rfl, if_pos (by rw [zm_clr_len]; exact hi)] at hu
    cases hu
    exact hl.2.2 (i, zm_cv h v) List.mem_cons_self
  · rw [if_neg hk] at hu
    obtain ⟨h1, h2⟩ := zm_clr_get hu
    refine hl.2.2 (k, zm_cv h u) (List.mem_cons_of_mem _ (List.mem_filter.mpr ⟨zm_prs_in h1, ?_⟩))
    simp only [zm_cv_cat]
    simp [Ne.symm hk]
    exact Decidable.not_and_iff_not_or_not.mp h2
theorem zm_lok_2 {h : Nat → Nat → Nat} {nL i : Nat} {ls : List (Option Value)} {la la' : Array Slot} {v : Value} (H : zm_lok h nL ls la) (hi : i + 1 < ls.length) (hl : lv_has la' nL ((i, zm_cv h v) :: (zm_prs h ls).filter (fun q => !(q.1 == i) && (!(q.1 == i + 1) && !(q.1 + 1 == i && q.2.category == 2))))) : zm_lok h nL (((zm_clr ls i).set i (some v)).set (i + 1) none) la' := by
  refine ⟨by simp [zm_clr_len, H.1], hl.1, hl.2.1, fun k u hu => ?_⟩
  rw [List.getElem?_set] at hu
  by_cases hk1 : i + 1 = k
  · subst hk1
    rw [if_pos rfl] at hu
    split at hu <;> simp at hu
  · rw [if_neg hk1, List.getElem?_set] at hu
    by_cases hk : i = k
    · subst hk
      rw [if_pos rfl, if_pos (by rw [zm_clr_len]; omega)] at hu
      cases hu
      exact hl.2.2 (i, zm_cv h v) List.mem_cons_self
    · rw [if_neg hk] at hu
      obtain ⟨h1, h2⟩ := zm_clr_get hu
      refine hl.2.2 (k, zm_cv h u) (List.mem_cons_of_mem _ (List.mem_filter.mpr ⟨zm_prs_in h1, ?_⟩))
      simp only [zm_cv_cat]
      simp [Ne.symm hk, Ne.symm hk1]
      exact Decidable.not_and_iff_not_or_not.mp h2
-- what the machine's parts say, turned round
theorem zm_ld_0 {kn : zm_N} {i : Nat} {ls : List (Option Value)} {st : List Value} {M : zm_I} {r : Option Value × zm_I} (h : zm_ld kn 0 i ls st M = some r) : ∃ x, ls[i]? = some (some (.int x)) ∧ kn ls (.int x :: st) M = some r := by
  unfold zm_ld at h
  split at h
  · next x hx => exact ⟨x, hx, h⟩
  all_goals cases (show (none : zm_R) = some r from h)
theorem zm_ld_1 {kn : zm_N} {i : Nat} {ls : List (Option Value)} {st : List Value} {M : zm_I} {r : Option Value × zm_I} (h : zm_ld kn 1 i ls st M = some r) : ∃ x, ls[i]? = some (some (.long x)) ∧ kn ls (.long x :: st) M = some r := by
  unfold zm_ld at h
  split at h
  · cases (show (none : zm_R) = some r from h)
  · next x hx => exact ⟨x, hx, h⟩
  all_goals cases (show (none : zm_R) = some r from h)
theorem zm_ld_2 {kn : zm_N} {i : Nat} {ls : List (Option Value)} {st : List Value} {M : zm_I} {r : Option Value × zm_I} (h : zm_ld kn 2 i ls st M = some r) : (∃ x, ls[i]? = some (some (.ref x)) ∧ kn ls (.ref x :: st) M = some r) ∨ (ls[i]? = some (some .null) ∧ kn ls (.null :: st) M = some r) ∨ (∃ x, ls[i]? = some (some (.retAddr x)) ∧ kn ls (.retAddr x :: st) M = some r) := by
  unfold zm_ld at h
  split at h
  · cases (show (none : zm_R) = some r from h)
  · cases (show (none : zm_R) = some r from h)
  · next x hx => exact Or.inl ⟨x, hx, h⟩
  · next hx => exact Or.inr (Or.inl ⟨hx, h⟩)
  · next x hx => exact Or.inr (Or.inr ⟨x, hx, h⟩)
  · cases h
theorem zm_st_0 {kn : zm_N} {i : Nat} {ls : List (Option Value)} {st : List Value} {M : zm_I} {r : Option Value × zm_I} (h : zm_st kn 0 i ls st M = some r) : ∃ x t, st = .int x :: t ∧ i < ls.length ∧ kn ((zm_clr ls i).set i (some (.int x))) t M = some r := by
  unfold zm_st at h
  split at h
  · next x t =>
    split at h
    · next hb => exact ⟨x, t, rfl, by simp at hb; omega, h⟩
    · cases h
  all_goals cases (show (none : zm_R) = some r from h)
theorem zm_st_1 {kn : zm_N} {i : Nat} {ls : List (Option Value)} {st : List Value} {M : zm_I} {r : Option Value × zm_I} (h : zm_st kn 1 i ls st M = some r) : ∃ x t, st = .long x :: t ∧ i + 1 < ls.length ∧ kn (((zm_clr ls i).set i (some (.long x))).set (i + 1) none) t M = some r := by
  unfold zm_st at h
  split at h
  · cases (show (none : zm_R) = some r from h)
  · next x t =>
    split at h
    · next hb => exact ⟨x, t, rfl, by simp at hb; omega, h⟩
    · cases h
  all_goals cases (show (none : zm_R) = some r from h)
theorem zm_st_2 {kn : zm_N} {i : Nat} {ls : List (Option Value)} {st : List Value} {M : zm_I} {r : Option Value × zm_I} (h : zm_st kn 2 i ls st M = some r) : (∃ x t, st = .ref x :: t ∧ i < ls.length ∧ kn ((zm_clr ls i).set i (some (.ref x))) t M = some r) ∨ (∃ t, st = .null :: t ∧ i < ls.length ∧ kn ((zm_clr ls i).set i (some .null)) t M = some r) := by
  unfold zm_st at h
  split at h
  · cases (show (none : zm_R) = some r from h)
  · cases (show (none : zm_R) = some r from h)
  · next x t =>
    split at h
    · next hb => exact Or.inl ⟨x, t, rfl, by simp at hb; omega, h⟩
    · cases h
  · next t =>
    split at h
    · next hb => exact Or.inr ⟨t, rfl, by simp at hb; omega, h⟩
    · cases h
  · cases h
theorem zm_b2_o {kn : zm_N} {f : Int32 → Int32 → Int32} {ls : List (Option Value)} {st : List Value} {M : zm_I} {r : Option Value × zm_I} (h : zm_b2 kn f ls st M = some r) : ∃ y x t, st = .int y :: .int x :: t ∧ kn ls (.int (f x y) :: t) M = some r := by
  unfold zm_b2 at h
  split at h
  · exact ⟨_, _, _, rfl, h⟩
  · cases h
theorem zm_b2z_o {kn : zm_N} {f : Int32 → Int32 → Int32} {ls : List (Option Value)} {st : List Value} {M : zm_I} {r : Option Value × zm_I} (h : zm_b2z kn f ls st M = some r) : ∃ y x t, st = .int y :: .int x :: t ∧ ¬ y = 0 ∧ kn ls (.int (f x y) :: t) M = some r := by
  unfold zm_b2z at h
  split at h
  · split at h
    · cases h
    · next hy => exact ⟨_, _, _, rfl, hy, h⟩
  · cases h
theorem zm_l2_o {kn : zm_N} {f : Int64 → Int64 → Int64} {ls : List (Option Value)} {st : List Value} {M : zm_I} {r : Option Value × zm_I} (h : zm_l2 kn f ls st M = some r) : ∃ y x t, st = .long y :: .long x :: t ∧ kn ls (.long (f x y) :: t) M = some r := by
  unfold zm_l2 at h
  split at h
  · exact ⟨_, _, _, rfl, h⟩
  · cases h
theorem zm_l2z_o {kn : zm_N} {f : Int64 → Int64 → Int64} {ls : List (Option Value)} {st : List Value} {M : zm_I} {r : Option Value × zm_I} (h : zm_l2z kn f ls st M = some r) : ∃ y x t, st = .long y :: .long x :: t ∧ ¬ y = 0 ∧ kn ls (.long (f x y) :: t) M = some r := by
  unfold zm_l2z at h
  split at h
  · split at h
    · cases h
    · next hy => exact ⟨_, _, _, rfl, hy, h⟩
  · cases h
theorem zm_ls_o {kn : zm_N} {f : Int64 → Int32 → Int64} {ls : List (Option Value)} {st : List Value} {M : zm_I} {r : Option Value × zm_I} (h : zm_ls kn f ls st M = some r) : ∃ y x t, st = .int y :: .long x :: t ∧ kn ls (.long (f x y) :: t) M = some r := by
  unfold zm_ls at h
  split at h
  · exact ⟨_, _, _, rfl, h⟩
  · cases h
theorem zm_u_o {kn : zm_N} {f : Int32 → Int32} {ls : List (Option Value)} {st : List Value} {M : zm_I} {r : Option Value × zm_I} (h : zm_u kn f ls st M = some r) : ∃ x t, st = .int x :: t ∧ kn ls (.int (f x) :: t) M = some r := by
  unfold zm_u at h
  split at h
  · exact ⟨_, _, rfl, h⟩
  · cases h
theorem zm_m2_o {kn : zm_N} {f : Int32 → Int32 → Int32} {ls : List (Option Value)} {st : List Value} {M : zm_I} {r : Option Value × zm_I} (h : zm_m2 kn f ls st M = some r) : ∃ y x t, st = .int y :: .int x :: t ∧ (t.map fun v => v.category).sum ≤ 8 ∧ kn ls (.int (f x y) :: t) M = some r := by
  unfold zm_m2 at h
  split at h
  · split at h
    · next hb => exact ⟨_, _, _, rfl, Nat.le_of_ble_eq_true hb, h⟩
    · cases h
  · cases h
theorem zm_m1_o {kn : zm_N} {f : Int32 → Int32} {ls : List (Option Value)} {st : List Value} {M : zm_I} {r : Option Value × zm_I} (h : zm_m1 kn f ls st M = some r) : ∃ x t, st = .int x :: t ∧ (t.map fun v => v.category).sum ≤ 8 ∧ kn ls (.int (f x) :: t) M = some r := by
  unfold zm_m1 at h
  split at h
  · split at h
    · next hb => exact ⟨_, _, rfl, Nat.le_of_ble_eq_true hb, h⟩
    · cases h
  · cases h
theorem zm_cat_map (h : Nat → Nat → Nat) (st : List Value) : ((st.map (zm_cv h)).map fun v => v.category) = st.map fun v => v.category := by
  rw [List.map_map]
  apply List.map_congr_left
  intro v _
  exact zm_cv_cat h v
theorem zm_dec_o {cc : ByteArray} {pc : Nat} {i : Instr} (h : zm_dec cc pc i = true) (hs : zm_isSw i = false) : decode cc pc = .ok (i, zm_len i) := by
  unfold zm_dec at h
  split at h
  · next j len hd =>
    simp [hs] at h
    rw [hd, h.1.1, h.1.2]
  · cases h
theorem zm_dec_sw {cc : ByteArray} {pc : Nat} {i : Instr} (h : zm_dec cc pc i = true) : ∃ len, decode cc pc = .ok (i, len) := by
  unfold zm_dec at h
  split at h
  · next j len hd =>
    simp at h
    exact ⟨len, by rw [hd, h.1.1]⟩
  · cases h
theorem zm_dec_tg {cc : ByteArray} {pc : Nat} {i : Instr} (h : zm_dec cc pc i = true) {o : Int} (ho : o ∈ zm_offs i) : (pc : Int) + o = (zm_tg pc o : Int) := by
  unfold zm_dec at h
  split at h
  · simp only [Bool.and_eq_true, List.all_eq_true, decide_eq_true_eq] at h
    have := h.2 o ho
    unfold zm_tg
    omega
  · cases h
