/-! THE WORLD UNDER OTHER NUMBERS -/
def zn_ren (p : List Nat) : Value → Value
  | .ref n => .ref (p.getD n 0)
  | v => v
def zn_hp (p : List Nat) (h : Nat → Nat → Nat) : Nat → Nat → Nat := fun a n => match a with
  | 0 => h 0 (p.getD n 0)
  | a + 1 => h (a + 1) n
def zn_Mp (p : List Nat) (M : zm_I) : zm_I := (fun n => M.1 (p.getD n 0), fun n => M.2 (p.getD n 0))
def zn_permB (p : List Nat) (wl wl' : zm_L) : Bool := Nat.beq wl'.length p.length && decide p.Nodup && (List.range p.length).all (fun k => match wl'[k]? with
  | some d' => match wl[p.getD k 0]? with
    | some d => zn_eqC (d'.1, d'.2.map (zn_ren p) ++ List.replicate (d.2.length - d'.2.length) Value.null) d
    | none => false
  | none => false)
theorem zn_cv_hp (p : List Nat) (h : Nat → Nat → Nat) (v : Value) : zm_cv (zn_hp p h) v = zm_cv h (zn_ren p v) := by cases v <;> rfl
theorem zn_rr_hp (p : List Nat) (h : Nat → Nat → Nat) (v : Value) : zm_rr (zn_hp p h) v = zm_rr h (zn_ren p v) := by cases v <;> rfl
theorem zn_ren_getD {p : List Nat} {rs rs' : List Value} {k : Nat} (he : rs'.map (zn_ren p) ++ List.replicate k Value.null = rs) (f : Nat) : zn_ren p (rs'.getD f .null) = rs.getD f .null := by
  subst he
  rw [List.getD_eq_getElem?_getD, List.getD_eq_getElem?_getD]
  by_cases hf : f < rs'.length
  · rw [List.getElem?_append_left (by simpa using hf), List.getElem?_map, List.getElem?_eq_getElem hf]
    rfl
  · rw [List.getElem?_append_right (by simpa using Nat.le_of_not_lt hf), List.getElem?_eq_none (Nat.le_of_not_lt hf), List.getElem?_replicate]
    split <;> rfl
theorem zn_e_perm {cA : FieldType → ClassId} {p : List Nat} {h : Nat → Nat → Nat} {M : zm_I} {k n : Nat} {d d' : zm_D × List Value} (h1 : d'.1 = d.1) (h2 : d'.2.map (zn_ren p) ++ List.replicate n Value.null = d.2) : zm_e cA (zn_hp p h) (zn_Mp p M) k d' = zm_e cA h M (p.getD k 0) d := by
  obtain ⟨d1, rs'⟩ := d'
  obtain ⟨d2, rs⟩ := d
  dsimp only at h1 h2
  subst h1
  obtain ci | ⟨ty, len⟩ := d1
  · have hv : ∀ (ty : FieldType) (f : Nat), zm_cv (zn_hp p h) (zm_vA (zn_Mp p M) k rs' ty f) = zm_cv h (zm_vA M (p.getD k 0) rs ty f) := by
      intro ty f
      rw [zn_cv_hp]
      cases ty <;> simp only [zm_vA, zn_Mp, zn_ren_getD h2] <;> rfl
    simp only [zm_e, hv]
  · have hr : zm_row (zn_hp p h) (zn_Mp p M) k rs' ty = zm_row h M (p.getD k 0) rs ty := by
      cases ty <;> simp only [zm_row, zn_Mp, zn_rr_hp, zn_ren_getD h2]
    simp only [zm_e, hr]
theorem zn_perm_at {p : List Nat} {wl wl' : zm_L} (hb : zn_permB p wl wl' = true) {cA : FieldType → ClassId} {h : Nat → Nat → Nat} {M : zm_I} {k : Nat} {q : Nat × va_E} (hq : (zm_ws cA (zn_hp p h) wl' (zn_Mp p M))[k]? = some q) : k < p.length ∧ (zm_ws cA h wl M)[p.getD k 0]? = some q := by
  simp only [zn_permB, Bool.and_eq_true, decide_eq_true_eq] at hb
  obtain ⟨⟨hl, hn⟩, ha⟩ := hb
  have hl := Nat.eq_of_beq_eq_true hl
  obtain ⟨d', hd', rfl⟩ := zm_ws_of hq
  have hk : k < p.length := by rw [← hl]; exact (List.getElem?_eq_some_iff.mp hd').1
  have := List.all_eq_true.mp ha k (List.mem_range.mpr hk)
  rw [hd'] at this
  simp only at this
  split at this
  · next d hd =>
    have this := zn_eqC_ok this
    have t1 : d'.1 = d.1 := by rw [← this]
    have t2 : d'.2.map (zn_ren p) ++ List.replicate (d.2.length - d'.2.length) Value.null = d.2 := congrArg Prod.snd this
    refine ⟨hk, ?_⟩
    rw [zm_ws_at hd, zn_e_perm (h := h) (M := M) (k := k) t1 t2]
    rfl
  · cases this
theorem zn_perm_P {p : List Nat} {wl wl' : zm_L} (hb : zn_permB p wl wl' = true) {D : va_G} {cA : FieldType → ClassId} {h : Nat → Nat → Nat} {M : zm_I} {H : Heap} (hP : va_P D zm_cl (zm_ws cA h wl M) H) : va_P D zm_cl (zm_ws cA (zn_hp p h) wl' (zn_Mp p M)) H := fun _ q hq => hP _ q (zn_perm_at hb hq).2
theorem zn_perm_D {p : List Nat} {wl wl' : zm_L} (hb : zn_permB p wl wl' = true) {A : Nat → Prop} {cA : FieldType → ClassId} {h : Nat → Nat → Nat} {M : zm_I} (hD : va_D A (zm_ws cA h wl M)) : va_D A (zm_ws cA (zn_hp p h) wl' (zn_Mp p M)) := by
  refine ⟨fun i j x y hi hj hxy => ?_, fun k q hk => hD.2 _ q (zn_perm_at hb hk).2⟩
  obtain ⟨hi1, hi2⟩ := zn_perm_at hb hi
  obtain ⟨hj1, hj2⟩ := zn_perm_at hb hj
  have he := hD.1 _ _ x y hi2 hj2 hxy
  simp only [zn_permB, Bool.and_eq_true, decide_eq_true_eq] at hb
  rw [List.getD_eq_getElem?_getD, List.getD_eq_getElem?_getD, List.getElem?_eq_getElem hi1, List.getElem?_eq_getElem hj1] at he
  have he : p[i] = p[j] := he
  have hn := List.pairwise_iff_getElem.mp hb.1.2
  rcases Nat.lt_trichotomy i j with hlt | heq | hlt
  · exact absurd he (hn i j hi1 hj1 hlt)
  · exact heq
  · exact absurd he.symm (hn j i hj1 hi1 hlt)
def zn_wokB (wl : zm_L) : Bool := wl.all (fun d => match d.1 with
  | .inr (.object C, _) => decide (C = RX0 ∨ C = RX2 ∨ C = RX7)
  | _ => true)
theorem zn_wokB_ok {wl : zm_L} (h : zn_wokB wl = true) : zm_wok wl := by
  intro n C len rs hn
  exact of_decide_eq_true (List.all_eq_true.mp h _ (List.mem_of_getElem? hn))
-- what was written, under the other numbers
theorem zn_wr_perm {π n i : Nat} : ∀ (L L' : zn_W) (M M' : zm_I), (L.zip L').all (fun q => (Nat.beq π q.1.1 == Nat.beq n q.2.1) && decide (q.1.2 = q.2.2)) = true → L.length = L'.length → M.1 π i = M'.1 n i → (zn_wr L M).1 π i = (zn_wr L' M').1 n i
  | [], [], M, M', _, _, h => h
  | (a, b, x) :: L, (a', b', x') :: L', M, M', hz, hl, h => by
    simp only [List.zip_cons_cons, List.all_cons, Bool.and_eq_true, decide_eq_true_eq, beq_iff_eq] at hz
    obtain ⟨⟨h1, h2⟩, h3⟩ := hz
    cases h2
    refine zn_wr_perm L L' _ _ h3 (by simpa using hl) ?_
    have he : (π = a) = (n = a') := by
      have := h1
      cases hq : Nat.beq n a' with
      | true => rw [hq] at this; simp [Nat.eq_of_beq_eq_true hq, Nat.eq_of_beq_eq_true this]
      | false => rw [hq] at this; simp [Nat.ne_of_beq_eq_false hq, Nat.ne_of_beq_eq_false this]
    simp only [zm_w, he, h]
  | [], _ :: _, _, _, _, hl, _ => by simp at hl
  | _ :: _, [], _, _, _, hl, _ => by simp at hl
theorem zn_wr_2 : ∀ (L : zn_W) (M : zm_I), (zn_wr L M).2 = M.2
  | [], _ => rfl
  | q :: L, M => zn_wr_2 L _
theorem zL_perm : zn_permB zL_p zL_A zL_C = true := by decide +kernel
theorem zL_wok : zm_wok zL_C := zn_wokB_ok (by decide +kernel)
theorem zL_zip : (List.range 196).all (fun n => (zL_W.zip zL_WC).all (fun q => (Nat.beq (zL_p.getD n 0) q.1.1 == Nat.beq n q.2.1) && decide (q.1.2 = q.2.2))) = true := by decide +kernel
def zL_M : zm_I := zn_Mp zL_p (zn_wr zL_W (fun _ _ => 0, fun _ _ => 0))
theorem zL_M1 {n : Nat} (hn : n < 196) (i : Nat) : zL_M.1 n i = (zn_wr zL_WC (fun _ _ => 0, fun _ _ => 0)).1 n i := zn_wr_perm zL_W zL_WC (fun _ _ => 0, fun _ _ => 0) (fun _ _ => 0, fun _ _ => 0) (List.all_eq_true.mp zL_zip n (List.mem_range.mpr hn)) rfl rfl
theorem zL_M2 (n i : Nat) : zL_M.2 n i = 0 := by
  show (zn_wr zL_W (fun _ _ => 0, fun _ _ => 0)).2 (zL_p.getD n 0) i = 0
  rw [zn_wr_2]
