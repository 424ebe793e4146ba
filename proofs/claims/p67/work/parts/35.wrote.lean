/-! WHAT IS WRITTEN BY A RUN THAT MAKES CELLS, as a list -/
abbrev zn_W : Type := List (Nat × Nat × Int32)
def zn_wr (L : zn_W) (M : zm_I) : zm_I := L.foldl (fun M q => (zm_w M.1 q.1 q.2.1 q.2.2, M.2)) M
theorem zn_wr_app (L L' : zn_W) (M : zm_I) : zn_wr (L ++ L') M = zn_wr L' (zn_wr L M) := by simp [zn_wr, List.foldl_append]
abbrev zn_H : Type := List (Nat × (zm_L → List Value → zm_I → zn_W))
def zn_nw (i : Instr) (b : Nat) (st : List Value) : zn_W := match i with
  | .putfield _ => match st with
    | .int x :: .ref n :: _ => [(n, b, x)]
    | _ => []
  | .iastore => match st with
    | .int x :: .int i :: .ref n :: _ => [(n, i.toNatClampNeg, x)]
    | _ => []
  | _ => []
def zn_stw (G : zn_H) (T : zn_T) (S : zn_S) : zn_W := match zm_look T.1 S.1.1 with
  | none => []
  | some (i, a, b) => match i with
    | .invokespecial idx => match a with
      | 0 => []
      | _ => match S.1.2.2.1 with
        | .ref n :: _ => match zm_look G idx with
          | some f => f S.2.1 [.ref n] S.1.2.2.2
          | none => []
        | _ => []
    | i => zn_nw i b S.1.2.2.1
def zn_gow (G : zn_H) (T : zn_T) (stop : Nat) : Nat → zn_S → zn_W
  | 0, _ => []
  | n + 1, S => match Nat.beq S.1.1 stop with
    | true => []
    | false => match zn_step T S with
      | some S1 => zn_stw G T S ++ zn_gow G T stop n S1
      | none => []
def zn_runw (G : zn_H) (T : zn_T) (nL stop fuel : Nat) : zm_L → List Value → zm_I → zn_W := fun wl av M => zn_gow G T stop fuel ((0, zm_pad nL (zm_sl av), [], M), wl, 0, 0)
def zn_is (F : zn_F) (f : zm_L → List Value → zm_I → zn_W) : Prop := ∀ wl av M q, F wl av M = some q → q.2 = zn_wr (f wl av M) M
/-- each constructor that is called has its list -/
def zn_Gok (G : zn_H) (T : zn_T) : Prop := ∀ (idx : Nat) (C : zn_C), zm_look T.2.1 idx = some C → ∃ f, zm_look G idx = some f ∧ zn_is C.1 f
theorem zn_next_w {wl : zm_L} {i : Instr} {a b pc : Nat} {ls : List (Option Value)} {st : List Value} {M : zm_I} {S1 : zm_S} (h : zn_next wl i a b pc ls st M = some S1) : S1.2.2.2 = zn_wr (zn_nw i b st) M := by
  cases i
  all_goals first
    | (simp [zn_next] at h; done)
    | (simp only [zn_next] at h; repeat' split at h) <;> first
      | (cases h; done)
      | (cases h; rfl)
theorem zn_step_w {G : zn_H} {T : zn_T} (hG : zn_Gok G T) {S S1 : zn_S} (hh : zn_step T S = some S1) : S1.1.2.2.2 = zn_wr (zn_stw G T S) S.1.2.2.2 := by
  unfold zn_step at hh
  unfold zn_stw
  split at hh
  · cases hh
  · next i a b hlk =>
    rw [hlk]
    have ord : ∀ {S1 : zn_S}, (match zn_next S.2.1 i a b S.1.1 S.1.2.1 S.1.2.2.1 S.1.2.2.2 with
      | some q => some (q, S.2)
      | none => none) = some S1 → ∃ q, zn_next S.2.1 i a b S.1.1 S.1.2.1 S.1.2.2.1 S.1.2.2.2 = some q ∧ S1.1 = q := by
      intro S1 hh
      split at hh
      · next q hq => cases hh; exact ⟨q, hq, rfl⟩
      · cases hh
    cases i
    case new idx =>
      simp only at hh
      split at hh
      · cases hh; rfl
      · cases hh
    case newarray t =>
      simp only at hh
      repeat' split at hh
      all_goals first | (cases hh; done) | (cases hh; rfl)
    case anewarray idx =>
      simp only at hh
      repeat' split at hh
      all_goals first | (cases hh; done) | (cases hh; rfl)
    case aastore =>
      simp only at hh
      split at hh
      · next q hq =>
        cases hh
        unfold zn_as at hq
        repeat' split at hq
        all_goals first | (cases hq; done) | (cases hq; rfl)
      · cases hh
    case invokespecial idx =>
      match a, hh with
      | 0, hh =>
        simp only at hh
        repeat' split at hh
        all_goals first | (cases hh; done) | (cases hh; rfl)
      | a + 1, hh =>
        simp only at hh ⊢
        unfold zn_ct at hh
        split at hh
        · next n r hst =>
          rw [hst]
          split at hh
          · next C hC =>
            obtain ⟨f, hf, hi⟩ := hG idx C hC
            split at hh
            · split at hh
              · next q hq =>
                split at hh
                · cases hh
                  simp only [hf]
                  exact hi _ _ _ _ hq
                · cases hh
              · cases hh
            · cases hh
          · cases hh
        · cases hh
    case putfield idx =>
      simp only at hh
      split at hh
      · next q hq =>
        cases hh
        unfold zn_pr at hq
        split at hq
        · next v n r hst =>
          simp only [hst, zn_nw]
          repeat' split at hq
          all_goals first | (cases hq; done) | (cases hq; rfl)
        · cases hq
      · obtain ⟨q, hq, he⟩ := ord hh
        rw [he]
        exact zn_next_w hq
    case iastore =>
      obtain ⟨q, hq, he⟩ := ord hh
      rw [he]
      exact zn_next_w hq
    all_goals
      obtain ⟨q, hq, he⟩ := ord hh
      rw [he]
      exact zn_next_w hq
theorem zn_go_w {G : zn_H} {T : zn_T} (hG : zn_Gok G T) {stop : Nat} : ∀ (n : Nat) (S S1 : zn_S), zn_go T stop n S = some S1 → S1.1.2.2.2 = zn_wr (zn_gow G T stop n S) S.1.2.2.2
  | 0, S, S1, hh => by cases hh
  | n + 1, S, S1, hh => by
    unfold zn_go at hh
    unfold zn_gow
    split at hh
    · next hb => cases hh; rw [hb]; rfl
    · next hb =>
      rw [hb]
      split at hh
      · next S2 hS2 =>
        simp only [hS2]
        rw [zn_wr_app, ← zn_step_w hG hS2]
        exact zn_go_w hG n S2 S1 hh
      · cases hh
theorem zn_run_w {G : zn_H} {T : zn_T} (hG : zn_Gok G T) {nL stop fuel : Nat} : zn_is (zn_run T nL stop fuel) (zn_runw G T nL stop fuel) := by
  intro wl av M q hq
  unfold zn_run at hq
  split at hq
  · cases hq
  · split at hq
    · next S hS =>
      split at hq
      · split at hq
        · cases hq
          exact zn_go_w hG _ _ _ hS
        · cases hq
      · cases hq
    · cases hq
theorem zn_Gok_nil {G : zn_H} {T : zn_T} (h : T.2.1 = []) : zn_Gok G T := fun idx C hC => by rw [h] at hC; cases hC
def zn_allG : List (Nat × zn_C) → zn_H → Prop
  | [], _ => True
  | (k, C) :: r, (k', f) :: r' => k = k' ∧ zn_is C.1 f ∧ zn_allG r r'
  | _ :: _, [] => False
theorem zn_allG_ok : ∀ {L : List (Nat × zn_C)} {G : zn_H}, zn_allG L G → ∀ (idx : Nat) (C : zn_C), zm_look L idx = some C → ∃ f, zm_look G idx = some f ∧ zn_is C.1 f
  | [], _, _, idx, C, h => by cases h
  | (k, C0) :: r, (k', f) :: r', hp, idx, C, h => by
    obtain ⟨rfl, h1, h2⟩ := hp
    unfold zm_look at h ⊢
    split at h
    · cases h; exact ⟨f, rfl, h1⟩
    · exact zn_allG_ok h2 idx C h
  | _ :: _, [], hp, _, _, _ => hp.elim
