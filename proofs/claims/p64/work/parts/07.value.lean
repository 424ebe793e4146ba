/-! THE VALUE OF A RUN, without fuel -/
def zm_tK (f : (zm_S → zm_R) → zm_N → zm_R) : Prop := ∀ (k : zm_S → zm_R) (kn : zm_N) (r : Option Value × zm_I), f k kn = some r → (∃ ls st M, kn ls st M = some r ∧ ∀ (k' : zm_S → zm_R) (kn' : zm_N), kn' ls st M = some r → f k' kn' = some r) ∨ (∃ S, k S = some r ∧ ∀ (k' : zm_S → zm_R) (kn' : zm_N), k' S = some r → f k' kn' = some r) ∨ (∀ (k' : zm_S → zm_R) (kn' : zm_N), f k' kn' = some r)
theorem zm_t_ld (ct i : Nat) (ls : List (Option Value)) (st : List Value) (M : zm_I) : zm_tK (fun _ kn => zm_ld kn ct i ls st M) := by
  intro k kn r h
  dsimp only at h ⊢
  unfold zm_ld at h ⊢
  repeat' split at h
  all_goals first
    | (cases h; done)
    | (refine Or.inl ⟨_, _, _, h, fun k' kn' h' => ?_⟩; simp_all)
theorem zm_t_st (ct i : Nat) (ls : List (Option Value)) (st : List Value) (M : zm_I) : zm_tK (fun _ kn => zm_st kn ct i ls st M) := by
  intro k kn r h
  dsimp only at h ⊢
  unfold zm_st at h ⊢
  repeat' split at h
  all_goals first
    | (cases h; done)
    | (refine Or.inl ⟨_, _, _, h, fun k' kn' h' => ?_⟩; simp_all)
theorem zm_t_b2 (f : Int32 → Int32 → Int32) (ls : List (Option Value)) (st : List Value) (M : zm_I) : zm_tK (fun _ kn => zm_b2 kn f ls st M) := by
  intro k kn r h
  dsimp only at h ⊢
  unfold zm_b2 at h ⊢
  repeat' split at h
  all_goals first
    | (cases h; done)
    | (refine Or.inl ⟨_, _, _, h, fun k' kn' h' => ?_⟩; simp_all)
theorem zm_t_b2z (f : Int32 → Int32 → Int32) (ls : List (Option Value)) (st : List Value) (M : zm_I) : zm_tK (fun _ kn => zm_b2z kn f ls st M) := by
  intro k kn r h
  dsimp only at h ⊢
  unfold zm_b2z at h ⊢
  repeat' split at h
  all_goals first
    | (cases h; done)
    | (refine Or.inl ⟨_, _, _, h, fun k' kn' h' => ?_⟩; simp_all)
theorem zm_t_l2 (f : Int64 → Int64 → Int64) (ls : List (Option Value)) (st : List Value) (M : zm_I) : zm_tK (fun _ kn => zm_l2 kn f ls st M) := by
  intro k kn r h
  dsimp only at h ⊢
  unfold zm_l2 at h ⊢
  repeat' split at h
  all_goals first
    | (cases h; done)
    | (refine Or.inl ⟨_, _, _, h, fun k' kn' h' => ?_⟩; simp_all)
theorem zm_t_l2z (f : Int64 → Int64 → Int64) (ls : List (Option Value)) (st : List Value) (M : zm_I) : zm_tK (fun _ kn => zm_l2z kn f ls st M) := by
  intro k kn r h
  dsimp only at h ⊢
  unfold zm_l2z at h ⊢
  repeat' split at h
  all_goals first
    | (cases h; done)
    | (refine Or.inl ⟨_, _, _, h, fun k' kn' h' => ?_⟩; simp_all)
theorem zm_t_ls (f : Int64 → Int32 → Int64) (ls : List (Option Value)) (st : List Value) (M : zm_I) : zm_tK (fun _ kn => zm_ls kn f ls st M) := by
  intro k kn r h
  dsimp only at h ⊢
  unfold zm_ls at h ⊢
  repeat' split at h
  all_goals first
    | (cases h; done)
    | (refine Or.inl ⟨_, _, _, h, fun k' kn' h' => ?_⟩; simp_all)
theorem zm_t_u (f : Int32 → Int32) (ls : List (Option Value)) (st : List Value) (M : zm_I) : zm_tK (fun _ kn => zm_u kn f ls st M) := by
  intro k kn r h
  dsimp only at h ⊢
  unfold zm_u at h ⊢
  repeat' split at h
  all_goals first
    | (cases h; done)
    | (refine Or.inl ⟨_, _, _, h, fun k' kn' h' => ?_⟩; simp_all)
theorem zm_t_m1 (f : Int32 → Int32) (ls : List (Option Value)) (st : List Value) (M : zm_I) : zm_tK (fun _ kn => zm_m1 kn f ls st M) := by
  intro k kn r h
  dsimp only at h ⊢
  unfold zm_m1 at h ⊢
  repeat' split at h
  all_goals first
    | (cases h; done)
    | (refine Or.inl ⟨_, _, _, h, fun k' kn' h' => ?_⟩; simp_all)
theorem zm_t_m2 (f : Int32 → Int32 → Int32) (ls : List (Option Value)) (st : List Value) (M : zm_I) : zm_tK (fun _ kn => zm_m2 kn f ls st M) := by
  intro k kn r h
  dsimp only at h ⊢
  unfold zm_m2 at h ⊢
  repeat' split at h
  all_goals first
    | (cases h; done)
    | (refine Or.inl ⟨_, _, _, h, fun k' kn' h' => ?_⟩; simp_all)
theorem zm_t_gf (wl : zm_L) (a b : Nat) (ls : List (Option Value)) (st : List Value) (M : zm_I) : zm_tK (fun _ kn => zm_gf kn wl a b ls st M) := by
  intro k kn r h
  dsimp only at h ⊢
  unfold zm_gf at h ⊢
  repeat' split at h
  all_goals first
    | (cases h; done)
    | (refine Or.inl ⟨_, _, _, h, fun k' kn' h' => ?_⟩; simp_all)
theorem zm_t_pf (wl : zm_L) (a b : Nat) (ls : List (Option Value)) (st : List Value) (M : zm_I) : zm_tK (fun _ kn => zm_pf kn wl a b ls st M) := by
  intro k kn r h
  dsimp only at h ⊢
  unfold zm_pf at h ⊢
  repeat' split at h
  all_goals first
    | (cases h; done)
    | (refine Or.inl ⟨_, _, _, h, fun k' kn' h' => ?_⟩; simp_all)
theorem zm_t_al (sc : Option (Nat × (Nat → Int32))) (wl : zm_L) (ct : Nat) (ls : List (Option Value)) (st : List Value) (M : zm_I) : zm_tK (fun _ kn => zm_al kn sc wl ct ls st M) := by
  intro k kn r h
  dsimp only at h ⊢
  unfold zm_al at h ⊢
  repeat' split at h
  all_goals first
    | (cases h; done)
    | (refine Or.inl ⟨_, _, _, h, fun k' kn' h' => ?_⟩; simp_all)
theorem zm_t_as (wl : zm_L) (ct : Nat) (ls : List (Option Value)) (st : List Value) (M : zm_I) : zm_tK (fun _ kn => zm_as kn wl ct ls st M) := by
  intro k kn r h
  dsimp only at h ⊢
  unfold zm_as at h ⊢
  repeat' split at h
  all_goals first
    | (cases h; done)
    | (refine Or.inl ⟨_, _, _, h, fun k' kn' h' => ?_⟩; simp_all)
theorem zm_t_aln (sc : Option (Nat × (Nat → Int32))) (wl : zm_L) (ls : List (Option Value)) (st : List Value) (M : zm_I) : zm_tK (fun _ kn => zm_aln kn sc wl ls st M) := by
  intro k kn r h
  dsimp only at h ⊢
  unfold zm_aln at h ⊢
  repeat' split at h
  all_goals first
    | (cases h; done)
    | (refine Or.inl ⟨_, _, _, h, fun k' kn' h' => ?_⟩; simp_all)
theorem zm_t_cst (T : zm_T) (ct idx : Nat) (ls : List (Option Value)) (st : List Value) (M : zm_I) : zm_tK (fun _ kn => zm_cst kn T ct idx ls st M) := by
  intro k kn r h
  dsimp only at h ⊢
  unfold zm_cst at h ⊢
  repeat' split at h
  all_goals first
    | (cases h; done)
    | (refine Or.inl ⟨_, _, _, h, fun k' kn' h' => ?_⟩; simp_all)
theorem zm_t_cl3 (T : zm_T) (wl : zm_L) (ct idx : Nat) (ls : List (Option Value)) (st : List Value) (M : zm_I) : zm_tK (fun _ kn => zm_cl3 kn T wl ct idx ls st M) := by
  intro k kn r h
  dsimp only at h ⊢
  unfold zm_cl3 zm_app at h ⊢
  repeat' split at h
  all_goals first
    | (cases h; done)
    | (refine Or.inl ⟨_, _, _, h, fun k' kn' h' => ?_⟩; simp_all)
theorem zm_t_if1 (c : ClassFile.Cond) (pc : Nat) (off : Int) (ls : List (Option Value)) (st : List Value) (M : zm_I) : zm_tK (fun k kn => zm_if1 k kn c pc off ls st M) := by
  intro k kn r h
  dsimp only at h ⊢
  unfold zm_if1 at h ⊢
  repeat' split at h
  all_goals first
    | (cases h; done)
    | (refine Or.inl ⟨_, _, _, h, fun k' kn' h' => ?_⟩; first | exact h' | (rw [if_pos (by assumption)]; exact h') | (rw [if_neg (by assumption)]; exact h') | (simp_all; done))
    | (refine Or.inr (Or.inl ⟨_, h, fun k' kn' h' => ?_⟩); first | exact h' | (rw [if_pos (by assumption)]; exact h') | (rw [if_neg (by assumption)]; exact h') | (rw [if_neg (by assumption)]; simp_all; done) | (simp_all; done))
theorem zm_t_if2 (c : ClassFile.Cond) (pc : Nat) (off : Int) (ls : List (Option Value)) (st : List Value) (M : zm_I) : zm_tK (fun k kn => zm_if2 k kn c pc off ls st M) := by
  intro k kn r h
  dsimp only at h ⊢
  unfold zm_if2 at h ⊢
  repeat' split at h
  all_goals first
    | (cases h; done)
    | (refine Or.inl ⟨_, _, _, h, fun k' kn' h' => ?_⟩; first | exact h' | (rw [if_pos (by assumption)]; exact h') | (rw [if_neg (by assumption)]; exact h') | (simp_all; done))
    | (refine Or.inr (Or.inl ⟨_, h, fun k' kn' h' => ?_⟩); first | exact h' | (rw [if_pos (by assumption)]; exact h') | (rw [if_neg (by assumption)]; exact h') | (rw [if_neg (by assumption)]; simp_all; done) | (simp_all; done))
theorem zm_t_sw (pc : Nat) (d lo hi : Int) (os : Array Int) (ls : List (Option Value)) (st : List Value) (M : zm_I) : zm_tK (fun k kn => zm_sw k pc d lo hi os ls st M) := by
  intro k kn r h
  dsimp only at h ⊢
  unfold zm_sw at h ⊢
  repeat' split at h
  all_goals first
    | (cases h; done)
    | (refine Or.inl ⟨_, _, _, h, fun k' kn' h' => ?_⟩; first | exact h' | (rw [if_pos (by assumption)]; exact h') | (rw [if_neg (by assumption)]; exact h') | (simp_all; done))
    | (refine Or.inr (Or.inl ⟨_, h, fun k' kn' h' => ?_⟩); first | exact h' | (rw [if_pos (by assumption)]; exact h') | (rw [if_neg (by assumption)]; exact h') | (rw [if_neg (by assumption)]; simp_all; done) | (simp_all; done))
theorem zm_t_stk (i : Instr) (pc : Nat) (ls : List (Option Value)) (st : List Value) (M : zm_I) : zm_tK (fun k kn => zm_stk k kn i pc ls st M) := by
  intro k kn r h
  dsimp only at h ⊢
  unfold zm_stk at h ⊢
  repeat' split at h
  all_goals first
    | (cases h; done)
    | (refine Or.inl ⟨_, _, _, h, fun k' kn' h' => ?_⟩; first | exact h' | (rw [if_pos (by assumption)]; exact h') | (rw [if_neg (by assumption)]; exact h') | (simp_all; done))
    | (refine Or.inr (Or.inl ⟨_, h, fun k' kn' h' => ?_⟩); first | exact h' | (rw [if_pos (by assumption)]; exact h') | (rw [if_neg (by assumption)]; exact h') | (rw [if_neg (by assumption)]; simp_all; done) | (simp_all; done))
theorem zm_t_ins (T : zm_T) (wl : zm_L) (i : Instr) (a b pc : Nat) (ls : List (Option Value)) (st : List Value) (M : zm_I) : zm_tK (fun k kn => zm_ins T wl k kn i a b pc ls st M) := by
  have nx : ∀ (st' : List Value), zm_tK (fun _ kn => kn ls st' M) := fun st' k kn r h => Or.inl ⟨_, _, _, h, fun _ _ h' => h'⟩
  have rt : ∀ ct, zm_tK (fun _ _ => zm_ret T ct st M) := fun ct k kn r h => Or.inr (Or.inr fun _ _ => h)
  cases i
  case invokestatic x =>
    match a with
    | 0 => exact zm_t_cl3 _ _ _ _ ls st M
    | 1 => exact zm_t_m2 _ ls st M
    | 2 => exact zm_t_m2 _ ls st M
    | a + 3 => exact zm_t_m1 _ ls st M
  case goto off => exact fun k kn r h => Or.inr (Or.inl ⟨_, h, fun _ _ h' => h'⟩)
  all_goals dsimp only [zm_ins]
  all_goals first
    | exact zm_t_ld _ _ ls st M
    | exact zm_t_st _ _ ls st M
    | exact nx _
    | exact zm_t_cst _ _ _ ls st M
    | exact zm_t_b2 _ ls st M
    | exact zm_t_b2z _ ls st M
    | exact zm_t_u _ ls st M
    | exact zm_t_l2 _ ls st M
    | exact zm_t_l2z _ ls st M
    | exact zm_t_ls _ ls st M
    | exact zm_t_if1 _ _ _ ls st M
    | exact zm_t_if2 _ _ _ ls st M
    | exact zm_t_sw _ _ _ _ _ ls st M
    | exact zm_t_gf _ _ _ ls st M
    | exact zm_t_pf _ _ _ ls st M
    | exact zm_t_al _ _ _ ls st M
    | exact zm_t_as _ _ ls st M
    | exact zm_t_aln _ _ ls st M
    | exact zm_t_cl3 _ _ _ _ ls st M
    | exact rt _
    | exact zm_t_stk _ _ ls st M
theorem zm_t_seq (T : zm_T) (wl : zm_L) : ∀ (b : List (Instr × Nat × Nat)) (pc : Nat) (ls : List (Option Value)) (st : List Value) (M : zm_I) (k : zm_S → zm_R) (r : Option Value × zm_I), zm_seq T wl k b pc ls st M = some r → (∃ S, k S = some r ∧ ∀ k' : zm_S → zm_R, k' S = some r → zm_seq T wl k' b pc ls st M = some r) ∨ (∀ k' : zm_S → zm_R, zm_seq T wl k' b pc ls st M = some r)
  | [], pc, ls, st, M, k, r, h => Or.inl ⟨_, h, fun _ h' => h'⟩
  | (i, a, b) :: c, pc, ls, st, M, k, r, h => by
    rcases zm_t_ins T wl i a b pc ls st M k _ r h with ⟨ls', st', M', h1, h2⟩ | ⟨S, h1, h2⟩ | h1
    · rcases zm_t_seq T wl c _ ls' st' M' k r h1 with ⟨S, g1, g2⟩ | g1
      · exact Or.inl ⟨S, g1, fun k' h' => h2 k' _ (g2 k' h')⟩
      · exact Or.inr fun k' => h2 k' _ (g1 k')
    · exact Or.inl ⟨S, h1, fun k' h' => h2 k' _ h'⟩
    · exact Or.inr fun k' => h1 k' _
theorem zm_t_step (T : zm_T) (wl : zm_L) (S : zm_S) (k : zm_S → zm_R) (r : Option Value × zm_I) (h : zm_step T wl k S = some r) : (∃ S', k S' = some r ∧ ∀ k' : zm_S → zm_R, k' S' = some r → zm_step T wl k' S = some r) ∨ (∀ k' : zm_S → zm_R, zm_step T wl k' S = some r) := by
  unfold zm_step at h ⊢
  split at h
  · exact zm_t_seq T wl _ _ _ _ _ k r h
  · cases h
theorem zm_mono (T : zm_T) (wl : zm_L) : ∀ (n d : Nat) (S : zm_S) (r : Option Value × zm_I), zm_run T wl n S = some r → zm_run T wl (n + d) S = some r
  | 0, d, S, r, h => by cases h
  | n + 1, d, S, r, h => by
    rw [Nat.add_right_comm]
    rcases zm_t_step T wl S _ r h with ⟨S', h1, h2⟩ | h1
    · exact h2 _ (zm_mono T wl n d S' r h1)
    · exact h1 _
noncomputable def zm_V (T : zm_T) (wl : zm_L) (S : zm_S) : zm_R := @dite zm_R (∃ n, zm_run T wl n S ≠ none) (Classical.propDecidable _) (fun h => zm_run T wl (Classical.choose h) S) (fun _ => none)
theorem zm_V_of {T : zm_T} {wl : zm_L} {n : Nat} {S : zm_S} {r : Option Value × zm_I} (h : zm_run T wl n S = some r) : zm_V T wl S = some r := by
  have hex : ∃ n, zm_run T wl n S ≠ none := ⟨n, by rw [h]; simp⟩
  unfold zm_V
  rw [dif_pos hex]
  have hs := Classical.choose_spec hex
  generalize Classical.choose hex = j at hs ⊢
  cases hj : zm_run T wl j S with
  | none => exact absurd hj hs
  | some r' =>
    have h1 := zm_mono T wl n j S r h
    have h2 := zm_mono T wl j n S r' hj
    rw [Nat.add_comm, h1] at h2
    exact h2.symm
theorem zm_V_run {T : zm_T} {wl : zm_L} {S : zm_S} {r : Option Value × zm_I} (h : zm_V T wl S = some r) : ∃ n, zm_run T wl n S = some r := by
  unfold zm_V at h
  split at h
  · next hex => exact ⟨_, h⟩
  · cases h
theorem zm_V_eq (T : zm_T) (wl : zm_L) (S : zm_S) : zm_V T wl S = zm_step T wl (zm_V T wl) S := by
  cases hs : zm_step T wl (zm_V T wl) S with
  | some r =>
    rcases zm_t_step T wl S _ r hs with ⟨S', h1, h2⟩ | h1
    · obtain ⟨n, hn⟩ := zm_V_run h1
      exact zm_V_of (n := n + 1) (h2 _ hn)
    · exact zm_V_of (n := 1) (h1 _)
  | none =>
    cases hv : zm_V T wl S with
    | none => rfl
    | some r =>
      obtain ⟨n, hn⟩ := zm_V_run hv
      cases n with
      | zero => cases hn
      | succ n =>
        rcases zm_t_step T wl S _ r hn with ⟨S', h1, h2⟩ | h1
        · rw [h2 _ (zm_V_of h1)] at hs; cases hs
        · rw [h1] at hs; cases hs
