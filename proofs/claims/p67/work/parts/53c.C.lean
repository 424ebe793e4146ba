/-! THE TAKES, WITHOUT MACHINES, and the class's -/
abbrev zpA := Nat × Nat × Nat × Int32 × Int32
def zp_adv (T : Nat → Int) (n : Nat) (A : zpA) : zpA := (zp_ki T n (zp_st T n A.2.2.1), zp_st T n A.2.2.1, zp_en T n (zp_st T n A.2.2.1), A.2.2.2.1, A.2.2.2.2)
def zp_ref (x : Int32) (A : zpA) : zpA := if A.2.2.2.1 = 0 then (A.1, A.2.1, A.2.2.1, x, Int32.ofNat A.2.1) else A
noncomputable def zp_tw (T : Nat → Int) (n w : Nat) (A : zpA) : zpA := if A.2.2.2.1 = 0 then @ite _ (zp_is T A.1 A.2.1 A.2.2.1 w) (Classical.propDecidable _) (zp_adv T n A) (zp_ref 1 A) else A
def zp_nu (T : Nat → Int) (n : Nat) (lo hi : Int) (A : zpA) : zpA × Int := if A.2.2.2.1 = 0 then (if A.1 = 2 then (if lo ≤ zp_nx T A.2.1 (A.2.2.1 - A.2.1) ∧ zp_nx T A.2.1 (A.2.2.1 - A.2.1) ≤ hi then (zp_adv T n A, zp_nx T A.2.1 (A.2.2.1 - A.2.1)) else (zp_ref 2 A, 0)) else (zp_ref 1 A, 0)) else (A, 0)
noncomputable def zp_ta (T : Nat → Int) (n w : Nat) (lo hi : Int) (A : zpA) : zpA × Int := zp_nu T n lo hi (zp_tw T n w A)
def zp_ts (T : Nat → Int) (n : Nat) (A : zpA) : zpA := if A.2.2.2.1 = 0 then (if A.1 = 3 then zp_adv T n A else zp_ref 1 A) else A
def zpW (T : Nat → Int) (n : Nat) (A : zpA) : Prop := A.2.1 ≤ n ∧ A.1 = zp_ki T n A.2.1 ∧ A.2.2.1 = zp_en T n A.2.1 ∧ (A.2.2.2.1 = 0 → A.2.2.2.2 = -1)
section ZPC
variable {T : Nat → Int} {n : Nat} {A : zpA}
theorem zp_W_b (h : zpW T n A) : A.2.1 ≤ A.2.2.1 ∧ A.2.2.1 ≤ n ∧ A.1 ≤ 4 ∧ (A.1 ≠ 0 → A.2.1 < A.2.2.1 ∧ A.2.1 < n) := by
  have b := zp_en_b (T := T) h.1
  rw [h.2.2.1]
  refine ⟨b.1, b.2.1, ?_, ?_⟩
  · rw [h.2.1]
    unfold zp_ki
    split
    · exact (zp_kd_b _).2
    · exact Nat.zero_le _
  · intro hk
    rw [h.2.1] at hk
    unfold zp_ki at hk
    by_cases c : A.2.1 < n
    · exact ⟨b.2.2 c, c⟩
    · rw [if_neg c] at hk
      exact absurd rfl hk
theorem zp_W_k (h : zpW T n A) (hk : A.1 = 1 ∨ A.1 = 2) : ∀ j, A.2.1 ≤ j → j < A.2.2.1 → zp_kd (T j) = A.1 := by
  intro j h1 h2
  rw [h.2.2.1] at h2
  exact zp_en_k h.2.1.symm hk j h1 h2
theorem zp_kd1 {b : Int} (h : zp_kd b = 1) : 97 ≤ b ∧ b ≤ 122 := by
  unfold zp_kd at h
  by_cases c : 97 ≤ b ∧ b ≤ 122
  · exact c
  · rw [if_neg c] at h
    split at h
    · omega
    · split at h <;> omega
theorem zp_kd2 {b : Int} (h : zp_kd b = 2) : 48 ≤ b ∧ b ≤ 57 := by
  unfold zp_kd at h
  by_cases c : 97 ≤ b ∧ b ≤ 122
  · rw [if_pos c] at h
    omega
  · rw [if_neg c] at h
    by_cases d : 48 ≤ b ∧ b ≤ 57
    · exact d
    · rw [if_neg d] at h
      split at h <;> omega
theorem zp_W_adv (h : A.2.2.1 ≤ n) (hp : A.2.2.2.1 = 0 → A.2.2.2.2 = -1) : zpW T n (zp_adv T n A) := ⟨(zp_st_b h).2, rfl, rfl, hp⟩
theorem zp_W_ref (x : Int32) (hx : x ≠ 0) (h : zpW T n A) : zpW T n (zp_ref x A) := by
  unfold zp_ref
  split
  · exact ⟨h.1, h.2.1, h.2.2.1, fun z => absurd z hx⟩
  · exact h
theorem zp_W_tw (w : Nat) (h : zpW T n A) : zpW T n (zp_tw T n w A) := by
  unfold zp_tw
  split
  · split
    · exact zp_W_adv (zp_W_b h).2.1 h.2.2.2
    · exact zp_W_ref 1 (by decide) h
  · exact h
theorem zp_W_nu (lo hi : Int) (h : zpW T n A) : zpW T n (zp_nu T n lo hi A).1 := by
  unfold zp_nu
  split
  · split
    · split
      · exact zp_W_adv (zp_W_b h).2.1 h.2.2.2
      · exact zp_W_ref 2 (by decide) h
    · exact zp_W_ref 1 (by decide) h
  · exact h
theorem zp_W_ta (w : Nat) (lo hi : Int) (h : zpW T n A) : zpW T n (zp_ta T n w lo hi A).1 := zp_W_nu lo hi (zp_W_tw w h)
theorem zp_W_ts (h : zpW T n A) : zpW T n (zp_ts T n A) := by
  unfold zp_ts
  split
  · split
    · exact zp_W_adv (zp_W_b h).2.1 h.2.2.2
    · exact zp_W_ref 1 (by decide) h
  · exact h
/-- a fault stays -/
theorem zp_f_ref {x : Int32} (hx : x ≠ 0) : ¬ (zp_ref x A).2.2.2.1 = 0 := by
  unfold zp_ref
  by_cases c : A.2.2.2.1 = 0
  · rw [if_pos c]
    exact hx
  · rw [if_neg c]
    exact c
theorem zp_f_tw {w : Nat} (h : (zp_tw T n w A).2.2.2.1 = 0) : A.2.2.2.1 = 0 := by
  by_cases c : A.2.2.2.1 = 0
  · exact c
  · unfold zp_tw at h
    rw [if_neg c] at h
    exact h
theorem zp_f_nu {lo hi : Int} (h : (zp_nu T n lo hi A).1.2.2.2.1 = 0) : A.2.2.2.1 = 0 := by
  by_cases c : A.2.2.2.1 = 0
  · exact c
  · unfold zp_nu at h
    rw [if_neg c] at h
    exact h
theorem zp_f_ta {w : Nat} {lo hi : Int} (h : (zp_ta T n w lo hi A).1.2.2.2.1 = 0) : A.2.2.2.1 = 0 := zp_f_tw (zp_f_nu h)
theorem zp_r_ta {w : Nat} {lo hi : Int} (h : (zp_ta T n w lo hi A).1.2.2.2.1 = 0) : lo ≤ (zp_ta T n w lo hi A).2 ∧ (zp_ta T n w lo hi A).2 ≤ hi := by
  unfold zp_ta at h ⊢
  generalize zp_tw T n w A = B at h ⊢
  unfold zp_nu at h ⊢
  by_cases c : B.2.2.2.1 = 0
  · rw [if_pos c] at h ⊢
    by_cases c2 : B.1 = 2
    · rw [if_pos c2] at h ⊢
      by_cases c3 : lo ≤ zp_nx T B.2.1 (B.2.2.1 - B.2.1) ∧ zp_nx T B.2.1 (B.2.2.1 - B.2.1) ≤ hi
      · rw [if_pos c3]
        exact c3
      · rw [if_neg c3] at h
        exact absurd h (zp_f_ref (by decide))
    · rw [if_neg c2] at h
      exact absurd h (zp_f_ref (by decide))
  · rw [if_neg c] at h
    exact absurd h c
theorem zp_n_ta {w : Nat} {lo hi : Int} (h : ¬ A.2.2.2.1 = 0) : zp_ta T n w lo hi A = (A, 0) := by
  unfold zp_ta zp_tw
  rw [if_neg h]
  unfold zp_nu
  rw [if_neg h]
theorem zp_n_ts (h : ¬ A.2.2.2.1 = 0) : zp_ts T n A = A := if_neg h
/-- places never go back -/
theorem zp_s_adv (h : zpW T n A) : A.2.2.1 ≤ (zp_adv T n A).2.1 := (zp_st_b (zp_W_b h).2.1).1
theorem zp_s_ref (x : Int32) : (zp_ref x A).2.1 = A.2.1 := by
  unfold zp_ref
  split <;> rfl
theorem zp_s_tw (w : Nat) (h : zpW T n A) : A.2.1 ≤ (zp_tw T n w A).2.1 := by
  have b := zp_W_b h
  have a := zp_s_adv h
  unfold zp_tw
  split
  · split
    · omega
    · rw [zp_s_ref]
      exact Nat.le_refl _
  · exact Nat.le_refl _
theorem zp_s_nu (lo hi : Int) (h : zpW T n A) : A.2.1 ≤ (zp_nu T n lo hi A).1.2.1 := by
  have b := zp_W_b h
  have a := zp_s_adv h
  unfold zp_nu
  split
  · split
    · split
      · exact Nat.le_trans b.1 a
      · exact Nat.le_of_eq (zp_s_ref 2).symm
    · exact Nat.le_of_eq (zp_s_ref 1).symm
  · exact Nat.le_refl _
theorem zp_s_ta (w : Nat) (lo hi : Int) (h : zpW T n A) : A.2.1 ≤ (zp_ta T n w lo hi A).1.2.1 := Nat.le_trans (zp_s_tw w h) (zp_s_nu lo hi (zp_W_tw w h))
theorem zp_nx_hi (h : zpW T n A) (hk : A.1 = 2) : 0 ≤ zp_nx T A.2.1 (A.2.2.1 - A.2.1) ∧ zp_nx T A.2.1 (A.2.2.1 - A.2.1) ≤ 1000 ∧ 0 ≤ zp_nm T A.2.1 (A.2.2.1 - A.2.1) ∧ zp_nm T A.2.1 (A.2.2.1 - A.2.1) ≤ 1000009 ∧ (zp_nx T A.2.1 (A.2.2.1 - A.2.1) = zp_nm T A.2.1 (A.2.2.1 - A.2.1) ∨ (zp_nx T A.2.1 (A.2.2.1 - A.2.1) = 1000 ∧ 1000 ≤ zp_nm T A.2.1 (A.2.2.1 - A.2.1))) := zp_nx_m _ (fun j hj => zp_kd2 ((zp_W_k h (Or.inr hk) _ (by omega) (by omega)).trans hk))
def zpXA (T : Nat → Int) (n : Nat) (A : zpA) (I : Nat → Nat → Int32) : Prop := zpX T n A.1 A.2.1 A.2.2.1 A.2.2.2.1 A.2.2.2.2 I
def zp_fr (I N : Nat → Nat → Int32) : Prop := ∀ a b, a ≠ 0 → N a b = I a b
theorem zp_frr (I : Nat → Nat → Int32) : zp_fr I I := fun _ _ _ => rfl
theorem zp_frt {I K N : Nat → Nat → Int32} (h : zp_fr I K) (h2 : zp_fr K N) : zp_fr I N := fun a b ha => (h2 a b ha).trans (h a b ha)
variable {I : Nat → Nat → Int32} {J : Nat → Nat → Int64}
theorem zp_advXA (hn : n ≤ 800) (he : A.2.2.1 ≤ n) (h : zpXA T n A I) : ∃ N, zF_X8_advance zW_TB [.ref 0] (I, J) = some (none, (N, J)) ∧ zpXA T n (zp_adv T n A) N ∧ zp_fr I N := zp_advX h hn he
theorem zp_refX (x : Int32) (h : zpXA T n A I) : ∃ N, zF_X8_refuse zW_TB [.ref 0, .int x] (I, J) = some (none, (N, J)) ∧ zpXA T n (zp_ref x A) N ∧ zp_fr I N := by
  have hh := h
  obtain ⟨h1, hT, h4, h5, h6, h2, h3⟩ := h
  rw [zf_X8_refuse_TB, zq_X8_refuse_TB_0, h2]
  unfold zp_ref
  by_cases c : A.2.2.2.1 = 0
  · rw [if_pos c, if_pos c, zq_X8_refuse_TB_7, zq_X8_refuse_TB_20]
    refine ⟨_, rfl, ⟨by rw [ze_wj (by decide), ze_wj (by decide), h1], fun i hi => by rw [ze_wo (by decide), ze_wo (by decide), hT i hi], by rw [ze_wj (by decide), ze_wj (by decide), h4], by rw [ze_wj (by decide), ze_wj (by decide), h5], by rw [ze_wj (by decide), ze_wj (by decide), h6], by rw [ze_wj (by decide), ze_wi], by rw [ze_wi, ze_wj (by decide), h5]⟩, fun a b ha => by rw [ze_wo ha, ze_wo ha]⟩
  · rw [if_neg c, if_neg c, zq_X8_refuse_TB_20]
    exact ⟨I, rfl, hh, zp_frr I⟩
theorem zp_twX (w : Nat) (hw : w < 13) (hn : n ≤ 800) (hW : zpW T n A) (h : zpXA T n A I) : ∃ N, zF_X8_takeWord zW_TB [.ref 0, .retAddr w] (I, J) = some (none, (N, J)) ∧ zpXA T n (zp_tw T n w A) N ∧ zp_fr I N := by
  have b := zp_W_b hW
  have h2 := h.2.2.2.2.2.1
  rw [zf_X8_takeWord_TB, zq_X8_takeWord_TB_0, h2]
  unfold zp_tw
  by_cases c : A.2.2.2.1 = 0
  · obtain ⟨x, q1, q2⟩ := zp_isX (J := J) w hw h hn b.2.1 b.1 b.2.2.1
    rw [if_pos c, if_pos c, zc_X8_takeWord_TB_8 _ _ _ q1, zq_X8_takeWord_TB_13]
    rcases q2 with ⟨rfl, q3⟩ | ⟨rfl, q3⟩
    · obtain ⟨N, r1, r2, r3⟩ := zp_advXA (J := J) hn b.2.1 h
      rw [if_neg (by decide), zc_X8_takeWord_TB_16 _ _ _ r1, zq_X8_takeWord_TB_20, zq_X8_takeWord_TB_28, if_pos q3]
      exact ⟨N, rfl, r2, r3⟩
    · obtain ⟨N, r1, r2, r3⟩ := zp_refX (J := J) 1 h
      rw [if_pos rfl, zc_X8_takeWord_TB_23 _ _ _ r1, zq_X8_takeWord_TB_28, if_neg q3]
      exact ⟨N, rfl, r2, r3⟩
  · rw [if_neg c, if_neg c, zq_X8_takeWord_TB_7]
    exact ⟨I, rfl, h, zp_frr I⟩
theorem zp_tsX (hn : n ≤ 800) (hW : zpW T n A) (h : zpXA T n A I) : ∃ N, zF_X8_takeSign zW_TB [.ref 0] (I, J) = some (none, (N, J)) ∧ zpXA T n (zp_ts T n A) N ∧ zp_fr I N := by
  have b := zp_W_b hW
  have h2 := h.2.2.2.2.2.1
  have h4 := h.2.2.1
  rw [zf_X8_takeSign_TB, zq_X8_takeSign_TB_0, h2]
  unfold zp_ts
  by_cases c : A.2.2.2.1 = 0
  · rw [if_pos c, if_pos c, zq_X8_takeSign_TB_8, h4]
    by_cases d : A.1 = 3
    · obtain ⟨N, r1, r2, r3⟩ := zp_advXA (J := J) hn b.2.1 h
      rw [if_pos (by rw [d]; rfl), zc_X8_takeSign_TB_16 _ _ r1, zq_X8_takeSign_TB_20, zq_X8_takeSign_TB_28, if_pos d]
      exact ⟨N, rfl, r2, r3⟩
    · obtain ⟨N, r1, r2, r3⟩ := zp_refX (J := J) 1 h
      rw [if_neg (show ¬ (Int32.ofNat A.1 : Int32) = 3 from zp_ne (j := 3) (by omega) (by omega) d), zc_X8_takeSign_TB_23 _ _ r1, zq_X8_takeSign_TB_28, if_neg d]
      exact ⟨N, rfl, r2, r3⟩
  · rw [if_neg c, if_neg c, zq_X8_takeSign_TB_7]
    exact ⟨I, rfl, h, zp_frr I⟩
theorem zp_taX (w : Nat) (hw : w < 13) (hn : n ≤ 800) (hW : zpW T n A) (h : zpXA T n A I) (lo hi : Int32) : ∃ (r : Int32) (N : Nat → Nat → Int32), zF_X8_takeAfter zW_TB [.ref 0, .retAddr w, .int lo, .int hi] (I, J) = some (some (.int r), (N, J)) ∧ r.toInt = (zp_ta T n w lo.toInt hi.toInt A).2 ∧ zpXA T n (zp_ta T n w lo.toInt hi.toInt A).1 N ∧ zp_fr I N := by
  obtain ⟨K, q1, q2, q3⟩ := zp_twX (J := J) w hw hn hW h
  have hW := zp_W_tw w hW
  rw [zf_X8_takeAfter_TB, zc_X8_takeAfter_TB_0 _ _ _ _ _ q1]
  unfold zp_ta
  generalize zp_tw T n w A = B at q2 hW
  have b := zp_W_b hW
  have h2 := q2.2.2.2.2.2.1
  have h4 := q2.2.2.1
  have h5 := q2.2.2.2.1
  rw [zq_X8_takeAfter_TB_5, h2]
  unfold zp_nu
  by_cases c : B.2.2.2.1 = 0
  · rw [if_pos c, if_pos c, zq_X8_takeAfter_TB_14, h4]
    by_cases d : B.1 = 2
    · have hx := zp_nx_hi hW d
      have e7 : zF_X8_valueHere zW_TB [.ref 0] (K, J) = zv_X8_valueHere_TB_7 K J 0 (Int32.ofNat (B.2.1 + 0)) := by rw [zf_X8_valueHere_TB, zq_X8_valueHere_TB_0, h5, Nat.add_zero]
      obtain ⟨r, r1, r2⟩ := zp_vaX (J := J) q2 hn b.2.1 (fun j j1 j2 => zp_kd2 ((zp_W_k hW (Or.inr d) j j1 j2).trans d)) (B.2.2.1 - B.2.1) 0 0 (by omega) (by rw [zp_nx_0]; rfl)
      rw [if_pos (by rw [d]; rfl), zc_X8_takeAfter_TB_29 _ _ _ _ _ (e7.trans r1), if_pos d, zq_X8_takeAfter_TB_33]
      by_cases lo1 : r < lo
      · obtain ⟨N, s1, s2, s3⟩ := zp_refX (J := J) 2 q2
        rw [if_pos lo1, zc_X8_takeAfter_TB_47 _ _ _ _ _ _ s1, zq_X8_takeAfter_TB_52]
        rw [ze_lt, r2] at lo1
        rw [if_neg (by omega)]
        exact ⟨0, N, rfl, rfl, s2, zp_frt q3 s3⟩
      · rw [if_neg lo1, zq_X8_takeAfter_TB_41]
        rw [ze_lt, r2] at lo1
        by_cases hi1 : r ≤ hi
        · obtain ⟨N, s1, s2, s3⟩ := zp_advXA (J := J) hn b.2.1 q2
          rw [if_pos hi1, zc_X8_takeAfter_TB_54 _ _ _ _ _ _ s1, zq_X8_takeAfter_TB_58]
          rw [ze_le, r2] at hi1
          rw [if_pos (by omega)]
          exact ⟨r, N, rfl, r2, s2, zp_frt q3 s3⟩
        · obtain ⟨N, s1, s2, s3⟩ := zp_refX (J := J) 2 q2
          rw [if_neg hi1, zc_X8_takeAfter_TB_47 _ _ _ _ _ _ s1, zq_X8_takeAfter_TB_52]
          rw [ze_le, r2] at hi1
          rw [if_neg (by omega)]
          exact ⟨0, N, rfl, rfl, s2, zp_frt q3 s3⟩
    · obtain ⟨N, s1, s2, s3⟩ := zp_refX (J := J) 1 q2
      rw [if_neg (show ¬ (Int32.ofNat B.1 : Int32) = 2 from zp_ne (j := 2) (by omega) (by omega) d), zc_X8_takeAfter_TB_22 _ _ _ _ _ s1, zq_X8_takeAfter_TB_27, if_neg d]
      exact ⟨0, N, rfl, rfl, s2, zp_frt q3 s3⟩
  · rw [if_neg c, if_neg c, zq_X8_takeAfter_TB_12]
    exact ⟨0, K, rfl, rfl, q2, q3⟩
end ZPC
