/-! THE DAY'S ANSWERS: next -/
section ZZ7
variable {X I : Nat → Nat → Int32} {Q J : Nat → Nat → Int64}
theorem zZ_neL {N : zm_I} {N' : Nat → Nat → Int32} {K' : Nat → Nat → Int64} {C m : Nat} (hC : C ≤ 5) (hm : m < 61) (e1 : N.1 1 6 = Int32.ofNat C) (e2 : N' 7 5 = Int32.ofNat C) (ew : ∀ c, c < C → (N.1 30 (5 * m + c) = -1 ↔ N' 16 (61 * c + m) = -1)) (ec : ∀ c, c < C → N.1 4 c = N' 14 c) : ∀ d k (l : Int32), k + d = C → (l = -1 ∨ ∃ b : Nat, b < k ∧ l = Int32.ofNat b) → ∃ r, zv_X9_next_X_27 N.1 N.2 (Int32.ofNat m) l (Int32.ofNat k) = some (some (.int r), N) ∧ zv_X10_next__M_24 N' K' (Int32.ofNat m) l (Int32.ofNat k) = some (some (.int r), (N', K'))
  | 0, k, l, h, _ => ⟨l, by rw [zq_X9_next_X_27, e1, if_pos ((zp_le (by omega) (by omega)).mpr (by omega)), zq_X9_next_X_85], by rw [zc_X10_next__M_24 _ _ _ _ _ zdm_callers, zq_X10_next__M_29, e2, if_pos ((zp_le (by omega) (by omega)).mpr (by omega)), zq_X10_next__M_75]⟩
  | d + 1, k, l, h, hl => by
    have n1 : ¬ (Int32.ofNat C : Int32) ≤ Int32.ofNat k := fun z => by
      have := (zp_le (by omega) (by omega)).mp z
      omega
    have w2 := ew k (by omega)
    have f0 : zv_X9_next_X_27 N.1 N.2 (Int32.ofNat m) l (Int32.ofNat k) = if (if N.1 30 (5 * m + k) = -1 then (0 : Int32) else 1) = 0 then zv_X9_next_X_79 N.1 N.2 (Int32.ofNat m) l (Int32.ofNat k) else zv_X9_next_X_49 N.1 N.2 (Int32.ofNat m) l (Int32.ofNat k) := by
      rw [zq_X9_next_X_27, e1, if_neg n1, zc_X9_next_X_39 _ _ _ _ _ (zZ_th (M := (N.1, N.2)) hm (by omega)), zZ_id, zq_X9_next_X_46]
    have g0 : zv_X10_next__M_24 N' K' (Int32.ofNat m) l (Int32.ofNat k) = if N' 16 (61 * k + m) = -1 then zv_X10_next__M_69 N' K' (Int32.ofNat m) l (Int32.ofNat k) else zv_X10_next__M_47 N' K' (Int32.ofNat m) l (Int32.ofNat k) := by
      rw [zc_X10_next__M_24 _ _ _ _ _ zdm_callers, zq_X10_next__M_29, e2, if_neg n1, zq_X10_next__M_32, zZ_x61 m hm k (by omega), if_neg (zp_in (by omega) (by omega)), zp_cl (by omega)]
    have f9 : ∀ l, zv_X9_next_X_79 N.1 N.2 (Int32.ofNat m) l (Int32.ofNat k) = zv_X9_next_X_27 N.1 N.2 (Int32.ofNat m) l (Int32.ofNat (k + 1)) := fun l => by rw [zq_X9_next_X_79, zp_o1 (by omega)]
    have g9 : ∀ l, zv_X10_next__M_69 N' K' (Int32.ofNat m) l (Int32.ofNat k) = zv_X10_next__M_24 N' K' (Int32.ofNat m) l (Int32.ofNat (k + 1)) := fun l => by rw [zq_X10_next__M_69, zp_o1 (by omega)]
    have stay := fun _ : Unit => zZ_neL (K' := K') hC hm e1 e2 ew ec d (k + 1) l (by omega) (hl.elim Or.inl (fun z => Or.inr ⟨z.choose, by have := z.choose_spec.1; omega, z.choose_spec.2⟩))
    have take := fun _ : Unit => zZ_neL (K' := K') hC hm e1 e2 ew ec d (k + 1) (Int32.ofNat k) (by omega) (Or.inr ⟨k, by omega, rfl⟩)
    by_cases c : N' 16 (61 * k + m) = -1
    · rw [f0, if_pos (w2.mpr c), if_pos rfl, f9, g0, if_pos c, g9]
      exact stay ()
    · rw [f0, if_neg (fun z => c (w2.mp z)), if_neg (by decide), g0, if_neg c, zq_X9_next_X_49, zq_X10_next__M_47]
      by_cases q : l = -1
      · rw [if_pos q, if_pos q, zq_X9_next_X_76, f9, zq_X10_next__M_67, g9]
        exact take ()
      · rw [if_neg q, if_neg q]
        obtain ⟨b, hb, rfl⟩ : ∃ b : Nat, b < k ∧ l = Int32.ofNat b := hl.resolve_left q
        rw [zq_X9_next_X_54, if_neg (zp_in (by omega) (by omega)), if_neg (zp_in (by omega) (by omega)), zp_cl (by omega), zp_cl (by omega), ec b (by omega), ec k (by omega), zq_X10_next__M_52, if_neg (zp_in (by omega) (by omega)), if_neg (zp_in (by omega) (by omega)), zp_cl (by omega), zp_cl (by omega)]
        by_cases s : N' 14 b ≤ N' 14 k
        · rw [if_pos s, if_pos s, f9, g9]
          exact stay ()
        · rw [if_neg s, if_neg s, zq_X9_next_X_76, f9, zq_X10_next__M_67, g9]
          exact take ()
theorem zZ_next (hG : zt_Gs zo_g1 (X, Q)) (hF : zdF (X, Q)) (hq : zqC 1 0 X I) (hM : zt_Gs zo_g22 (I, J)) (hP : zq_P (I, J)) (a0 : Int32) {x y : Int32} {N1 N2 : zm_I} (h1 : zF_X9_next zW_X [.ref 0, .int a0] (X, Q) = some (some (.int x), N1)) (h2 : zF_X10_next_ zW_M [.ref 0, .int a0] (I, J) = some (some (.int y), N2)) : x = y := by
  have q1 : X 1 0 = I 6 0 := hq.1.1
  have h1 := (zf_X9_next_X X Q a0).symm.trans h1
  have h2 := (zf_X10_next__M I J a0).symm.trans h2
  rw [zc_X9_next_X_0 _ _ _ zV_hbX, zq_X9_next_X_4] at h1
  rw [zc_X10_next__M_0 _ _ _ (zZ_time a0), zq_X10_next__M_10, show zm_w I 0 0 0 6 0 = I 6 0 from ze_wo (by decide), ← q1] at h2
  by_cases c1 : (X 1 0).toInt ≤ 0
  · rw [if_pos c1, if_pos rfl, zq_X9_next_X_14] at h1
    rw [if_neg (show ¬ (0 < (X 1 0).toInt ∧ 0 ≤ a0.toInt ∧ a0.toInt ≤ 60) by omega), if_pos rfl, zq_X10_next__M_13] at h2
    cases h1
    cases h2
    rfl
  rw [if_neg c1, if_neg (by decide), zc_X9_next_X_7 _ _ _ (zV_miX a0), zq_X9_next_X_11] at h1
  by_cases c2 : 0 ≤ a0.toInt ∧ a0.toInt ≤ 60
  rotate_left
  · rw [if_neg c2, if_pos rfl, zq_X9_next_X_14] at h1
    rw [if_neg (show ¬ (0 < (X 1 0).toInt ∧ 0 ≤ a0.toInt ∧ a0.toInt ≤ 60) by omega), if_pos rfl, zq_X10_next__M_13] at h2
    cases h1
    cases h2
    rfl
  obtain ⟨C, N, N', K', hC, e6, d1, d2, d3, d4, d5, d6, d7, d8, d9⟩ := zZ_days hG hF hq hM hP (Or.inl (by omega))
  rw [if_pos c2, if_neg (by decide), zc_X9_next_X_17 _ _ _ d1, zq_X9_next_X_21] at h1
  rw [if_pos (show 0 < (X 1 0).toInt ∧ 0 ≤ a0.toInt ∧ a0.toInt ≤ 60 by omega), if_neg (by decide), zc_X10_next__M_16 _ _ _ d2, zq_X10_next__M_20] at h2
  obtain ⟨m, hmm⟩ : ∃ m : Nat, a0.toInt = m := ⟨a0.toInt.toNat, by omega⟩
  have e0 : a0 = Int32.ofNat m := Int32.toInt_inj.mp (by rw [hmm, zp_o (by omega)])
  subst e0
  obtain ⟨r, r1, r2⟩ := zZ_neL (K' := K') hC (show m < 61 by omega) d3 d4 (fun c hc => (d7 m c (by omega) hc).2) (fun c hc => (d5 4 c (by decide)).trans (d8 c hc).symm) C 0 (-1) (by omega) (Or.inl rfl)
  have h1 := r1.symm.trans h1
  have h2 := r2.symm.trans h2
  cases h1
  cases h2
  rfl
end ZZ7
