/-! THE CHANCES, as they are kept: right for the bench as it stands, or not known -/
def zcf_V (B : zdB) (o : Nat) (k c : Nat) : Nat := zca_T o (10 - o) k (fun x => if zca_W B (zca_ms x) k = (c : Int) then 1 else 0)
def zcf_N (B : zdB) : Nat := min 10 (60 / B.2.2.2.2.2.2)
def zcf_o (M : zm_I) : Nat := (M.1 1 4).toInt.toNat
def zcf_right (M : zm_I) : Prop := M.1 72 4 = Int32.ofNat (zcf_N (zd_bx M)) ∧ ∀ k c, k < zcf_N (zd_bx M) → c < 5 → M.2 73 (5 * k + c) = Int64.ofNat ((10 - zcf_o M) * zcf_V (zd_bx M) (zcf_o M) k c)
def zcF (M : zm_I) : Prop := M.1 72 0 = 0 ∨ (1 ≤ (M.1 1 3).toInt → zcf_right M)
def zcf_U : zt_W := [(1, 3, 7), (4, 0, 4), (5, 0, 4), (8, 0, 40), (9, 0, 40), (10, 0, 40), (72, 0, 0), (72, 4, 4), (73, 0, 49)]
def zo_U3 : zt_U := fun f => if f = 12 then [(1, 3, 7), (4, 0, 4), (5, 0, 4), (8, 0, 40), (9, 0, 40), (10, 0, 40), (72, 0, 0), (72, 4, 4), (73, 0, 49)] else zo_U f
def zo_Rel3 (v : Nat) : Nat → zm_I → Prop := fun f M => if f = 12 then zcF M else zo_Rel v f M
theorem zcf_right_c {M M' : zm_I} (h : zcf_right M) (hb : zd_bx M' = zd_bx M) (h4 : M'.1 1 4 = M.1 1 4) (h72 : M'.1 72 4 = M.1 72 4) (h73 : ∀ q, q < 50 → M'.2 73 q = M.2 73 q) : zcf_right M' := by
  have eo : zcf_o M' = zcf_o M := by
    unfold zcf_o
    rw [h4]
  have h10 : zcf_N (zd_bx M) ≤ 10 := Nat.min_le_left _ _
  unfold zcf_right
  rw [hb, eo, h72]
  refine ⟨h.1, fun k c hk hc => ?_⟩
  rw [h73 (5 * k + c) (by omega)]
  exact h.2 k c hk hc
theorem zcF_c {M M' : zm_I} (h : zcF M) (hk : ∀ n i, zt_hit zcf_U n i = true → M'.1 n i = M.1 n i ∧ M'.2 n i = M.2 n i) : zcF M' := by
  have one : ∀ b, (b = 3 ∨ b = 5 ∨ b = 6 ∨ b = 7) → M'.1 1 b = M.1 1 b := fun b hb => by rcases hb with rfl | rfl | rfl | rfl <;> exact (hk 1 _ rfl).1
  have rows : ∀ (n a : Nat), (n, 0, a) ∈ zcf_U → ∀ b, b ≤ a → M'.1 n b = M.1 n b ∧ M'.2 n b = M.2 n b := fun n a hn b hb => hk n b (List.any_eq_true.mpr ⟨(n, 0, a), hn, by
    simp only [Nat.beq_refl, Bool.true_and, Bool.and_eq_true, Nat.ble_eq]
    exact ⟨Nat.zero_le b, hb⟩⟩)
  have hb := zd_bx_c one (fun c hc => ⟨(rows 4 4 (by decide) c (by omega)).1, (rows 5 4 (by decide) c (by omega)).1⟩) (fun k hk => ⟨(rows 8 40 (by decide) k (by omega)).1, (rows 9 40 (by decide) k (by omega)).1, (rows 10 40 (by decide) k (by omega)).1⟩)
  have e72 : M'.1 72 0 = M.1 72 0 := (hk 72 0 rfl).1
  rcases h with h | h
  · exact Or.inl (e72.trans h)
  · refine Or.inr (fun hE => zcf_right_c (h ?_) hb (hk 1 4 rfl).1 (hk 72 4 rfl).1 (fun q hq => (rows 73 49 (by decide) q (by omega)).2))
    rw [one 3 (by omega)] at hE
    exact hE
theorem zo_UR3 (v : Nat) : zt_UR zo_U3 (zo_Rel3 v) := by
  intro f M M' h hk
  unfold zo_Rel3 at h ⊢
  unfold zo_U3 at hk
  by_cases e : f = 12
  · rw [if_pos e] at h hk ⊢
    exact zcF_c h hk
  · rw [if_neg e] at h hk ⊢
    exact zo_UR v f M M' h hk
theorem zo_R3n {v f : Nat} {M : zm_I} (h : Nat.beq f 12 = false) : zo_Rel3 v f M ↔ zo_Rel v f M := by
  unfold zo_Rel3
  rw [if_neg (Nat.ne_of_beq_eq_false h)]
theorem zcf_lift {v : Nat} {K : zt_K} {F : zm_L → List Value → zm_I → zm_R} (h : zt_Con zo_Om (zo_Rel v) K F) (hf : (K.2.2.1.2.2.all (fun f => !Nat.beq f 12) && K.2.2.2.2.all (fun o => o.2.2.2.all (fun f => !Nat.beq f 12))) = true) : zt_Con zo_Om (zo_Rel3 v) K F := by
  intro w0 G hO wl as M hW hs hc hfl hG
  simp only [Bool.and_eq_true] at hf
  obtain ⟨r, N, q1, q2, q3, o, q4, q5⟩ := h w0 G hO wl as M hW hs hc (fun f hm => (zo_R3n (by have := List.all_eq_true.mp hf.1 f hm; rw [Bool.not_eq_true'] at this; exact this)).mp (hfl f hm)) hG
  exact ⟨r, N, q1, q2, q3, o, q4, q5.1, q5.2.1, q5.2.2.1, fun f hm => (zo_R3n (by have := List.all_eq_true.mp (List.all_eq_true.mp hf.2 o q4) f hm; rw [Bool.not_eq_true'] at this; exact this)).mpr (q5.2.2.2 f hm)⟩
theorem zcf_fgC (v : Nat) (hd : Nat × Option Nat × Bool × List (Nat × Nat)) {pre : List zt_C} {fl : List Nat} : zt_Con zo_Om (zo_Rel3 v) (hd, (1, ([zjr 0], pre, fl), [(21, 1, 1), (68, 0, 0), (72, 0, 0)], [(none, [], [], [12])])) zF_X9_forgetAnswers := by
  intro w1 G1 h1 wl as M hW hs hc hf hG
  have h1 : some (zW_X, zo_g1) = some (w1, G1) := h1
  cases h1
  obtain rfl := zh_wd hW (by decide +kernel)
  obtain ⟨vs, rfl, h2⟩ := zh_ref hs
  obtain rfl := zh_nil h2
  obtain ⟨N, q1, q2, q3⟩ := zd_get (w0 := zW_X) (G := zo_g1) (zi_54 0 zo_hd) rfl rfl rfl rfl (as := [.ref 0]) (M := M) (zq_s1 zq_r0 zq_s0) hG
  have e : zF_X9_forgetAnswers zW_X [.ref 0] M = _ := (zf_X9_forgetAnswers_X M.1 M.2).trans (zq_X9_forgetAnswers_X_0 _ _)
  rw [e] at q1
  refine ⟨none, N, e.trans q1, q2, q3, _, List.mem_singleton.mpr rfl, rfl, zh_no, zh_no, fun f hm => ?_⟩
  have hm : f = 12 := List.mem_singleton.mp hm
  subst hm
  unfold zo_Rel3
  rw [if_pos rfl]
  refine Or.inl ?_
  cases q1
  show zm_w (zm_w (zm_w M.1 21 1 0) 68 0 0) 72 0 0 72 0 = 0
  rw [ze_wi]
