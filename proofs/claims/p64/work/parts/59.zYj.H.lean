/-! TODAY'S DAY, as it is kept: right for the bench as it stands, or not known -/
def zd_bx (M : zm_I) : zdB := (((M.1 1 6).toInt.toNat, (M.1 1 5).toInt.toNat, (M.1 1 7).toInt.toNat), (fun c => if c < 5 then (M.1 4 c).toInt.toNat else 0), (fun c => if c < 5 then (M.1 5 c).toInt.toNat else 0), (fun k => if k < 41 then (M.1 8 k).toInt.toNat else 0), (fun k => if k < 41 then (M.1 9 k).toInt.toNat else 0), (fun k => if k < 41 then (M.1 10 k).toInt.toNat else 0), (M.1 1 3).toInt.toNat)
def zd_right (M : zm_I) : Prop := (∀ m, m ≤ 60 → ∀ q, q < 5 → q < (zd_bx M).1.1 → zdK (zd_pl (zd_bx M) (zd_bit 0) m) (M.1 30 (5 * m + q)) (M.1 31 (5 * m + q)) q) ∧ (∀ q, q < 5 → (M.1 27 q).toInt = (zd_st (zd_bx M) (zd_bit 0) 61).2.1 q) ∧ ∀ q, q < 41 → zd_bit (M.2 22 9) q = (zd_st (zd_bx M) (zd_bit 0) 61).2.2 q
def zdF (M : zm_I) : Prop := M.1 21 1 = 0 ∨ (1 ≤ (M.1 1 3).toInt → zd_right M)
def zd_U : zt_W := [(1, 3, 3), (1, 5, 7), (4, 0, 4), (5, 0, 4), (8, 0, 40), (9, 0, 40), (10, 0, 40), (21, 1, 1), (22, 9, 9), (27, 0, 4), (30, 0, 304), (31, 0, 304)]
def zo_U2 : zt_U := fun f => if f = 11 then [(1, 3, 3), (1, 5, 7), (4, 0, 4), (5, 0, 4), (8, 0, 40), (9, 0, 40), (10, 0, 40), (21, 1, 1), (22, 9, 9), (27, 0, 4), (30, 0, 304), (31, 0, 304)] else zo_U f
def zo_Rel2 (v : Nat) : Nat → zm_I → Prop := fun f M => if f = 11 then zdF M else zo_Rel v f M
theorem zd_bx_c {M M' : zm_I} (h1 : ∀ b, (b = 3 ∨ b = 5 ∨ b = 6 ∨ b = 7) → M'.1 1 b = M.1 1 b) (h4 : ∀ c, c < 5 → M'.1 4 c = M.1 4 c ∧ M'.1 5 c = M.1 5 c) (h8 : ∀ k, k < 41 → M'.1 8 k = M.1 8 k ∧ M'.1 9 k = M.1 9 k ∧ M'.1 10 k = M.1 10 k) : zd_bx M' = zd_bx M := by
  have f4 : (fun c => if c < 5 then (M'.1 4 c).toInt.toNat else 0) = fun c => if c < 5 then (M.1 4 c).toInt.toNat else 0 := funext fun c => by
    by_cases e : c < 5
    · rw [if_pos e, if_pos e, (h4 c e).1]
    · rw [if_neg e, if_neg e]
  have f5 : (fun c => if c < 5 then (M'.1 5 c).toInt.toNat else 0) = fun c => if c < 5 then (M.1 5 c).toInt.toNat else 0 := funext fun c => by
    by_cases e : c < 5
    · rw [if_pos e, if_pos e, (h4 c e).2]
    · rw [if_neg e, if_neg e]
  have f8 : (fun c => if c < 41 then (M'.1 8 c).toInt.toNat else 0) = fun c => if c < 41 then (M.1 8 c).toInt.toNat else 0 := funext fun c => by
    by_cases e : c < 41
    · rw [if_pos e, if_pos e, (h8 c e).1]
    · rw [if_neg e, if_neg e]
  have f9 : (fun c => if c < 41 then (M'.1 9 c).toInt.toNat else 0) = fun c => if c < 41 then (M.1 9 c).toInt.toNat else 0 := funext fun c => by
    by_cases e : c < 41
    · rw [if_pos e, if_pos e, (h8 c e).2.1]
    · rw [if_neg e, if_neg e]
  have f10 : (fun c => if c < 41 then (M'.1 10 c).toInt.toNat else 0) = fun c => if c < 41 then (M.1 10 c).toInt.toNat else 0 := funext fun c => by
    by_cases e : c < 41
    · rw [if_pos e, if_pos e, (h8 c e).2.2]
    · rw [if_neg e, if_neg e]
  unfold zd_bx
  rw [h1 3 (by omega), h1 5 (by omega), h1 6 (by omega), h1 7 (by omega), f4, f5, f8, f9, f10]
theorem zd_right_c {M M' : zm_I} (h : zd_right M) (hb : zd_bx M' = zd_bx M) (h27 : ∀ q, q < 5 → M'.1 27 q = M.1 27 q) (h30 : ∀ q, q < 305 → M'.1 30 q = M.1 30 q ∧ M'.1 31 q = M.1 31 q) (h22 : M'.2 22 9 = M.2 22 9) : zd_right M' := by
  unfold zd_right
  rw [hb]
  refine ⟨fun m hm q hq hc => ?_, fun q hq => ?_, fun q hq => ?_⟩
  · have w := h30 (5 * m + q) (by omega)
    rw [w.1, w.2]
    exact h.1 m hm q hq hc
  · rw [h27 q hq]
    exact h.2.1 q hq
  · rw [h22]
    exact h.2.2 q hq
theorem zdF_c {M M' : zm_I} (h : zdF M) (hk : ∀ n i, zt_hit zd_U n i = true → M'.1 n i = M.1 n i ∧ M'.2 n i = M.2 n i) : zdF M' := by
  have one : ∀ b, (b = 3 ∨ b = 5 ∨ b = 6 ∨ b = 7) → M'.1 1 b = M.1 1 b := fun b hb => by rcases hb with rfl | rfl | rfl | rfl <;> exact (hk 1 _ rfl).1
  have row : ∀ (n a : Nat), (n, 0, a) ∈ zd_U → ∀ b, b ≤ a → M'.1 n b = M.1 n b := fun n a hn b hb => (hk n b (List.any_eq_true.mpr ⟨(n, 0, a), hn, by
    simp only [Nat.beq_refl, Bool.true_and, Bool.and_eq_true, Nat.ble_eq]
    exact ⟨Nat.zero_le b, hb⟩⟩)).1
  have hb := zd_bx_c one (fun c hc => ⟨row 4 4 (by decide) c (by omega), row 5 4 (by decide) c (by omega)⟩) (fun k hk => ⟨row 8 40 (by decide) k (by omega), row 9 40 (by decide) k (by omega), row 10 40 (by decide) k (by omega)⟩)
  have e21 : M'.1 21 1 = M.1 21 1 := (hk 21 1 rfl).1
  rcases h with h | h
  · exact Or.inl (e21.trans h)
  · refine Or.inr (fun hE => zd_right_c (h ?_) hb (fun q hq => row 27 4 (by decide) q (by omega)) (fun q hq => ⟨row 30 304 (by decide) q (by omega), row 31 304 (by decide) q (by omega)⟩) (hk 22 9 rfl).2)
    rw [one 3 (by omega)] at hE
    exact hE
theorem zo_UR2 (v : Nat) : zt_UR zo_U2 (zo_Rel2 v) := by
  intro f M M' h hk
  unfold zo_Rel2 at h ⊢
  unfold zo_U2 at hk
  by_cases e : f = 11
  · rw [if_pos e] at h hk ⊢
    exact zdF_c h hk
  · rw [if_neg e] at h hk ⊢
    exact zo_UR v f M M' h hk
theorem zo_R2n {v f : Nat} {M : zm_I} (h : Nat.beq f 11 = false) : zo_Rel2 v f M ↔ zo_Rel v f M := by
  unfold zo_Rel2
  rw [if_neg (Nat.ne_of_beq_eq_false h)]
theorem zd_lift {v : Nat} {K : zt_K} {F : zm_L → List Value → zm_I → zm_R} (h : zt_Con zo_Om (zo_Rel v) K F) (hf : (K.2.2.1.2.2.all (fun f => !Nat.beq f 11) && K.2.2.2.2.all (fun o => o.2.2.2.all (fun f => !Nat.beq f 11))) = true) : zt_Con zo_Om (zo_Rel2 v) K F := by
  intro w0 G hO wl as M hW hs hc hfl hG
  simp only [Bool.and_eq_true] at hf
  obtain ⟨r, N, q1, q2, q3, o, q4, q5⟩ := h w0 G hO wl as M hW hs hc (fun f hm => (zo_R2n (by have := List.all_eq_true.mp hf.1 f hm; rw [Bool.not_eq_true'] at this; exact this)).mp (hfl f hm)) hG
  exact ⟨r, N, q1, q2, q3, o, q4, q5.1, q5.2.1, q5.2.2.1, fun f hm => (zo_R2n (by have := List.all_eq_true.mp (List.all_eq_true.mp hf.2 o q4) f hm; rw [Bool.not_eq_true'] at this; exact this)).mpr (q5.2.2.2 f hm)⟩
theorem zd_g71 : (List.range 18).all (fun n => decide (zo_g7[n]? = zo_g1[if n < 8 then 22 + n else n - 7]?)) = true := by decide +kernel
section ZDH
variable {I : Nat → Nat → Int32} {J : Nat → Nat → Int64}
/-- the bench's numbers, out of the bounds that the cells keep to -/
theorem zd_bxV {M : zm_I} (hG : zt_Gs zo_g1 M) (hE : 1 ≤ (M.1 1 3).toInt) : zdXv (zd_bx M) := by
  have g6 : (0 : Int) ≤ (M.1 1 6).toInt ∧ (M.1 1 6).toInt ≤ 5 := hG 1 _ rfl 6 _ rfl
  have g5 : (0 : Int) ≤ (M.1 1 5).toInt ∧ (M.1 1 5).toInt ≤ 6 := hG 1 _ rfl 5 _ rfl
  have g7 : (0 : Int) ≤ (M.1 1 7).toInt ∧ (M.1 1 7).toInt ≤ 41 := hG 1 _ rfl 7 _ rfl
  have g3 : (0 : Int) ≤ (M.1 1 3).toInt ∧ (M.1 1 3).toInt ≤ 30 := hG 1 _ rfl 3 _ rfl
  have r4 : ∀ c, (0 : Int) ≤ (M.1 4 c).toInt ∧ (M.1 4 c).toInt ≤ 61 := fun c => zh_ga (b := (.ofNat 0, .ofNat 61)) hG rfl c
  have r5 : ∀ c, (0 : Int) ≤ (M.1 5 c).toInt ∧ (M.1 5 c).toInt ≤ 5 := fun c => zh_ga (b := (.ofNat 0, .ofNat 5)) hG rfl c
  have r8 : ∀ c, (0 : Int) ≤ (M.1 8 c).toInt ∧ (M.1 8 c).toInt ≤ 4 := fun c => zh_ga (b := (.ofNat 0, .ofNat 4)) hG rfl c
  have r9 : ∀ c, (0 : Int) ≤ (M.1 9 c).toInt ∧ (M.1 9 c).toInt ≤ 5 := fun c => zh_ga (b := (.ofNat 0, .ofNat 5)) hG rfl c
  have r10 : ∀ c, (0 : Int) ≤ (M.1 10 c).toInt ∧ (M.1 10 c).toInt ≤ 60 := fun c => zh_ga (b := (.ofNat 0, .ofNat 60)) hG rfl c
  refine ⟨⟨?_, ?_, fun c => ?_, fun k => ?_, fun k => ?_⟩, ?_, ⟨?_, ?_⟩, fun c => ?_, fun k => ?_⟩
  · show (M.1 1 6).toInt.toNat ≤ 5
    omega
  · show (M.1 1 5).toInt.toNat ≤ 6
    omega
  · show (if c < 5 then (M.1 5 c).toInt.toNat else 0) ≤ 5
    have := r5 c
    split <;> omega
  · show (if k < 41 then (M.1 8 k).toInt.toNat else 0) ≤ 4
    have := r8 k
    split <;> omega
  · show (if k < 41 then (M.1 9 k).toInt.toNat else 0) ≤ 5
    have := r9 k
    split <;> omega
  · show (M.1 1 7).toInt.toNat ≤ 41
    omega
  · show 1 ≤ (M.1 1 3).toInt.toNat
    omega
  · show (M.1 1 3).toInt.toNat ≤ 30
    omega
  · show (if c < 5 then (M.1 4 c).toInt.toNat else 0) ≤ 61
    have := r4 c
    split <;> omega
  · show (if k < 41 then (M.1 10 k).toInt.toNat else 0) ≤ 60
    have := r10 k
    split <;> omega
theorem zd_of {x : Int32} (h : 0 ≤ x.toInt) : x = Int32.ofNat x.toInt.toNat := zh_ofZ h
theorem zd_bxB {M : zm_I} (hG : zt_Gs zo_g1 M) {K : Nat → Nat → Int32} (h : ∀ n b, n < 10 → K (8 + n) b = M.1 (1 + n) b) : zdXb (zd_bx M) K := by
  have g6 : (0 : Int) ≤ (M.1 1 6).toInt ∧ (M.1 1 6).toInt ≤ 5 := hG 1 _ rfl 6 _ rfl
  have g5 : (0 : Int) ≤ (M.1 1 5).toInt ∧ (M.1 1 5).toInt ≤ 6 := hG 1 _ rfl 5 _ rfl
  have g7 : (0 : Int) ≤ (M.1 1 7).toInt ∧ (M.1 1 7).toInt ≤ 41 := hG 1 _ rfl 7 _ rfl
  have g3 : (0 : Int) ≤ (M.1 1 3).toInt ∧ (M.1 1 3).toInt ≤ 30 := hG 1 _ rfl 3 _ rfl
  have r4 : ∀ c, (0 : Int) ≤ (M.1 4 c).toInt ∧ (M.1 4 c).toInt ≤ 61 := fun c => zh_ga (b := (.ofNat 0, .ofNat 61)) hG rfl c
  have r5 : ∀ c, (0 : Int) ≤ (M.1 5 c).toInt ∧ (M.1 5 c).toInt ≤ 5 := fun c => zh_ga (b := (.ofNat 0, .ofNat 5)) hG rfl c
  have r8 : ∀ c, (0 : Int) ≤ (M.1 8 c).toInt ∧ (M.1 8 c).toInt ≤ 4 := fun c => zh_ga (b := (.ofNat 0, .ofNat 4)) hG rfl c
  have r9 : ∀ c, (0 : Int) ≤ (M.1 9 c).toInt ∧ (M.1 9 c).toInt ≤ 5 := fun c => zh_ga (b := (.ofNat 0, .ofNat 5)) hG rfl c
  have r10 : ∀ c, (0 : Int) ≤ (M.1 10 c).toInt ∧ (M.1 10 c).toInt ≤ 60 := fun c => zh_ga (b := (.ofNat 0, .ofNat 60)) hG rfl c
  refine ⟨⟨(h 0 6 (by decide)).trans (zd_of g6.1), (h 0 5 (by decide)).trans (zd_of g5.1), (h 0 7 (by decide)).trans (zd_of g7.1), (h 0 3 (by decide)).trans (zd_of g3.1)⟩, fun c hc => ?_, fun c hc => ?_, fun k hk => ⟨?_, ?_, ?_⟩⟩
  · show K 11 c = Int32.ofNat (if c < 5 then (M.1 4 c).toInt.toNat else 0)
    rw [if_pos hc]
    exact (h 3 c (by decide)).trans (zd_of (r4 c).1)
  · show K 12 c = Int32.ofNat (if c < 5 then (M.1 5 c).toInt.toNat else 0)
    rw [if_pos hc]
    exact (h 4 c (by decide)).trans (zd_of (r5 c).1)
  · show K 15 k = Int32.ofNat (if k < 41 then (M.1 8 k).toInt.toNat else 0)
    rw [if_pos hk]
    exact (h 7 k (by decide)).trans (zd_of (r8 k).1)
  · show K 16 k = Int32.ofNat (if k < 41 then (M.1 9 k).toInt.toNat else 0)
    rw [if_pos hk]
    exact (h 8 k (by decide)).trans (zd_of (r9 k).1)
  · show K 17 k = Int32.ofNat (if k < 41 then (M.1 10 k).toInt.toNat else 0)
    rw [if_pos hk]
    exact (h 9 k (by decide)).trans (zd_of (r10 k).1)
theorem zdy_keep (hG : zt_Gs zo_g1 (I, J)) (hE : 1 ≤ (I 1 3).toInt) : ∃ N, zF_X3_keep zW_YB [.ref 0, .ref 11] (zm_sub2 [(21, 11), (1, 10)] (I, J)) = some (none, N) ∧ zdS (zd_bx (I, J)) (zd_st (zd_bx (I, J)) (zd_bit 0) 61) (zm_sub2 [(1, 8), (11, 10)] N).1 (zm_sub2 [(1, 8), (11, 10)] N).2 ∧ zdL (zd_bx (I, J)) (zd_bit 0) 61 N.1 ∧ ∀ n b, n < 10 → N.1 (11 + n) b = I (1 + n) b := by
  have hv := zd_bxV hG hE
  have y0 : ∀ n b, n < 10 → (zm_sub2 [(21, 11), (1, 10)] (I, J)).1 (11 + n) b = I (1 + n) b := fun n b hn => by
    match n, hn with
    | 0, _ => rfl
    | 1, _ => rfl
    | 2, _ => rfl
    | 3, _ => rfl
    | 4, _ => rfl
    | 5, _ => rfl
    | 6, _ => rfl
    | 7, _ => rfl
    | 8, _ => rfl
    | 9, _ => rfl
    | n + 10, h => omega
  have y1 : ∀ n b, n < 8 → (zm_sub2 [(21, 11), (1, 10)] (I, J)).1 (1 + n) b = I (22 + n) b := fun n b hn => by
    match n, hn with
    | 0, _ => rfl
    | 1, _ => rfl
    | 2, _ => rfl
    | 3, _ => rfl
    | 4, _ => rfl
    | 5, _ => rfl
    | 6, _ => rfl
    | 7, _ => rfl
    | n + 8, h => omega
  generalize zm_sub2 [(21, 11), (1, 10)] (I, J) = Y at y0 y1
  obtain ⟨F1, f1, g1⟩ := zd_fill (zm_sub2 [(9, 1)] Y)
  have m1 : ∀ a, a ≠ 9 → (zm_mrg [(9, 1)] Y (F1, (zm_sub2 [(9, 1)] Y).2)).1 a = Y.1 a := fun a ha => (zy_m0 (a := 9) (z := 1) (n := a) (by omega) _ _).1
  have n1 : (zm_mrg [(9, 1)] Y (F1, (zm_sub2 [(9, 1)] Y).2)).1 9 = F1 0 := (zy_m1 (a := 9) (z := 1) (n := 9) (by omega) (by omega) _ _).1
  have e1 : zF_X3_keep zW_YB [.ref 0, .ref 11] Y = _ := (zf_X3_keep_YB Y.1 Y.2).trans (zc_X3_keep_YB_0 Y.1 Y.2 f1)
  have e1 : zF_X3_keep zW_YB [.ref 0, .ref 11] Y = zv_X3_keep_YB_8 (zm_mrg [(9, 1)] Y (F1, (zm_sub2 [(9, 1)] Y).2)).1 (zm_mrg [(9, 1)] Y (F1, (zm_sub2 [(9, 1)] Y).2)).2 := e1
  generalize zm_mrg [(9, 1)] Y (F1, (zm_sub2 [(9, 1)] Y).2) = Y1 at m1 n1 e1
  obtain ⟨F2, f2, g2⟩ := zd_fill (zm_sub2 [(10, 1)] Y1)
  have m2 : ∀ a, a ≠ 10 → (zm_mrg [(10, 1)] Y1 (F2, (zm_sub2 [(10, 1)] Y1).2)).1 a = Y1.1 a := fun a ha => (zy_m0 (a := 10) (z := 1) (n := a) (by omega) _ _).1
  have n2 : (zm_mrg [(10, 1)] Y1 (F2, (zm_sub2 [(10, 1)] Y1).2)).1 10 = F2 0 := (zy_m1 (a := 10) (z := 1) (n := 10) (by omega) (by omega) _ _).1
  have e2 : zv_X3_keep_YB_8 Y1.1 Y1.2 = zv_X3_keep_YB_16 (zm_mrg [(10, 1)] Y1 (F2, (zm_sub2 [(10, 1)] Y1).2)).1 (zm_mrg [(10, 1)] Y1 (F2, (zm_sub2 [(10, 1)] Y1).2)).2 := zc_X3_keep_YB_8 Y1.1 Y1.2 f2
  generalize zm_mrg [(10, 1)] Y1 (F2, (zm_sub2 [(10, 1)] Y1).2) = Y2 at m2 n2 e2
  have z0 : ∀ n b, n < 10 → Y2.1 (11 + n) b = I (1 + n) b := fun n b hn => by rw [m2 _ (by omega), m1 _ (by omega), y0 n b hn]
  have z1 : ∀ n b, n < 8 → Y2.1 (1 + n) b = I (22 + n) b := fun n b hn => by rw [m2 _ (by omega), m1 _ (by omega), y1 n b hn]
  have u : ∀ n b, n < 18 → (zm_sub2 [(1, 8), (11, 10)] Y2).1 n b = I (if n < 8 then 22 + n else n - 7) b := fun n b hn => by
    rw [(zdy_u hn Y2).1]
    by_cases c : n < 8
    · rw [if_pos c, if_pos c, z1 n b c]
    · rw [if_neg c, if_neg c]
      have := z0 (n - 8) b (by omega)
      rw [show 11 + (n - 8) = 3 + n by omega, show 1 + (n - 8) = n - 7 by omega] at this
      exact this
  have hb : zdXb (zd_bx (I, J)) (zm_sub2 [(1, 8), (11, 10)] Y2).1 := zd_bxB hG (fun n b hn => by
    rw [u (8 + n) b (by omega), if_neg (by omega), show 8 + n - 7 = 1 + n by omega])
  have hG7 : zt_Gs zo_g7 (zm_sub2 [(1, 8), (11, 10)] Y2) := by
    intro n g hg i b hbb
    have hn : n < 18 := Nat.lt_of_lt_of_le (List.getElem?_eq_some_iff.mp hg).1 zo_l7
    have w := of_decide_eq_true (List.all_eq_true.mp zd_g71 n (List.mem_range.mpr hn))
    rw [w] at hg
    rw [u n i hn]
    exact hG _ g hg i b hbb
  obtain ⟨D, L, d1, d2, d3⟩ := zdS_0 (I := (zm_sub2 [(1, 8), (11, 10)] Y2).1) (J := (zm_sub2 [(1, 8), (11, 10)] Y2).2) (ms := zd_bit 0) hv hb hG7
  have e3 : zv_X3_keep_YB_16 Y2.1 Y2.2 = zv_X3_keep_YB_24 (zm_mrg [(1, 8), (11, 10)] Y2 (D, L)).1 (zm_mrg [(1, 8), (11, 10)] Y2 (D, L)).2 := zc_X3_keep_YB_16 Y2.1 Y2.2 d1
  have d2' : zdS (zd_bx (I, J)) (zd_st (zd_bx (I, J)) (zd_bit 0) 0) (zm_sub2 [(1, 8), (11, 10)] (zm_mrg [(1, 8), (11, 10)] Y2 (D, L))).1 (zm_sub2 [(1, 8), (11, 10)] (zm_mrg [(1, 8), (11, 10)] Y2 (D, L))).2 := zdS_c d2 (fun n hn => (zdy_s hn Y2 (D, L)).1) (zdy_s (n := 0) (by decide) Y2 (D, L)).2
  have o9 : ∀ b, (zm_mrg [(1, 8), (11, 10)] Y2 (D, L)).1 9 b = Y2.1 9 b ∧ (zm_mrg [(1, 8), (11, 10)] Y2 (D, L)).1 10 b = Y2.1 10 b := fun b => ⟨rfl, rfl⟩
  have ob : ∀ n b, n < 10 → (zm_mrg [(1, 8), (11, 10)] Y2 (D, L)).1 (11 + n) b = I (1 + n) b := fun n b hn => by
    have v := congrFun (zdy_u (n := 8 + n) (by omega) (zm_mrg [(1, 8), (11, 10)] Y2 (D, L))).1 b
    rw [if_neg (by omega), show 3 + (8 + n) = 11 + n by omega] at v
    rw [← v, (zdy_s (n := 8 + n) (by omega) Y2 (D, L)).1]
    show D (8 + n) b = _
    rw [d3 (8 + n) b (by omega), u (8 + n) b (by omega), if_neg (by omega), show 8 + n - 7 = 1 + n by omega]
  generalize zm_mrg [(1, 8), (11, 10)] Y2 (D, L) = Y3 at e3 d2' o9 ob
  obtain ⟨N, K, k1, k2, k3, k4, k5⟩ := zdy_26 hv 61 0 Y3.1 Y3.2 rfl d2' ⟨fun m hm => absurd hm (Nat.not_lt_zero m), fun m _ hm q hq => by
    rw [(o9 _).1, (o9 _).2, m2 9 (by decide), n1, n2, g1 _ (by omega), g2 _ (by omega)]
    exact ⟨rfl, rfl⟩⟩
  refine ⟨(N, K), ?_, k2, k3, fun n b hn => ?_⟩
  · rw [e1, e2, e3, zq_X3_keep_YB_24]
    exact k1
  · show N (11 + n) b = _
    rw [k5 _ b (by omega), ob n b hn]
end ZDH
/-- today's day, asked for, is right -/
theorem zd_lt {M N : zm_I} (hG : zt_Gs zo_g1 M) (hF : zdF M) (h : zF_X9_livedToday zW_X [.ref 0] M = some (some (.ref 21), N)) : (1 ≤ (M.1 1 3).toInt → zd_right N) ∧ ∀ n b, n < 11 → N.1 n b = M.1 n b := by
  obtain ⟨I, J⟩ := M
  rw [zf_X9_livedToday_X, zq_X9_livedToday_X_0] at h
  by_cases c : I 21 1 = 0
  · rw [if_pos c] at h
    obtain ⟨w, K, w1, -, -, -⟩ := zp_get (w0 := zW_X) (G := zo_g1) (zi_78 0 zo_hd) rfl rfl (as := [.ref 0]) (M := (I, J)) (zq_s1 zq_r0 zq_s0) zh_no hG
    have fr := (zp_get (w0 := zW_X) (G := zo_g1) (zi_78 0 zo_hd) rfl rfl (as := [.ref 0]) (M := (I, J)) (zq_s1 zq_r0 zq_s0) zh_no hG)
    obtain ⟨w, K, w1, -, w3, -⟩ := fr
    have e0 : zF_X9_livedToday zW_X [.ref 0] (I, J) = some (some (.ref 21), N) := by
      rw [zf_X9_livedToday_X, zq_X9_livedToday_X_0, if_pos c]
      exact h
    have e9 : some (some (Value.ref 21), N) = some (w, K) := e0.symm.trans w1
    cases e9
    have frm : ∀ n b, n < 11 → N.1 n b = I n b := fun n b hn => (w3 n b (by
      match n, hn with
      | 0, _ => rfl
      | 1, _ => rfl
      | 2, _ => rfl
      | 3, _ => rfl
      | 4, _ => rfl
      | 5, _ => rfl
      | 6, _ => rfl
      | 7, _ => rfl
      | 8, _ => rfl
      | 9, _ => rfl
      | 10, _ => rfl
      | n + 11, h => omega)).1
    refine ⟨fun hE => ?_, frm⟩
    obtain ⟨P, p1, p2, p3, p4⟩ := zdy_keep hG hE
    rw [zc_X9_livedToday_X_10 _ _ p1, zq_X9_livedToday_X_21] at h
    have hN : N = zm_mrg [(21, 11), (1, 10)] (I, J) P := by
      have h : some (some (Value.ref 21), zm_mrg [(21, 11), (1, 10)] (I, J) P) = some (some (Value.ref 21), N) := h
      cases h
      rfl
    have hb : zd_bx N = zd_bx (I, J) := zd_bx_c (fun b _ => frm 1 b (by decide)) (fun c _ => ⟨frm 4 c (by decide), frm 5 c (by decide)⟩) (fun k _ => ⟨frm 8 k (by decide), frm 9 k (by decide), frm 10 k (by decide)⟩)
    have n30 : ∀ b, N.1 30 b = P.1 9 b ∧ N.1 31 b = P.1 10 b := fun b => by
      rw [hN]
      exact ⟨rfl, rfl⟩
    have n27 : ∀ b, N.1 27 b = P.1 6 b := fun b => by
      rw [hN]
      rfl
    have n22 : N.2 22 9 = P.2 1 9 := by
      rw [hN]
      rfl
    unfold zd_right
    rw [hb]
    refine ⟨fun m hm q hq hc => ?_, fun q hq => ?_, fun q hq => ?_⟩
    · rw [(n30 _).1, (n30 _).2]
      exact p3.1 m (by omega) q hc
    · rw [n27]
      exact p2.2.2.1 q hq
    · rw [n22]
      exact p2.2.2.2.1 q hq
  · rw [if_neg c, zq_X9_livedToday_X_21] at h
    cases h
    rcases hF with hF | hF
    · exact absurd hF c
    · exact ⟨hF, fun _ _ _ => rfl⟩
theorem zd_ltC (v : Nat) (hd : Nat × Option Nat × Bool × List (Nat × Nat)) {pre : List zt_C} : zt_Con zo_Om (zo_Rel2 v) (hd, (1, ([zjr 0], pre, [11]), [(21, 1, 1), (22, 7, 9), (23, 0, 4), (24, 0, 4), (25, 0, 4), (26, 0, 4), (27, 0, 4), (28, 0, 4), (29, 0, 5), (30, 0, 304), (31, 0, 304)], [(some (zjr 21), [], [], [11])])) zF_X9_livedToday := by
  intro w1 G1 h1 wl as M hW hs hc hf hG
  have h1 : some (zW_X, zo_g1) = some (w1, G1) := h1
  cases h1
  obtain rfl := zh_wd hW (by decide +kernel)
  obtain ⟨vs, rfl, h2⟩ := zh_ref hs
  obtain rfl := zh_nil h2
  have hF : zdF M := by
    have := hf 11 (List.mem_singleton.mpr rfl)
    unfold zo_Rel2 at this
    rw [if_pos rfl] at this
    exact this
  obtain ⟨r, N, q1, q2, q3, o, q4, q5⟩ := zp_get (w0 := zW_X) (G := zo_g1) (zi_78 0 zo_hd) rfl rfl (as := [.ref 0]) (M := M) (zq_s1 zq_r0 zq_s0) zh_no hG
  have q4 : o = (some (zjr 21), [], [], []) := List.mem_singleton.mp q4
  subst q4
  obtain ⟨u, rfl, hu⟩ := q5.1
  have hu : u = .ref 21 := hu
  subst hu
  obtain ⟨t1, t2⟩ := zd_lt hG hF q1
  refine ⟨_, N, q1, q2, q3, _, List.mem_singleton.mpr rfl, ⟨.ref 21, rfl, rfl⟩, zh_no, zh_no, fun f hm => ?_⟩
  have hm : f = 11 := List.mem_singleton.mp hm
  subst hm
  unfold zo_Rel2
  rw [if_pos rfl]
  refine Or.inr (fun hE => t1 ?_)
  rw [t2 1 3 (by decide)] at hE
  exact hE
theorem zd_fgC (v : Nat) (hd : Nat × Option Nat × Bool × List (Nat × Nat)) {pre : List zt_C} : zt_Con zo_Om (zo_Rel2 v) (hd, (1, ([zjr 0], pre, []), [(21, 1, 1), (68, 0, 0), (72, 0, 0)], [(none, [], [], [11])])) zF_X9_forgetAnswers := by
  intro w1 G1 h1 wl as M hW hs hc hf hG
  have h1 : some (zW_X, zo_g1) = some (w1, G1) := h1
  cases h1
  obtain rfl := zh_wd hW (by decide +kernel)
  obtain ⟨vs, rfl, h2⟩ := zh_ref hs
  obtain rfl := zh_nil h2
  obtain ⟨N, q1, q2, q3⟩ := zd_get (w0 := zW_X) (G := zo_g1) (zi_54 0 zo_hd) rfl rfl rfl rfl (as := [.ref 0]) (M := M) (zq_s1 zq_r0 zq_s0) hG
  have e : zF_X9_forgetAnswers zW_X [.ref 0] M = _ := (zf_X9_forgetAnswers_X M.1 M.2).trans (zq_X9_forgetAnswers_X_0 _ _)
  rw [e] at q1
  refine ⟨none, N, e.trans q1, q2, q3, _, List.mem_singleton.mpr rfl, rfl, zh_no, zh_no, fun f hm => ?_⟩
  have hm : f = 11 := List.mem_singleton.mp hm
  subst hm
  unfold zo_Rel2
  rw [if_pos rfl]
  refine Or.inl ?_
  cases q1
  show zm_w (zm_w (zm_w M.1 21 1 0) 68 0 0) 72 0 0 21 1 = 0
  rw [ze_wo (by decide), ze_wo (by decide), ze_wi]
