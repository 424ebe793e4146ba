/-! PUBLIC METHODS, printed by program (wip/abs/gen27.py) -/
def zq_E (s : Nat) (M : zm_I) : Prop := (M.1 6 s).toInt ≤ 0 ∧ (M.1 7 (7 * s + 4)).toInt = 0 ∧ (M.1 7 (7 * s + 5)).toInt = 0
def zq_F (s : Nat) (M : zm_I) : Prop := 1 ≤ (M.1 7 (7 * s + 2)).toInt ∧ (M.1 7 (7 * s + 2)).toInt ≤ 30
/-- each slot of the reference is empty, or told -/
def zq_P (M : zm_I) : Prop := ∀ s, s < 4 → zq_E s M ∨ zq_F s M
def zq_kp (W : zt_W) (s : Nat) : Bool := !zt_hit W 6 s && !zt_hit W 7 (7 * s + 2) && !zt_hit W 7 (7 * s + 4) && !zt_hit W 7 (7 * s + 5)
theorem zq_kp_ok {W : zt_W} {s : Nat} {M N : zm_I} (h : zq_kp W s = true) (hf : zt_fr W M N) (hP : zq_E s M ∨ zq_F s M) : zq_E s N ∨ zq_F s N := by
  simp only [zq_kp, Bool.and_eq_true, Bool.not_eq_true'] at h
  obtain ⟨⟨⟨h1, h2⟩, h3⟩, h4⟩ := h
  unfold zq_E zq_F
  rw [(hf _ _ h1).1, (hf _ _ h2).1, (hf _ _ h3).1, (hf _ _ h4).1]
  exact hP
def zq_kps (W : zt_W) : Bool := (List.range 4).all (zq_kp W)
theorem zq_kps_ok {W : zt_W} {M N : zm_I} (h : zq_kps W = true) (hf : zt_fr W M N) (hP : zq_P M) : zq_P N := fun s hs => zq_kp_ok (List.all_eq_true.mp h s (List.mem_range.mpr hs)) hf (hP s hs)
def zq_o (cs : List zt_C) (s : Nat) : Bool := (zt_subC cs ((1, 6, s), .negSucc 2147483647, .ofNat 0) && zt_subC cs ((1, 7, 7 * s + 4), .ofNat 0, .ofNat 0) && zt_subC cs ((1, 7, 7 * s + 5), .ofNat 0, .ofNat 0)) || zt_subC cs ((1, 7, 7 * s + 2), .ofNat 1, .ofNat 30)
theorem zq_o_ok {cs : List zt_C} {s : Nat} {N : zm_I} (h : zq_o cs s = true) (hc : ∀ c ∈ cs, zt_cs [] N c) : zq_E s N ∨ zq_F s N := by
  simp only [zq_o, Bool.or_eq_true, Bool.and_eq_true] at h
  rcases h with ⟨⟨h1, h2⟩, h3⟩ | h
  · have e1 : _ ∧ (N.1 6 s).toInt ≤ 0 := zt_subC_ok h1 hc
    have e2 : 0 ≤ (N.1 7 (7 * s + 4)).toInt ∧ (N.1 7 (7 * s + 4)).toInt ≤ 0 := zt_subC_ok h2 hc
    have e3 : 0 ≤ (N.1 7 (7 * s + 5)).toInt ∧ (N.1 7 (7 * s + 5)).toInt ≤ 0 := zt_subC_ok h3 hc
    exact Or.inl ⟨e1.2, by omega, by omega⟩
  · have e1 : 1 ≤ (N.1 7 (7 * s + 2)).toInt ∧ (N.1 7 (7 * s + 2)).toInt ≤ 30 := zt_subC_ok h hc
    exact Or.inr e1
def zq_i (O : List zt_O) : Bool := O.all (fun o => match o.1 with
  | some a => Nat.beq a.1 0
  | none => false)
def zq_j (O : List zt_O) : Bool := O.all (fun o => match o.1 with
  | some a => Nat.beq a.1 1 || Nat.beq a.1 5
  | none => false)
theorem zq_i_ok {O : List zt_O} (h : zq_i O = true) {as : List Value} {v : Option Value} {N : zm_I} {o : zt_O} (ho : o ∈ O) (hr : zt_res1 (zo_Rel 0) as v N o) : ∃ x : Int32, v = some (.int x) := by
  have h1 := List.all_eq_true.mp h o ho
  obtain ⟨o1, o2⟩ := o
  have hr1 := hr.1
  cases o1 with
  | none => cases h1
  | some a =>
    have h1 : Nat.beq a.1 0 = true := h1
    obtain ⟨w, hw, hv⟩ := hr1
    obtain ⟨x, hx, -⟩ := zt_v_int hv (Nat.eq_of_beq_eq_true h1)
    exact ⟨x, by rw [hw, hx]⟩
theorem zq_j_ok {O : List zt_O} (h : zq_j O = true) {as : List Value} {v : Option Value} {N : zm_I} {o : zt_O} (ho : o ∈ O) (hr : zt_res1 (zo_Rel 0) as v N o) : ∃ x : Int64, v = some (.long x) := by
  have h1 := List.all_eq_true.mp h o ho
  obtain ⟨o1, o2⟩ := o
  have hr1 := hr.1
  cases o1 with
  | none => cases h1
  | some a =>
    have h1 : (Nat.beq a.1 1 || Nat.beq a.1 5) = true := h1
    rw [Bool.or_eq_true] at h1
    obtain ⟨w, hw, hv⟩ := hr1
    rcases h1 with h1 | h1
    · obtain ⟨x, hx, -⟩ := zt_v_long hv (Nat.eq_of_beq_eq_true h1)
      exact ⟨x, by rw [hw, hx]⟩
    · obtain ⟨x, hx, -⟩ := zt_v_nz hv (Nat.eq_of_beq_eq_true h1)
      exact ⟨x, by rw [hw, hx]⟩
abbrev zq_K : Type := Nat × (List zt_A × List zt_C × List Nat) × zt_W × List zt_O
theorem zp_get {K : zq_K} {F : zm_L → List Value → zm_I → zm_R} {w0 : zm_L} {G : zt_G} (hcon : zt_Con zo_Om (zo_Rel 0) (zo_hd, K) F) (hOm : zo_Om[K.1]? = some (w0, G)) (hf : K.2.1.2.2 = []) {as : List Value} {M : zm_I} (hs : zt_sts [] M (fun _ => 0) K.2.1.1 as) (hp : ∀ c ∈ K.2.1.2.1, zt_cs (zm_sl as) M c) (hG : zt_Gs G M) : ∃ v N, F w0 as M = some (v, N) ∧ zt_Gs G N ∧ zt_fr K.2.2.1 M N ∧ ∃ o ∈ K.2.2.2, zt_res1 (zo_Rel 0) as v N o := hcon w0 G hOm w0 as M ⟨rfl, fun _ _ h _ => h⟩ hs hp (fun f h => by rw [show (zo_hd, K).2.2.1.2.2 = [] from hf] at h; cases h) hG
theorem zp_i {K : zq_K} {F : zm_L → List Value → zm_I → zm_R} {w0 : zm_L} {G : zt_G} (hcon : zt_Con zo_Om (zo_Rel 0) (zo_hd, K) F) (hOm : zo_Om[K.1]? = some (w0, G)) (hf : K.2.1.2.2 = []) (hi : zq_i K.2.2.2 = true) {as : List Value} {M : zm_I} (hs : zt_sts [] M (fun _ => 0) K.2.1.1 as) (hp : ∀ c ∈ K.2.1.2.1, zt_cs (zm_sl as) M c) (hG : zt_Gs G M) : ∃ (x : Int32) (N : zm_I), F w0 as M = some (some (.int x), N) ∧ zt_Gs G N ∧ zt_fr K.2.2.1 M N ∧ ∃ o ∈ K.2.2.2, zt_res1 (zo_Rel 0) as (some (.int x)) N o := by
  obtain ⟨v, N, h1, h2, h3, o, h4, h5⟩ := zp_get hcon hOm hf hs hp hG
  obtain ⟨x, rfl⟩ := zq_i_ok hi h4 h5
  exact ⟨x, N, h1, h2, h3, o, h4, h5⟩
theorem zp_j {K : zq_K} {F : zm_L → List Value → zm_I → zm_R} {w0 : zm_L} {G : zt_G} (hcon : zt_Con zo_Om (zo_Rel 0) (zo_hd, K) F) (hOm : zo_Om[K.1]? = some (w0, G)) (hf : K.2.1.2.2 = []) (hi : zq_j K.2.2.2 = true) {as : List Value} {M : zm_I} (hs : zt_sts [] M (fun _ => 0) K.2.1.1 as) (hp : ∀ c ∈ K.2.1.2.1, zt_cs (zm_sl as) M c) (hG : zt_Gs G M) : ∃ (x : Int64) (N : zm_I), F w0 as M = some (some (.long x), N) ∧ zt_Gs G N ∧ zt_fr K.2.2.1 M N ∧ ∃ o ∈ K.2.2.2, zt_res1 (zo_Rel 0) as (some (.long x)) N o := by
  obtain ⟨v, N, h1, h2, h3, o, h4, h5⟩ := zp_get hcon hOm hf hs hp hG
  obtain ⟨x, rfl⟩ := zq_j_ok hi h4 h5
  exact ⟨x, N, h1, h2, h3, o, h4, h5⟩
theorem zq_c1 {ls : List (Option Value)} {M : zm_I} {n i : Nat} {lo hi : Int} (h1 : lo ≤ (M.1 n i).toInt) (h2 : (M.1 n i).toInt ≤ hi) : zt_cs ls M ((1, n, i), lo, hi) := ⟨h1, h2⟩
theorem zq_ca {α : Type} {P : α → Prop} {a : α} {l : List α} (h1 : P a) (h2 : ∀ x ∈ l, P x) : ∀ x ∈ a :: l, P x := List.forall_mem_cons.mpr ⟨h1, h2⟩
theorem zq_fa {W V : zt_W} {M N : zm_I} (h : zt_fr W M N) : zt_fr (W ++ V) M N := fun n i hh => h n i (by
  have hh : (W ++ V).any _ = false := hh
  rw [List.any_append, Bool.or_eq_false_iff] at hh
  exact hh.1)
theorem zq_fb {W V : zt_W} {M N : zm_I} (h : zt_fr V M N) : zt_fr (W ++ V) M N := fun n i hh => h n i (by
  have hh : (W ++ V).any _ = false := hh
  rw [List.any_append, Bool.or_eq_false_iff] at hh
  exact hh.2)
theorem zq_r0 {ls : List (Option Value)} {M : zm_I} {s : Nat → Int} {n : Nat} : zt_v ls M s (zjr n) (.ref n) := rfl
theorem zq_s0 {ls : List (Option Value)} {M : zm_I} {s : Nat → Int} : zt_sts ls M s [] [] := trivial
theorem zq_s1 {ls : List (Option Value)} {M : zm_I} {s : Nat → Int} {a : zt_A} {as : List zt_A} {v : Value} {vs : List Value} (h1 : zt_v ls M s a v) (h2 : zt_sts ls M s as vs) : zt_sts ls M s (a :: as) (v :: vs) := ⟨h1, h2⟩
section ZQP
variable {M : zm_I}
theorem zp_X9_feed (hG : zt_Gs zo_g1 M) (a0 : Int32) (a1 : Int32) (a2 : Int32) (a3 : Int32) (a4 : Int32) : ∃ (x : Int32) (N : zm_I), zF_X9_feed zW_X [.ref 0, .int a0, .int a1, .int a2, .int a3, .int a4] M = some (some (.int x), N) ∧ zt_Gs zo_g1 N ∧ zt_fr zi_2_K.2.2.1 M N := by
  obtain ⟨x, N, h1, h2, h3, -⟩ := zp_i (w0 := zW_X) (G := zo_g1) (zi_2 0 zo_hd) rfl rfl rfl (zq_s1 zq_r0 (zq_s1 (zt_v_top a0) (zq_s1 (zt_v_top a1) (zq_s1 (zt_v_top a2) (zq_s1 (zt_v_top a3) (zq_s1 (zt_v_top a4) zq_s0)))))) zh_no hG
  exact ⟨x, N, h1, h2, h3⟩
theorem zp_X9_end (hG : zt_Gs zo_g1 M) (a0 : Int32) : ∃ (x : Int32) (N : zm_I), zF_X9_end zW_X [.ref 0, .int a0] M = some (some (.int x), N) ∧ zt_Gs zo_g1 N ∧ zt_fr zi_3_K.2.2.1 M N := by
  obtain ⟨x, N, h1, h2, h3, -⟩ := zp_i (w0 := zW_X) (G := zo_g1) (zi_3 0 zo_hd) rfl rfl rfl (zq_s1 zq_r0 (zq_s1 (zt_v_top a0) zq_s0)) zh_no hG
  exact ⟨x, N, h1, h2, h3⟩
theorem zp_X9_bench (hG : zt_Gs zo_g1 M) : ∃ (x : Int32) (N : zm_I), zF_X9_bench zW_X [.ref 0] M = some (some (.int x), N) ∧ zt_Gs zo_g1 N ∧ zt_fr zi_55_K.2.2.1 M N := by
  obtain ⟨x, N, h1, h2, h3, -⟩ := zp_i (w0 := zW_X) (G := zo_g1) (zi_55 0 zo_hd) rfl rfl rfl (zq_s1 zq_r0 zq_s0) zh_no hG
  exact ⟨x, N, h1, h2, h3⟩
theorem zp_X9_fault (hG : zt_Gs zo_g1 M) (a0 : Int32) : ∃ (x : Int32) (N : zm_I), zF_X9_fault zW_X [.ref 0, .int a0] M = some (some (.int x), N) ∧ zt_Gs zo_g1 N ∧ zt_fr zi_56_K.2.2.1 M N := by
  obtain ⟨x, N, h1, h2, h3, -⟩ := zp_i (w0 := zW_X) (G := zo_g1) (zi_56 0 zo_hd) rfl rfl rfl (zq_s1 zq_r0 (zq_s1 (zt_v_top a0) zq_s0)) zh_no hG
  exact ⟨x, N, h1, h2, h3⟩
theorem zp_X9_seat (hG : zt_Gs zo_g1 M) (a0 : Int32) : ∃ (x : Int32) (N : zm_I), zF_X9_seat zW_X [.ref 0, .int a0] M = some (some (.int x), N) ∧ zt_Gs zo_g1 N ∧ zt_fr zi_58_K.2.2.1 M N := by
  obtain ⟨x, N, h1, h2, h3, -⟩ := zp_i (w0 := zW_X) (G := zo_g1) (zi_58 0 zo_hd) rfl rfl rfl (zq_s1 zq_r0 (zq_s1 (zt_v_top a0) zq_s0)) zh_no hG
  exact ⟨x, N, h1, h2, h3⟩
theorem zp_X9_caller (hG : zt_Gs zo_g1 M) (a0 : Int32) (a1 : Int32) : ∃ (x : Int32) (N : zm_I), zF_X9_caller zW_X [.ref 0, .int a0, .int a1] M = some (some (.int x), N) ∧ zt_Gs zo_g1 N ∧ zt_fr zi_60_K.2.2.1 M N := by
  obtain ⟨x, N, h1, h2, h3, -⟩ := zp_i (w0 := zW_X) (G := zo_g1) (zi_60 0 zo_hd) rfl rfl rfl (zq_s1 zq_r0 (zq_s1 (zt_v_top a0) (zq_s1 (zt_v_top a1) zq_s0))) zh_no hG
  exact ⟨x, N, h1, h2, h3⟩
theorem zp_X9_age (hG : zt_Gs zo_g1 M) (a0 : Int32) (a1 : Int32) : ∃ (x : Int32) (N : zm_I), zF_X9_age zW_X [.ref 0, .int a0, .int a1] M = some (some (.int x), N) ∧ zt_Gs zo_g1 N ∧ zt_fr zi_80_K.2.2.1 M N := by
  obtain ⟨x, N, h1, h2, h3, -⟩ := zp_i (w0 := zW_X) (G := zo_g1) (zi_80 0 zo_hd) rfl rfl rfl (zq_s1 zq_r0 (zq_s1 (zt_v_top a0) (zq_s1 (zt_v_top a1) zq_s0))) zh_no hG
  exact ⟨x, N, h1, h2, h3⟩
theorem zp_X9_sits (hG : zt_Gs zo_g1 M) (a0 : Int32) (a1 : Int32) : ∃ (x : Int32) (N : zm_I), zF_X9_sits zW_X [.ref 0, .int a0, .int a1] M = some (some (.int x), N) ∧ zt_Gs zo_g1 N ∧ zt_fr zi_82_K.2.2.1 M N := by
  obtain ⟨x, N, h1, h2, h3, -⟩ := zp_i (w0 := zW_X) (G := zo_g1) (zi_82 0 zo_hd) rfl rfl rfl (zq_s1 zq_r0 (zq_s1 (zt_v_top a0) (zq_s1 (zt_v_top a1) zq_s0))) zh_no hG
  exact ⟨x, N, h1, h2, h3⟩
theorem zp_X9_stands (hG : zt_Gs zo_g1 M) (a0 : Int32) : ∃ (x : Int32) (N : zm_I), zF_X9_stands zW_X [.ref 0, .int a0] M = some (some (.int x), N) ∧ zt_Gs zo_g1 N ∧ zt_fr zi_87_K.2.2.1 M N := by
  obtain ⟨x, N, h1, h2, h3, -⟩ := zp_i (w0 := zW_X) (G := zo_g1) (zi_87 0 zo_hd) rfl rfl rfl (zq_s1 zq_r0 (zq_s1 (zt_v_top a0) zq_s0)) zh_no hG
  exact ⟨x, N, h1, h2, h3⟩
theorem zp_X9_free (hG : zt_Gs zo_g1 M) (a0 : Int32) : ∃ (x : Int32) (N : zm_I), zF_X9_free zW_X [.ref 0, .int a0] M = some (some (.int x), N) ∧ zt_Gs zo_g1 N ∧ zt_fr zi_88_K.2.2.1 M N := by
  obtain ⟨x, N, h1, h2, h3, -⟩ := zp_i (w0 := zW_X) (G := zo_g1) (zi_88 0 zo_hd) rfl rfl rfl (zq_s1 zq_r0 (zq_s1 (zt_v_top a0) zq_s0)) zh_no hG
  exact ⟨x, N, h1, h2, h3⟩
theorem zp_X9_goes (hG : zt_Gs zo_g1 M) (a0 : Int32) : ∃ (x : Int32) (N : zm_I), zF_X9_goes zW_X [.ref 0, .int a0] M = some (some (.int x), N) ∧ zt_Gs zo_g1 N ∧ zt_fr zi_89_K.2.2.1 M N := by
  obtain ⟨x, N, h1, h2, h3, -⟩ := zp_i (w0 := zW_X) (G := zo_g1) (zi_89 0 zo_hd) rfl rfl rfl (zq_s1 zq_r0 (zq_s1 (zt_v_top a0) zq_s0)) zh_no hG
  exact ⟨x, N, h1, h2, h3⟩
theorem zp_X9_called (hG : zt_Gs zo_g1 M) (a0 : Int32) : ∃ (x : Int32) (N : zm_I), zF_X9_called zW_X [.ref 0, .int a0] M = some (some (.int x), N) ∧ zt_Gs zo_g1 N ∧ zt_fr zi_90_K.2.2.1 M N := by
  obtain ⟨x, N, h1, h2, h3, -⟩ := zp_i (w0 := zW_X) (G := zo_g1) (zi_90 0 zo_hd) rfl rfl rfl (zq_s1 zq_r0 (zq_s1 (zt_v_top a0) zq_s0)) zh_no hG
  exact ⟨x, N, h1, h2, h3⟩
theorem zp_X9_ends (hG : zt_Gs zo_g1 M) (a0 : Int32) : ∃ (x : Int32) (N : zm_I), zF_X9_ends zW_X [.ref 0, .int a0] M = some (some (.int x), N) ∧ zt_Gs zo_g1 N ∧ zt_fr zi_92_K.2.2.1 M N := by
  obtain ⟨x, N, h1, h2, h3, -⟩ := zp_i (w0 := zW_X) (G := zo_g1) (zi_92 0 zo_hd) rfl rfl rfl (zq_s1 zq_r0 (zq_s1 (zt_v_top a0) zq_s0)) zh_no hG
  exact ⟨x, N, h1, h2, h3⟩
theorem zp_X9_told (hG : zt_Gs zo_g1 M) : ∃ (x : Int32) (N : zm_I), zF_X9_told zW_X [.ref 0] M = some (some (.int x), N) ∧ zt_Gs zo_g1 N ∧ zt_fr zi_94_K.2.2.1 M N := by
  obtain ⟨x, N, h1, h2, h3, -⟩ := zp_i (w0 := zW_X) (G := zo_g1) (zi_94 0 zo_hd) rfl rfl rfl (zq_s1 zq_r0 zq_s0) zh_no hG
  exact ⟨x, N, h1, h2, h3⟩
theorem zp_X9_forgotten (hG : zt_Gs zo_g1 M) : ∃ (x : Int32) (N : zm_I), zF_X9_forgotten zW_X [.ref 0] M = some (some (.int x), N) ∧ zt_Gs zo_g1 N ∧ zt_fr zi_96_K.2.2.1 M N := by
  obtain ⟨x, N, h1, h2, h3, -⟩ := zp_i (w0 := zW_X) (G := zo_g1) (zi_96 0 zo_hd) rfl rfl rfl (zq_s1 zq_r0 zq_s0) zh_no hG
  exact ⟨x, N, h1, h2, h3⟩
theorem zp_X9_gun (hG : zt_Gs zo_g1 M) : ∃ (x : Int32) (N : zm_I), zF_X9_gun zW_X [.ref 0] M = some (some (.int x), N) ∧ zt_Gs zo_g1 N ∧ zt_fr zi_97_K.2.2.1 M N := by
  obtain ⟨x, N, h1, h2, h3, -⟩ := zp_i (w0 := zW_X) (G := zo_g1) (zi_97 0 zo_hd) rfl rfl rfl (zq_s1 zq_r0 zq_s0) zh_no hG
  exact ⟨x, N, h1, h2, h3⟩
theorem zp_X9_waits (hG : zt_Gs zo_g1 M) (a0 : Int32) : ∃ (x : Int32) (N : zm_I), zF_X9_waits zW_X [.ref 0, .int a0] M = some (some (.int x), N) ∧ zt_Gs zo_g1 N ∧ zt_fr zi_98_K.2.2.1 M N := by
  obtain ⟨x, N, h1, h2, h3, -⟩ := zp_i (w0 := zW_X) (G := zo_g1) (zi_98 0 zo_hd) rfl rfl rfl (zq_s1 zq_r0 (zq_s1 (zt_v_top a0) zq_s0)) zh_no hG
  exact ⟨x, N, h1, h2, h3⟩
theorem zp_X9_worn (hG : zt_Gs zo_g1 M) (a0 : Int32) (a1 : Int32) : ∃ (x : Int32) (N : zm_I), zF_X9_worn zW_X [.ref 0, .int a0, .int a1] M = some (some (.int x), N) ∧ zt_Gs zo_g1 N ∧ zt_fr zi_100_K.2.2.1 M N := by
  obtain ⟨x, N, h1, h2, h3, -⟩ := zp_i (w0 := zW_X) (G := zo_g1) (zi_100 0 zo_hd) rfl rfl rfl (zq_s1 zq_r0 (zq_s1 (zt_v_top a0) (zq_s1 (zt_v_top a1) zq_s0))) zh_no hG
  exact ⟨x, N, h1, h2, h3⟩
theorem zp_X9_dip (hG : zt_Gs zo_g1 M) (a0 : Int32) : ∃ (x : Int32) (N : zm_I), zF_X9_dip zW_X [.ref 0, .int a0] M = some (some (.int x), N) ∧ zt_Gs zo_g1 N ∧ zt_fr zi_102_K.2.2.1 M N := by
  obtain ⟨x, N, h1, h2, h3, -⟩ := zp_i (w0 := zW_X) (G := zo_g1) (zi_102 0 zo_hd) rfl rfl rfl (zq_s1 zq_r0 (zq_s1 (zt_v_top a0) zq_s0)) zh_no hG
  exact ⟨x, N, h1, h2, h3⟩
theorem zp_X9_deepest (hG : zt_Gs zo_g1 M) : ∃ (x : Int32) (N : zm_I), zF_X9_deepest zW_X [.ref 0] M = some (some (.int x), N) ∧ zt_Gs zo_g1 N ∧ zt_fr zi_104_K.2.2.1 M N := by
  obtain ⟨x, N, h1, h2, h3, -⟩ := zp_i (w0 := zW_X) (G := zo_g1) (zi_104 0 zo_hd) rfl rfl rfl (zq_s1 zq_r0 zq_s0) zh_no hG
  exact ⟨x, N, h1, h2, h3⟩
theorem zp_X9_youngest (hG : zt_Gs zo_g1 M) (a0 : Int32) : ∃ (x : Int32) (N : zm_I), zF_X9_youngest zW_X [.ref 0, .int a0] M = some (some (.int x), N) ∧ zt_Gs zo_g1 N ∧ zt_fr zi_106_K.2.2.1 M N := by
  obtain ⟨x, N, h1, h2, h3, -⟩ := zp_i (w0 := zW_X) (G := zo_g1) (zi_106 0 zo_hd) rfl rfl rfl (zq_s1 zq_r0 (zq_s1 (zt_v_top a0) zq_s0)) zh_no hG
  exact ⟨x, N, h1, h2, h3⟩
theorem zp_X9_oldest (hG : zt_Gs zo_g1 M) (a0 : Int32) : ∃ (x : Int32) (N : zm_I), zF_X9_oldest zW_X [.ref 0, .int a0] M = some (some (.int x), N) ∧ zt_Gs zo_g1 N ∧ zt_fr zi_107_K.2.2.1 M N := by
  obtain ⟨x, N, h1, h2, h3, -⟩ := zp_i (w0 := zW_X) (G := zo_g1) (zi_107 0 zo_hd) rfl rfl rfl (zq_s1 zq_r0 (zq_s1 (zt_v_top a0) zq_s0)) zh_no hG
  exact ⟨x, N, h1, h2, h3⟩
theorem zp_X9_meets (hG : zt_Gs zo_g1 M) (a0 : Int32) (a1 : Int32) : ∃ (x : Int32) (N : zm_I), zF_X9_meets zW_X [.ref 0, .int a0, .int a1] M = some (some (.int x), N) ∧ zt_Gs zo_g1 N ∧ zt_fr zi_109_K.2.2.1 M N := by
  obtain ⟨x, N, h1, h2, h3, -⟩ := zp_i (w0 := zW_X) (G := zo_g1) (zi_109 0 zo_hd) rfl rfl rfl (zq_s1 zq_r0 (zq_s1 (zt_v_top a0) (zq_s1 (zt_v_top a1) zq_s0))) zh_no hG
  exact ⟨x, N, h1, h2, h3⟩
theorem zp_X9_ripe (hG : zt_Gs zo_g1 M) (a0 : Int32) : ∃ (x : Int32) (N : zm_I), zF_X9_ripe zW_X [.ref 0, .int a0] M = some (some (.int x), N) ∧ zt_Gs zo_g1 N ∧ zt_fr zi_112_K.2.2.1 M N := by
  obtain ⟨x, N, h1, h2, h3, -⟩ := zp_i (w0 := zW_X) (G := zo_g1) (zi_112 0 zo_hd) rfl rfl rfl (zq_s1 zq_r0 (zq_s1 (zt_v_top a0) zq_s0)) zh_no hG
  exact ⟨x, N, h1, h2, h3⟩
theorem zp_X9_window (hG : zt_Gs zo_g1 M) (a0 : Int32) : ∃ (x : Int32) (N : zm_I), zF_X9_window zW_X [.ref 0, .int a0] M = some (some (.int x), N) ∧ zt_Gs zo_g1 N ∧ zt_fr zi_113_K.2.2.1 M N := by
  obtain ⟨x, N, h1, h2, h3, -⟩ := zp_i (w0 := zW_X) (G := zo_g1) (zi_113 0 zo_hd) rfl rfl rfl (zq_s1 zq_r0 (zq_s1 (zt_v_top a0) zq_s0)) zh_no hG
  exact ⟨x, N, h1, h2, h3⟩
theorem zp_X9_misses (hG : zt_Gs zo_g1 M) (a0 : Int32) : ∃ (x : Int32) (N : zm_I), zF_X9_misses zW_X [.ref 0, .int a0] M = some (some (.int x), N) ∧ zt_Gs zo_g1 N ∧ zt_fr zi_114_K.2.2.1 M N := by
  obtain ⟨x, N, h1, h2, h3, -⟩ := zp_i (w0 := zW_X) (G := zo_g1) (zi_114 0 zo_hd) rfl rfl rfl (zq_s1 zq_r0 (zq_s1 (zt_v_top a0) zq_s0)) zh_no hG
  exact ⟨x, N, h1, h2, h3⟩
theorem zp_X9_grown (hG : zt_Gs zo_g1 M) (a0 : Int32) : ∃ (x : Int32) (N : zm_I), zF_X9_grown zW_X [.ref 0, .int a0] M = some (some (.int x), N) ∧ zt_Gs zo_g1 N ∧ zt_fr zi_115_K.2.2.1 M N := by
  obtain ⟨x, N, h1, h2, h3, -⟩ := zp_i (w0 := zW_X) (G := zo_g1) (zi_115 0 zo_hd) rfl rfl rfl (zq_s1 zq_r0 (zq_s1 (zt_v_top a0) zq_s0)) zh_no hG
  exact ⟨x, N, h1, h2, h3⟩
theorem zp_X9_beside (hG : zt_Gs zo_g1 M) (a0 : Int32) (a1 : Int32) : ∃ (x : Int32) (N : zm_I), zF_X9_beside zW_X [.ref 0, .int a0, .int a1] M = some (some (.int x), N) ∧ zt_Gs zo_g1 N ∧ zt_fr zi_116_K.2.2.1 M N := by
  obtain ⟨x, N, h1, h2, h3, -⟩ := zp_i (w0 := zW_X) (G := zo_g1) (zi_116 0 zo_hd) rfl rfl rfl (zq_s1 zq_r0 (zq_s1 (zt_v_top a0) (zq_s1 (zt_v_top a1) zq_s0))) zh_no hG
  exact ⟨x, N, h1, h2, h3⟩
theorem zp_X9_crowd (hG : zt_Gs zo_g1 M) : ∃ (x : Int32) (N : zm_I), zF_X9_crowd zW_X [.ref 0] M = some (some (.int x), N) ∧ zt_Gs zo_g1 N ∧ zt_fr zi_117_K.2.2.1 M N := by
  obtain ⟨x, N, h1, h2, h3, -⟩ := zp_i (w0 := zW_X) (G := zo_g1) (zi_117 0 zo_hd) rfl rfl rfl (zq_s1 zq_r0 zq_s0) zh_no hG
  exact ⟨x, N, h1, h2, h3⟩
theorem zp_X9_next (hG : zt_Gs zo_g1 M) (a0 : Int32) : ∃ (x : Int32) (N : zm_I), zF_X9_next zW_X [.ref 0, .int a0] M = some (some (.int x), N) ∧ zt_Gs zo_g1 N ∧ zt_fr zi_118_K.2.2.1 M N := by
  obtain ⟨x, N, h1, h2, h3, -⟩ := zp_i (w0 := zW_X) (G := zo_g1) (zi_118 0 zo_hd) rfl rfl rfl (zq_s1 zq_r0 (zq_s1 (zt_v_top a0) zq_s0)) zh_no hG
  exact ⟨x, N, h1, h2, h3⟩
theorem zp_X9_years (hG : zt_Gs zo_g1 M) (a0 : Int32) : ∃ (x : Int32) (N : zm_I), zF_X9_years zW_X [.ref 0, .int a0] M = some (some (.int x), N) ∧ zt_Gs zo_g1 N ∧ zt_fr zi_119_K.2.2.1 M N := by
  obtain ⟨x, N, h1, h2, h3, -⟩ := zp_i (w0 := zW_X) (G := zo_g1) (zi_119 0 zo_hd) rfl rfl rfl (zq_s1 zq_r0 (zq_s1 (zt_v_top a0) zq_s0)) zh_no hG
  exact ⟨x, N, h1, h2, h3⟩
theorem zp_X9_last (hG : zt_Gs zo_g1 M) : ∃ (x : Int32) (N : zm_I), zF_X9_last zW_X [.ref 0] M = some (some (.int x), N) ∧ zt_Gs zo_g1 N ∧ zt_fr zi_120_K.2.2.1 M N := by
  obtain ⟨x, N, h1, h2, h3, -⟩ := zp_i (w0 := zW_X) (G := zo_g1) (zi_120 0 zo_hd) rfl rfl rfl (zq_s1 zq_r0 zq_s0) zh_no hG
  exact ⟨x, N, h1, h2, h3⟩
theorem zp_X9_twins (hG : zt_Gs zo_g1 M) (a0 : Int32) : ∃ (x : Int32) (N : zm_I), zF_X9_twins zW_X [.ref 0, .int a0] M = some (some (.int x), N) ∧ zt_Gs zo_g1 N ∧ zt_fr zi_121_K.2.2.1 M N := by
  obtain ⟨x, N, h1, h2, h3, -⟩ := zp_i (w0 := zW_X) (G := zo_g1) (zi_121 0 zo_hd) rfl rfl rfl (zq_s1 zq_r0 (zq_s1 (zt_v_top a0) zq_s0)) zh_no hG
  exact ⟨x, N, h1, h2, h3⟩
theorem zp_X9_opens (hG : zt_Gs zo_g1 M) (a0 : Int32) : ∃ (x : Int32) (N : zm_I), zF_X9_opens zW_X [.ref 0, .int a0] M = some (some (.int x), N) ∧ zt_Gs zo_g1 N ∧ zt_fr zi_122_K.2.2.1 M N := by
  obtain ⟨x, N, h1, h2, h3, -⟩ := zp_i (w0 := zW_X) (G := zo_g1) (zi_122 0 zo_hd) rfl rfl rfl (zq_s1 zq_r0 (zq_s1 (zt_v_top a0) zq_s0)) zh_no hG
  exact ⟨x, N, h1, h2, h3⟩
theorem zp_X9_without (hG : zt_Gs zo_g1 M) (a0 : Int32) : ∃ (x : Int32) (N : zm_I), zF_X9_without zW_X [.ref 0, .int a0] M = some (some (.int x), N) ∧ zt_Gs zo_g1 N ∧ zt_fr zi_125_K.2.2.1 M N := by
  obtain ⟨x, N, h1, h2, h3, -⟩ := zp_i (w0 := zW_X) (G := zo_g1) (zi_125 0 zo_hd) rfl rfl rfl (zq_s1 zq_r0 (zq_s1 (zt_v_top a0) zq_s0)) zh_no hG
  exact ⟨x, N, h1, h2, h3⟩
theorem zp_X9_helps (hG : zt_Gs zo_g1 M) (a0 : Int32) : ∃ (x : Int32) (N : zm_I), zF_X9_helps zW_X [.ref 0, .int a0] M = some (some (.int x), N) ∧ zt_Gs zo_g1 N ∧ zt_fr zi_126_K.2.2.1 M N := by
  obtain ⟨x, N, h1, h2, h3, -⟩ := zp_i (w0 := zW_X) (G := zo_g1) (zi_126 0 zo_hd) rfl rfl rfl (zq_s1 zq_r0 (zq_s1 (zt_v_top a0) zq_s0)) zh_no hG
  exact ⟨x, N, h1, h2, h3⟩
theorem zp_X9_less (hG : zt_Gs zo_g1 M) (a0 : Int32) : ∃ (x : Int32) (N : zm_I), zF_X9_less zW_X [.ref 0, .int a0] M = some (some (.int x), N) ∧ zt_Gs zo_g1 N ∧ zt_fr zi_127_K.2.2.1 M N := by
  obtain ⟨x, N, h1, h2, h3, -⟩ := zp_i (w0 := zW_X) (G := zo_g1) (zi_127 0 zo_hd) rfl rfl rfl (zq_s1 zq_r0 (zq_s1 (zt_v_top a0) zq_s0)) zh_no hG
  exact ⟨x, N, h1, h2, h3⟩
theorem zp_X9_tuned (hG : zt_Gs zo_g1 M) (a0 : Int32) : ∃ (x : Int32) (N : zm_I), zF_X9_tuned zW_X [.ref 0, .int a0] M = some (some (.int x), N) ∧ zt_Gs zo_g1 N ∧ zt_fr zi_129_K.2.2.1 M N := by
  obtain ⟨x, N, h1, h2, h3, -⟩ := zp_i (w0 := zW_X) (G := zo_g1) (zi_129 0 zo_hd) rfl rfl rfl (zq_s1 zq_r0 (zq_s1 (zt_v_top a0) zq_s0)) zh_no hG
  exact ⟨x, N, h1, h2, h3⟩
theorem zp_X9_moved (hG : zt_Gs zo_g1 M) (a0 : Int32) (a1 : Int32) : ∃ (x : Int32) (N : zm_I), zF_X9_moved zW_X [.ref 0, .int a0, .int a1] M = some (some (.int x), N) ∧ zt_Gs zo_g1 N ∧ zt_fr zi_132_K.2.2.1 M N := by
  obtain ⟨x, N, h1, h2, h3, -⟩ := zp_i (w0 := zW_X) (G := zo_g1) (zi_132 0 zo_hd) rfl rfl rfl (zq_s1 zq_r0 (zq_s1 (zt_v_top a0) (zq_s1 (zt_v_top a1) zq_s0))) zh_no hG
  exact ⟨x, N, h1, h2, h3⟩
theorem zp_X9_suits (hG : zt_Gs zo_g1 M) (a0 : Int32) : ∃ (x : Int32) (N : zm_I), zF_X9_suits zW_X [.ref 0, .int a0] M = some (some (.int x), N) ∧ zt_Gs zo_g1 N ∧ zt_fr zi_133_K.2.2.1 M N := by
  obtain ⟨x, N, h1, h2, h3, -⟩ := zp_i (w0 := zW_X) (G := zo_g1) (zi_133 0 zo_hd) rfl rfl rfl (zq_s1 zq_r0 (zq_s1 (zt_v_top a0) zq_s0)) zh_no hG
  exact ⟨x, N, h1, h2, h3⟩
theorem zp_X9_hour (hG : zt_Gs zo_g1 M) (a0 : Int32) : ∃ (x : Int32) (N : zm_I), zF_X9_hour zW_X [.ref 0, .int a0] M = some (some (.int x), N) ∧ zt_Gs zo_g1 N ∧ zt_fr zi_134_K.2.2.1 M N := by
  obtain ⟨x, N, h1, h2, h3, -⟩ := zp_i (w0 := zW_X) (G := zo_g1) (zi_134 0 zo_hd) rfl rfl rfl (zq_s1 zq_r0 (zq_s1 (zt_v_top a0) zq_s0)) zh_no hG
  exact ⟨x, N, h1, h2, h3⟩
theorem zp_X9_youth (hG : zt_Gs zo_g1 M) (a0 : Int32) : ∃ (x : Int32) (N : zm_I), zF_X9_youth zW_X [.ref 0, .int a0] M = some (some (.int x), N) ∧ zt_Gs zo_g1 N ∧ zt_fr zi_135_K.2.2.1 M N := by
  obtain ⟨x, N, h1, h2, h3, -⟩ := zp_i (w0 := zW_X) (G := zo_g1) (zi_135 0 zo_hd) rfl rfl rfl (zq_s1 zq_r0 (zq_s1 (zt_v_top a0) zq_s0)) zh_no hG
  exact ⟨x, N, h1, h2, h3⟩
theorem zp_X9_best (hG : zt_Gs zo_g1 M) : ∃ (x : Int32) (N : zm_I), zF_X9_best zW_X [.ref 0] M = some (some (.int x), N) ∧ zt_Gs zo_g1 N ∧ zt_fr zi_146_K.2.2.1 M N := by
  obtain ⟨x, N, h1, h2, h3, -⟩ := zp_i (w0 := zW_X) (G := zo_g1) (zi_146 0 zo_hd) rfl rfl rfl (zq_s1 zq_r0 zq_s0) zh_no hG
  exact ⟨x, N, h1, h2, h3⟩
theorem zp_X9_plan (hG : zt_Gs zo_g1 M) (a0 : Int32) : ∃ (x : Int32) (N : zm_I), zF_X9_plan zW_X [.ref 0, .int a0] M = some (some (.int x), N) ∧ zt_Gs zo_g1 N ∧ zt_fr zi_147_K.2.2.1 M N := by
  obtain ⟨x, N, h1, h2, h3, -⟩ := zp_i (w0 := zW_X) (G := zo_g1) (zi_147 0 zo_hd) rfl rfl rfl (zq_s1 zq_r0 (zq_s1 (zt_v_top a0) zq_s0)) zh_no hG
  exact ⟨x, N, h1, h2, h3⟩
theorem zp_X9_ways (hG : zt_Gs zo_g1 M) : ∃ (x : Int32) (N : zm_I), zF_X9_ways zW_X [.ref 0] M = some (some (.int x), N) ∧ zt_Gs zo_g1 N ∧ zt_fr zi_148_K.2.2.1 M N := by
  obtain ⟨x, N, h1, h2, h3, -⟩ := zp_i (w0 := zW_X) (G := zo_g1) (zi_148 0 zo_hd) rfl rfl rfl (zq_s1 zq_r0 zq_s0) zh_no hG
  exact ⟨x, N, h1, h2, h3⟩
theorem zp_X9_every (hG : zt_Gs zo_g1 M) : ∃ (x : Int32) (N : zm_I), zF_X9_every zW_X [.ref 0] M = some (some (.int x), N) ∧ zt_Gs zo_g1 N ∧ zt_fr zi_151_K.2.2.1 M N := by
  obtain ⟨x, N, h1, h2, h3, -⟩ := zp_i (w0 := zW_X) (G := zo_g1) (zi_151 0 zo_hd) rfl rfl rfl (zq_s1 zq_r0 zq_s0) zh_no hG
  exact ⟨x, N, h1, h2, h3⟩
theorem zp_X9_calls (hG : zt_Gs zo_g1 M) : ∃ (x : Int32) (N : zm_I), zF_X9_calls zW_X [.ref 0] M = some (some (.int x), N) ∧ zt_Gs zo_g1 N ∧ zt_fr zi_154_K.2.2.1 M N := by
  obtain ⟨x, N, h1, h2, h3, -⟩ := zp_i (w0 := zW_X) (G := zo_g1) (zi_154 0 zo_hd) rfl rfl rfl (zq_s1 zq_r0 zq_s0) zh_no hG
  exact ⟨x, N, h1, h2, h3⟩
theorem zp_X9_none (hG : zt_Gs zo_g1 M) : ∃ (x : Int32) (N : zm_I), zF_X9_none zW_X [.ref 0] M = some (some (.int x), N) ∧ zt_Gs zo_g1 N ∧ zt_fr zi_155_K.2.2.1 M N := by
  obtain ⟨x, N, h1, h2, h3, -⟩ := zp_i (w0 := zW_X) (G := zo_g1) (zi_155 0 zo_hd) rfl rfl rfl (zq_s1 zq_r0 zq_s0) zh_no hG
  exact ⟨x, N, h1, h2, h3⟩
theorem zp_X9_by (hG : zt_Gs zo_g1 M) (a0 : Int32) : ∃ (x : Int32) (N : zm_I), zF_X9_by zW_X [.ref 0, .int a0] M = some (some (.int x), N) ∧ zt_Gs zo_g1 N ∧ zt_fr zi_156_K.2.2.1 M N := by
  obtain ⟨x, N, h1, h2, h3, -⟩ := zp_i (w0 := zW_X) (G := zo_g1) (zi_156 0 zo_hd) rfl rfl rfl (zq_s1 zq_r0 (zq_s1 (zt_v_top a0) zq_s0)) zh_no hG
  exact ⟨x, N, h1, h2, h3⟩
theorem zp_X9_law (hG : zt_Gs zo_g1 M) : ∃ (x : Int32) (N : zm_I), zF_X9_law zW_X [.ref 0] M = some (some (.int x), N) ∧ zt_Gs zo_g1 N ∧ zt_fr zi_157_K.2.2.1 M N := by
  obtain ⟨x, N, h1, h2, h3, -⟩ := zp_i (w0 := zW_X) (G := zo_g1) (zi_157 0 zo_hd) rfl rfl rfl (zq_s1 zq_r0 zq_s0) zh_no hG
  exact ⟨x, N, h1, h2, h3⟩
theorem zp_X9_laws (hG : zt_Gs zo_g1 M) (a0 : Int32) : ∃ (x : Int32) (N : zm_I), zF_X9_laws zW_X [.ref 0, .int a0] M = some (some (.int x), N) ∧ zt_Gs zo_g1 N ∧ zt_fr zi_168_K.2.2.1 M N := by
  obtain ⟨x, N, h1, h2, h3, -⟩ := zp_i (w0 := zW_X) (G := zo_g1) (zi_168 0 zo_hd) rfl rfl rfl (zq_s1 zq_r0 (zq_s1 (zt_v_top a0) zq_s0)) zh_no hG
  exact ⟨x, N, h1, h2, h3⟩
theorem zp_X9_sat (hG : zt_Gs zo_g1 M) (a0 : Int32) (a1 : Int32) : ∃ (x : Int32) (N : zm_I), zF_X9_sat zW_X [.ref 0, .int a0, .int a1] M = some (some (.int x), N) ∧ zt_Gs zo_g1 N ∧ zt_fr zi_173_K.2.2.1 M N := by
  obtain ⟨x, N, h1, h2, h3, -⟩ := zp_i (w0 := zW_X) (G := zo_g1) (zi_173 0 zo_hd) rfl rfl rfl (zq_s1 zq_r0 (zq_s1 (zt_v_top a0) (zq_s1 (zt_v_top a1) zq_s0))) zh_no hG
  exact ⟨x, N, h1, h2, h3⟩
theorem zp_X9_ask (hG : zt_Gs zo_g1 M) (a0 : Int32) (a1 : Int32) : ∃ (x : Int32) (N : zm_I), zF_X9_ask zW_X [.ref 0, .int a0, .int a1] M = some (some (.int x), N) ∧ zt_Gs zo_g1 N ∧ zt_fr zi_175_K.2.2.1 M N := by
  obtain ⟨x, N, h1, h2, h3, -⟩ := zp_i (w0 := zW_X) (G := zo_g1) (zi_175 0 zo_hd) rfl rfl rfl (zq_s1 zq_r0 (zq_s1 (zt_v_top a0) (zq_s1 (zt_v_top a1) zq_s0))) zh_no hG
  exact ⟨x, N, h1, h2, h3⟩
theorem zp_X9_marks (hG : zt_Gs zo_g1 M) (a0 : Int32) : ∃ (x : Int32) (N : zm_I), zF_X9_marks zW_X [.ref 0, .int a0] M = some (some (.int x), N) ∧ zt_Gs zo_g1 N ∧ zt_fr zi_177_K.2.2.1 M N := by
  obtain ⟨x, N, h1, h2, h3, -⟩ := zp_i (w0 := zW_X) (G := zo_g1) (zi_177 0 zo_hd) rfl rfl rfl (zq_s1 zq_r0 (zq_s1 (zt_v_top a0) zq_s0)) zh_no hG
  exact ⟨x, N, h1, h2, h3⟩
theorem zp_X9_mark (hG : zt_Gs zo_g1 M) (a0 : Int32) (a1 : Int32) : ∃ (x : Int32) (N : zm_I), zF_X9_mark zW_X [.ref 0, .int a0, .int a1] M = some (some (.int x), N) ∧ zt_Gs zo_g1 N ∧ zt_fr zi_178_K.2.2.1 M N := by
  obtain ⟨x, N, h1, h2, h3, -⟩ := zp_i (w0 := zW_X) (G := zo_g1) (zi_178 0 zo_hd) rfl rfl rfl (zq_s1 zq_r0 (zq_s1 (zt_v_top a0) (zq_s1 (zt_v_top a1) zq_s0))) zh_no hG
  exact ⟨x, N, h1, h2, h3⟩
theorem zp_X9_under (hG : zt_Gs zo_g1 M) (a0 : Int32) (a1 : Int32) : ∃ (x : Int32) (N : zm_I), zF_X9_under zW_X [.ref 0, .int a0, .int a1] M = some (some (.int x), N) ∧ zt_Gs zo_g1 N ∧ zt_fr zi_180_K.2.2.1 M N := by
  obtain ⟨x, N, h1, h2, h3, -⟩ := zp_i (w0 := zW_X) (G := zo_g1) (zi_180 0 zo_hd) rfl rfl rfl (zq_s1 zq_r0 (zq_s1 (zt_v_top a0) (zq_s1 (zt_v_top a1) zq_s0))) zh_no hG
  exact ⟨x, N, h1, h2, h3⟩
theorem zp_X9_rests (hG : zt_Gs zo_g1 M) (a0 : Int32) (a1 : Int32) : ∃ (x : Int32) (N : zm_I), zF_X9_rests zW_X [.ref 0, .int a0, .int a1] M = some (some (.int x), N) ∧ zt_Gs zo_g1 N ∧ zt_fr zi_184_K.2.2.1 M N := by
  obtain ⟨x, N, h1, h2, h3, -⟩ := zp_i (w0 := zW_X) (G := zo_g1) (zi_184 0 zo_hd) rfl rfl rfl (zq_s1 zq_r0 (zq_s1 (zt_v_top a0) (zq_s1 (zt_v_top a1) zq_s0))) zh_no hG
  exact ⟨x, N, h1, h2, h3⟩
theorem zp_X9_rest (hG : zt_Gs zo_g1 M) (a0 : Int32) (a1 : Int32) : ∃ (x : Int32) (N : zm_I), zF_X9_rest zW_X [.ref 0, .int a0, .int a1] M = some (some (.int x), N) ∧ zt_Gs zo_g1 N ∧ zt_fr zi_185_K.2.2.1 M N := by
  obtain ⟨x, N, h1, h2, h3, -⟩ := zp_i (w0 := zW_X) (G := zo_g1) (zi_185 0 zo_hd) rfl rfl rfl (zq_s1 zq_r0 (zq_s1 (zt_v_top a0) (zq_s1 (zt_v_top a1) zq_s0))) zh_no hG
  exact ⟨x, N, h1, h2, h3⟩
theorem zp_X9_swaps (hG : zt_Gs zo_g1 M) : ∃ (x : Int32) (N : zm_I), zF_X9_swaps zW_X [.ref 0] M = some (some (.int x), N) ∧ zt_Gs zo_g1 N ∧ zt_fr zi_187_K.2.2.1 M N := by
  obtain ⟨x, N, h1, h2, h3, -⟩ := zp_i (w0 := zW_X) (G := zo_g1) (zi_187 0 zo_hd) rfl rfl rfl (zq_s1 zq_r0 zq_s0) zh_no hG
  exact ⟨x, N, h1, h2, h3⟩
theorem zp_X9_swap (hG : zt_Gs zo_g1 M) : ∃ (x : Int32) (N : zm_I), zF_X9_swap zW_X [.ref 0] M = some (some (.int x), N) ∧ zt_Gs zo_g1 N ∧ zt_fr zi_188_K.2.2.1 M N := by
  obtain ⟨x, N, h1, h2, h3, -⟩ := zp_i (w0 := zW_X) (G := zo_g1) (zi_188 0 zo_hd) rfl rfl rfl (zq_s1 zq_r0 zq_s0) zh_no hG
  exact ⟨x, N, h1, h2, h3⟩
theorem zp_X9_chance (hG : zt_Gs zo_g1 M) (a0 : Int32) (a1 : Int32) (a2 : Int32) : ∃ (x : Int64) (N : zm_I), zF_X9_chance zW_X [.ref 0, .int a0, .int a1, .int a2] M = some (some (.long x), N) ∧ zt_Gs zo_g1 N ∧ zt_fr zi_221_K.2.2.1 M N := by
  obtain ⟨x, N, h1, h2, h3, -⟩ := zp_j (w0 := zW_X) (G := zo_g1) (zi_221 0 zo_hd) rfl rfl rfl (zq_s1 zq_r0 (zq_s1 (zt_v_top a0) (zq_s1 (zt_v_top a1) (zq_s1 (zt_v_top a2) zq_s0)))) zh_no hG
  exact ⟨x, N, h1, h2, h3⟩
theorem zp_X9_luckily (hG : zt_Gs zo_g1 M) (a0 : Int32) (a1 : Int32) (a2 : Int32) : ∃ (x : Int64) (N : zm_I), zF_X9_luckily zW_X [.ref 0, .int a0, .int a1, .int a2] M = some (some (.long x), N) ∧ zt_Gs zo_g1 N ∧ zt_fr zi_223_K.2.2.1 M N := by
  obtain ⟨x, N, h1, h2, h3, -⟩ := zp_j (w0 := zW_X) (G := zo_g1) (zi_223 0 zo_hd) rfl rfl rfl (zq_s1 zq_r0 (zq_s1 (zt_v_top a0) (zq_s1 (zt_v_top a1) (zq_s1 (zt_v_top a2) zq_s0)))) zh_no hG
  exact ⟨x, N, h1, h2, h3⟩
theorem zp_X9_mean (hG : zt_Gs zo_g1 M) (a0 : Int32) (a1 : Int32) : ∃ (x : Int64) (N : zm_I), zF_X9_mean zW_X [.ref 0, .int a0, .int a1] M = some (some (.long x), N) ∧ zt_Gs zo_g1 N ∧ zt_fr zi_225_K.2.2.1 M N := by
  obtain ⟨x, N, h1, h2, h3, -⟩ := zp_j (w0 := zW_X) (G := zo_g1) (zi_225 0 zo_hd) rfl rfl rfl (zq_s1 zq_r0 (zq_s1 (zt_v_top a0) (zq_s1 (zt_v_top a1) zq_s0))) zh_no hG
  exact ⟨x, N, h1, h2, h3⟩
theorem zp_X9_move (hG : zt_Gs zo_g1 M) (a0 : Int32) (a1 : Int32) (a2 : Int32) : ∃ (x : Int32) (N : zm_I), zF_X9_move zW_X [.ref 0, .int a0, .int a1, .int a2] M = some (some (.int x), N) ∧ zt_Gs zo_g1 N ∧ zt_fr zi_226_K.2.2.1 M N := by
  obtain ⟨x, N, h1, h2, h3, -⟩ := zp_i (w0 := zW_X) (G := zo_g1) (zi_226 0 zo_hd) rfl rfl rfl (zq_s1 zq_r0 (zq_s1 (zt_v_top a0) (zq_s1 (zt_v_top a1) (zq_s1 (zt_v_top a2) zq_s0)))) zh_no hG
  exact ⟨x, N, h1, h2, h3⟩
theorem zp_X9_undo (hG : zt_Gs zo_g1 M) : ∃ (x : Int32) (N : zm_I), zF_X9_undo zW_X [.ref 0] M = some (some (.int x), N) ∧ zt_Gs zo_g1 N ∧ zt_fr zi_228_K.2.2.1 M N := by
  obtain ⟨x, N, h1, h2, h3, -⟩ := zp_i (w0 := zW_X) (G := zo_g1) (zi_228 0 zo_hd) rfl rfl rfl (zq_s1 zq_r0 zq_s0) zh_no hG
  exact ⟨x, N, h1, h2, h3⟩
theorem zp_X9_anew (hG : zt_Gs zo_g1 M) : ∃ (x : Int32) (N : zm_I), zF_X9_anew zW_X [.ref 0] M = some (some (.int x), N) ∧ zt_Gs zo_g1 N ∧ zt_fr zi_229_K.2.2.1 M N := by
  obtain ⟨x, N, h1, h2, h3, -⟩ := zp_i (w0 := zW_X) (G := zo_g1) (zi_229 0 zo_hd) rfl rfl rfl (zq_s1 zq_r0 zq_s0) zh_no hG
  exact ⟨x, N, h1, h2, h3⟩
theorem zp_X9_drawn (hG : zt_Gs zo_g1 M) (a0 : Int32) (a1 : Int32) : ∃ (x : Int32) (N : zm_I), zF_X9_drawn zW_X [.ref 0, .int a0, .int a1] M = some (some (.int x), N) ∧ zt_Gs zo_g1 N ∧ zt_fr zi_233_K.2.2.1 M N := by
  obtain ⟨x, N, h1, h2, h3, -⟩ := zp_i (w0 := zW_X) (G := zo_g1) (zi_233 0 zo_hd) rfl rfl rfl (zq_s1 zq_r0 (zq_s1 (zt_v_top a0) (zq_s1 (zt_v_top a1) zq_s0))) zh_no hG
  exact ⟨x, N, h1, h2, h3⟩
theorem zp_X9_luck (hG : zt_Gs zo_g1 M) (a0 : Int32) (a1 : Int32) (a2 : Int32) : ∃ (x : Int32) (N : zm_I), zF_X9_luck zW_X [.ref 0, .int a0, .int a1, .int a2] M = some (some (.int x), N) ∧ zt_Gs zo_g1 N ∧ zt_fr zi_236_K.2.2.1 M N := by
  obtain ⟨x, N, h1, h2, h3, -⟩ := zp_i (w0 := zW_X) (G := zo_g1) (zi_236 0 zo_hd) rfl rfl rfl (zq_s1 zq_r0 (zq_s1 (zt_v_top a0) (zq_s1 (zt_v_top a1) (zq_s1 (zt_v_top a2) zq_s0)))) zh_no hG
  exact ⟨x, N, h1, h2, h3⟩
theorem zp_X9_rate (hG : zt_Gs zo_g1 M) (a0 : Int32) : ∃ (x : Int32) (N : zm_I), zF_X9_rate zW_X [.ref 0, .int a0] M = some (some (.int x), N) ∧ zt_Gs zo_g1 N ∧ zt_fr zi_237_K.2.2.1 M N := by
  obtain ⟨x, N, h1, h2, h3, -⟩ := zp_i (w0 := zW_X) (G := zo_g1) (zi_237 0 zo_hd) rfl rfl rfl (zq_s1 zq_r0 (zq_s1 (zt_v_top a0) zq_s0)) zh_no hG
  exact ⟨x, N, h1, h2, h3⟩
theorem zp_X9_count (hG : zt_Gs zo_g1 M) (a0 : Int32) : ∃ (x : Int32) (N : zm_I), zF_X9_count zW_X [.ref 0, .int a0] M = some (some (.int x), N) ∧ zt_Gs zo_g1 N ∧ zt_fr zi_240_K.2.2.1 M N := by
  obtain ⟨x, N, h1, h2, h3, -⟩ := zp_i (w0 := zW_X) (G := zo_g1) (zi_240 0 zo_hd) rfl rfl rfl (zq_s1 zq_r0 (zq_s1 (zt_v_top a0) zq_s0)) zh_no hG
  exact ⟨x, N, h1, h2, h3⟩
theorem zp_X9_row (hG : zt_Gs zo_g1 M) (a0 : Int32) (a1 : Int32) (a2 : Int32) : ∃ (x : Int32) (N : zm_I), zF_X9_row zW_X [.ref 0, .int a0, .int a1, .int a2] M = some (some (.int x), N) ∧ zt_Gs zo_g1 N ∧ zt_fr zi_243_K.2.2.1 M N := by
  obtain ⟨x, N, h1, h2, h3, -⟩ := zp_i (w0 := zW_X) (G := zo_g1) (zi_243 0 zo_hd) rfl rfl rfl (zq_s1 zq_r0 (zq_s1 (zt_v_top a0) (zq_s1 (zt_v_top a1) (zq_s1 (zt_v_top a2) zq_s0)))) zh_no hG
  exact ⟨x, N, h1, h2, h3⟩
theorem zp_X9_write (hG : zt_Gs zo_g1 M) (a0 : Int32) (a1 : Int32) (a2 : Int64) : ∃ (x : Int32) (N : zm_I), zF_X9_write zW_X [.ref 0, .int a0, .int a1, .long a2] M = some (some (.int x), N) ∧ zt_Gs zo_g1 N ∧ zt_fr zi_245_K.2.2.1 M N := by
  obtain ⟨x, N, h1, h2, h3, -⟩ := zp_i (w0 := zW_X) (G := zo_g1) (zi_245 0 zo_hd) rfl rfl rfl (zq_s1 zq_r0 (zq_s1 (zt_v_top a0) (zq_s1 (zt_v_top a1) (zq_s1 (zt_v_ltop a2) zq_s0)))) zh_no hG
  exact ⟨x, N, h1, h2, h3⟩
theorem zp_X9_paste (hG : zt_Gs zo_g1 M) (a0 : Int32) (a1 : Int32) (a2 : Int32) (a3 : Int32) (a4 : Int32) : ∃ (x : Int32) (N : zm_I), zF_X9_paste zW_X [.ref 0, .int a0, .int a1, .int a2, .int a3, .int a4] M = some (some (.int x), N) ∧ zt_Gs zo_g1 N ∧ zt_fr zi_246_K.2.2.1 M N := by
  obtain ⟨x, N, h1, h2, h3, -⟩ := zp_i (w0 := zW_X) (G := zo_g1) (zi_246 0 zo_hd) rfl rfl rfl (zq_s1 zq_r0 (zq_s1 (zt_v_top a0) (zq_s1 (zt_v_top a1) (zq_s1 (zt_v_top a2) (zq_s1 (zt_v_top a3) (zq_s1 (zt_v_top a4) zq_s0)))))) zh_no hG
  exact ⟨x, N, h1, h2, h3⟩
theorem zp_X10_feed (hG : zt_Gs zo_g22 M) (hP : zq_P M) (a0 : Int32) (a1 : Int32) (a2 : Int32) (a3 : Int32) (a4 : Int32) : ∃ (x : Int32) (N : zm_I), zF_X10_feed zW_M [.ref 0, .int a0, .int a1, .int a2, .int a3, .int a4] M = some (some (.int x), N) ∧ zt_Gs zo_g22 N ∧ zq_P N ∧ zt_fr (zi_252_K.2.2.1 ++ (zi_253_K.2.2.1)) M N := by
  rcases hP 0 (by decide) with h0 | h0
  · obtain ⟨x, N, g1, g2, g3, -⟩ := zp_i (w0 := zW_M) (G := zo_g22) (zi_252 0 zo_hd) rfl rfl rfl (zq_s1 zq_r0 (zq_s1 (zt_v_top a0) (zq_s1 (zt_v_top a1) (zq_s1 (zt_v_top a2) (zq_s1 (zt_v_top a3) (zq_s1 (zt_v_top a4) zq_s0)))))) (zq_ca (zq_c1 (zt_rgI _).1 h0.1) (zq_ca (zq_c1 (Int.le_of_eq h0.2.1.symm) (Int.le_of_eq h0.2.1)) (zq_ca (zq_c1 (Int.le_of_eq h0.2.2.symm) (Int.le_of_eq h0.2.2)) zh_no))) hG
    exact ⟨x, N, g1, g2, zq_kps_ok (by decide) g3 hP, zq_fa g3⟩
  · obtain ⟨x, N, g1, g2, g3, -⟩ := zp_i (w0 := zW_M) (G := zo_g22) (zi_253 0 zo_hd) rfl rfl rfl (zq_s1 zq_r0 (zq_s1 (zt_v_top a0) (zq_s1 (zt_v_top a1) (zq_s1 (zt_v_top a2) (zq_s1 (zt_v_top a3) (zq_s1 (zt_v_top a4) zq_s0)))))) (zq_ca (zq_c1 h0.1 h0.2) zh_no) hG
    exact ⟨x, N, g1, g2, zq_kps_ok (by decide) g3 hP, zq_fb g3⟩
theorem zp_X10_end (hG : zt_Gs zo_g22 M) (hP : zq_P M) (a0 : Int32) : ∃ (x : Int32) (N : zm_I), zF_X10_end zW_M [.ref 0, .int a0] M = some (some (.int x), N) ∧ zt_Gs zo_g22 N ∧ zq_P N ∧ zt_fr (zi_255_K.2.2.1 ++ (zi_256_K.2.2.1)) M N := by
  rcases hP 0 (by decide) with h0 | h0
  · obtain ⟨x, N, g1, g2, g3, -⟩ := zp_i (w0 := zW_M) (G := zo_g22) (zi_255 0 zo_hd) rfl rfl rfl (zq_s1 zq_r0 (zq_s1 (zt_v_top a0) zq_s0)) (zq_ca (zq_c1 (zt_rgI _).1 h0.1) (zq_ca (zq_c1 (Int.le_of_eq h0.2.1.symm) (Int.le_of_eq h0.2.1)) (zq_ca (zq_c1 (Int.le_of_eq h0.2.2.symm) (Int.le_of_eq h0.2.2)) zh_no))) hG
    exact ⟨x, N, g1, g2, zq_kps_ok (by decide) g3 hP, zq_fa g3⟩
  · obtain ⟨x, N, g1, g2, g3, -⟩ := zp_i (w0 := zW_M) (G := zo_g22) (zi_256 0 zo_hd) rfl rfl rfl (zq_s1 zq_r0 (zq_s1 (zt_v_top a0) zq_s0)) (zq_ca (zq_c1 h0.1 h0.2) zh_no) hG
    exact ⟨x, N, g1, g2, zq_kps_ok (by decide) g3 hP, zq_fb g3⟩
theorem zp_X10_bench (hG : zt_Gs zo_g22 M) (hP : zq_P M) : ∃ (x : Int32) (N : zm_I), zF_X10_bench zW_M [.ref 0] M = some (some (.int x), N) ∧ zt_Gs zo_g22 N ∧ zq_P N ∧ zt_fr (zi_376_K.2.2.1 ++ (zi_407_K.2.2.1)) M N := by
  rcases hP 0 (by decide) with h0 | h0
  · obtain ⟨x, N, g1, g2, g3, o, g4, g5⟩ := zp_i (w0 := zW_M) (G := zo_g22) (zi_376 0 zo_hd) rfl rfl rfl (zq_s1 zq_r0 zq_s0) (zq_ca (zq_c1 (zt_rgI _).1 h0.1) (zq_ca (zq_c1 (Int.le_of_eq h0.2.1.symm) (Int.le_of_eq h0.2.1)) (zq_ca (zq_c1 (Int.le_of_eq h0.2.2.symm) (Int.le_of_eq h0.2.2)) zh_no))) hG
    refine ⟨x, N, g1, g2, fun s hs => ?_, zq_fa g3⟩
    by_cases e : s = 0
    · subst e
      exact zq_o_ok (List.all_eq_true.mp (show zi_376_K.2.2.2.all (fun o => zq_o o.2.2.1 0) = true by decide) o g4) g5.2.2.1
    · refine zq_kp_ok (List.all_eq_true.mp (show [1, 2, 3].all (zq_kp zi_376_K.2.2.1) = true by decide) s ?_) g3 (hP s hs)
      have : s = 1 ∨ s = 2 ∨ s = 3 := by omega
      rcases this with rfl | rfl | rfl <;> decide
  · obtain ⟨x, N, g1, g2, g3, o, g4, g5⟩ := zp_i (w0 := zW_M) (G := zo_g22) (zi_407 0 zo_hd) rfl rfl rfl (zq_s1 zq_r0 zq_s0) (zq_ca (zq_c1 h0.1 h0.2) zh_no) hG
    refine ⟨x, N, g1, g2, fun s hs => ?_, zq_fb g3⟩
    by_cases e : s = 0
    · subst e
      exact zq_o_ok (List.all_eq_true.mp (show zi_407_K.2.2.2.all (fun o => zq_o o.2.2.1 0) = true by decide) o g4) g5.2.2.1
    · refine zq_kp_ok (List.all_eq_true.mp (show [1, 2, 3].all (zq_kp zi_407_K.2.2.1) = true by decide) s ?_) g3 (hP s hs)
      have : s = 1 ∨ s = 2 ∨ s = 3 := by omega
      rcases this with rfl | rfl | rfl <;> decide
theorem zp_X10_fault (hG : zt_Gs zo_g22 M) (hP : zq_P M) (a0 : Int32) : ∃ (x : Int32) (N : zm_I), zF_X10_fault zW_M [.ref 0, .int a0] M = some (some (.int x), N) ∧ zt_Gs zo_g22 N ∧ zq_P N ∧ zt_fr (zi_408_K.2.2.1 ++ (zi_409_K.2.2.1)) M N := by
  rcases hP 0 (by decide) with h0 | h0
  · obtain ⟨x, N, g1, g2, g3, -⟩ := zp_i (w0 := zW_M) (G := zo_g22) (zi_408 0 zo_hd) rfl rfl rfl (zq_s1 zq_r0 (zq_s1 (zt_v_top a0) zq_s0)) (zq_ca (zq_c1 (zt_rgI _).1 h0.1) (zq_ca (zq_c1 (Int.le_of_eq h0.2.1.symm) (Int.le_of_eq h0.2.1)) (zq_ca (zq_c1 (Int.le_of_eq h0.2.2.symm) (Int.le_of_eq h0.2.2)) zh_no))) hG
    exact ⟨x, N, g1, g2, zq_kps_ok (by decide) g3 hP, zq_fa g3⟩
  · obtain ⟨x, N, g1, g2, g3, -⟩ := zp_i (w0 := zW_M) (G := zo_g22) (zi_409 0 zo_hd) rfl rfl rfl (zq_s1 zq_r0 (zq_s1 (zt_v_top a0) zq_s0)) (zq_ca (zq_c1 h0.1 h0.2) zh_no) hG
    exact ⟨x, N, g1, g2, zq_kps_ok (by decide) g3 hP, zq_fb g3⟩
theorem zp_X10_seat (hG : zt_Gs zo_g22 M) (hP : zq_P M) (a0 : Int32) : ∃ (x : Int32) (N : zm_I), zF_X10_seat zW_M [.ref 0, .int a0] M = some (some (.int x), N) ∧ zt_Gs zo_g22 N ∧ zq_P N ∧ zt_fr (zi_413_K.2.2.1 ++ (zi_416_K.2.2.1)) M N := by
  rcases hP 0 (by decide) with h0 | h0
  · obtain ⟨x, N, g1, g2, g3, -⟩ := zp_i (w0 := zW_M) (G := zo_g22) (zi_413 0 zo_hd) rfl rfl rfl (zq_s1 zq_r0 (zq_s1 (zt_v_top a0) zq_s0)) (zq_ca (zq_c1 (zt_rgI _).1 h0.1) (zq_ca (zq_c1 (Int.le_of_eq h0.2.1.symm) (Int.le_of_eq h0.2.1)) (zq_ca (zq_c1 (Int.le_of_eq h0.2.2.symm) (Int.le_of_eq h0.2.2)) zh_no))) hG
    exact ⟨x, N, g1, g2, zq_kps_ok (by decide) g3 hP, zq_fa g3⟩
  · obtain ⟨x, N, g1, g2, g3, -⟩ := zp_i (w0 := zW_M) (G := zo_g22) (zi_416 0 zo_hd) rfl rfl rfl (zq_s1 zq_r0 (zq_s1 (zt_v_top a0) zq_s0)) (zq_ca (zq_c1 h0.1 h0.2) zh_no) hG
    exact ⟨x, N, g1, g2, zq_kps_ok (by decide) g3 hP, zq_fb g3⟩
theorem zp_X10_caller (hG : zt_Gs zo_g22 M) (hP : zq_P M) (a0 : Int32) (a1 : Int32) : ∃ (x : Int32) (N : zm_I), zF_X10_caller zW_M [.ref 0, .int a0, .int a1] M = some (some (.int x), N) ∧ zt_Gs zo_g22 N ∧ zq_P N ∧ zt_fr (zi_419_K.2.2.1 ++ (zi_424_K.2.2.1)) M N := by
  rcases hP 0 (by decide) with h0 | h0
  · obtain ⟨x, N, g1, g2, g3, -⟩ := zp_i (w0 := zW_M) (G := zo_g22) (zi_419 0 zo_hd) rfl rfl rfl (zq_s1 zq_r0 (zq_s1 (zt_v_top a0) (zq_s1 (zt_v_top a1) zq_s0))) (zq_ca (zq_c1 (zt_rgI _).1 h0.1) (zq_ca (zq_c1 (Int.le_of_eq h0.2.1.symm) (Int.le_of_eq h0.2.1)) (zq_ca (zq_c1 (Int.le_of_eq h0.2.2.symm) (Int.le_of_eq h0.2.2)) zh_no))) hG
    exact ⟨x, N, g1, g2, zq_kps_ok (by decide) g3 hP, zq_fa g3⟩
  · obtain ⟨x, N, g1, g2, g3, -⟩ := zp_i (w0 := zW_M) (G := zo_g22) (zi_424 0 zo_hd) rfl rfl rfl (zq_s1 zq_r0 (zq_s1 (zt_v_top a0) (zq_s1 (zt_v_top a1) zq_s0))) (zq_ca (zq_c1 h0.1 h0.2) zh_no) hG
    exact ⟨x, N, g1, g2, zq_kps_ok (by decide) g3 hP, zq_fb g3⟩
theorem zp_X10_age (hG : zt_Gs zo_g22 M) (hP : zq_P M) (a0 : Int32) (a1 : Int32) : ∃ (x : Int32) (N : zm_I), zF_X10_age zW_M [.ref 0, .int a0, .int a1] M = some (some (.int x), N) ∧ zt_Gs zo_g22 N ∧ zq_P N ∧ zt_fr (zi_425_K.2.2.1 ++ (zi_442_K.2.2.1)) M N := by
  rcases hP 0 (by decide) with h0 | h0
  · obtain ⟨x, N, g1, g2, g3, -⟩ := zp_i (w0 := zW_M) (G := zo_g22) (zi_425 0 zo_hd) rfl rfl rfl (zq_s1 zq_r0 (zq_s1 (zt_v_top a0) (zq_s1 (zt_v_top a1) zq_s0))) (zq_ca (zq_c1 (zt_rgI _).1 h0.1) (zq_ca (zq_c1 (Int.le_of_eq h0.2.1.symm) (Int.le_of_eq h0.2.1)) (zq_ca (zq_c1 (Int.le_of_eq h0.2.2.symm) (Int.le_of_eq h0.2.2)) zh_no))) hG
    exact ⟨x, N, g1, g2, zq_kps_ok (by decide) g3 hP, zq_fa g3⟩
  · obtain ⟨x, N, g1, g2, g3, -⟩ := zp_i (w0 := zW_M) (G := zo_g22) (zi_442 0 zo_hd) rfl rfl rfl (zq_s1 zq_r0 (zq_s1 (zt_v_top a0) (zq_s1 (zt_v_top a1) zq_s0))) (zq_ca (zq_c1 h0.1 h0.2) zh_no) hG
    exact ⟨x, N, g1, g2, zq_kps_ok (by decide) g3 hP, zq_fb g3⟩
theorem zp_X10_sits (hG : zt_Gs zo_g22 M) (hP : zq_P M) (a0 : Int32) (a1 : Int32) : ∃ (x : Int32) (N : zm_I), zF_X10_sits zW_M [.ref 0, .int a0, .int a1] M = some (some (.int x), N) ∧ zt_Gs zo_g22 N ∧ zq_P N ∧ zt_fr (zi_443_K.2.2.1 ++ (zi_444_K.2.2.1)) M N := by
  rcases hP 0 (by decide) with h0 | h0
  · obtain ⟨x, N, g1, g2, g3, -⟩ := zp_i (w0 := zW_M) (G := zo_g22) (zi_443 0 zo_hd) rfl rfl rfl (zq_s1 zq_r0 (zq_s1 (zt_v_top a0) (zq_s1 (zt_v_top a1) zq_s0))) (zq_ca (zq_c1 (zt_rgI _).1 h0.1) (zq_ca (zq_c1 (Int.le_of_eq h0.2.1.symm) (Int.le_of_eq h0.2.1)) (zq_ca (zq_c1 (Int.le_of_eq h0.2.2.symm) (Int.le_of_eq h0.2.2)) zh_no))) hG
    exact ⟨x, N, g1, g2, zq_kps_ok (by decide) g3 hP, zq_fa g3⟩
  · obtain ⟨x, N, g1, g2, g3, -⟩ := zp_i (w0 := zW_M) (G := zo_g22) (zi_444 0 zo_hd) rfl rfl rfl (zq_s1 zq_r0 (zq_s1 (zt_v_top a0) (zq_s1 (zt_v_top a1) zq_s0))) (zq_ca (zq_c1 h0.1 h0.2) zh_no) hG
    exact ⟨x, N, g1, g2, zq_kps_ok (by decide) g3 hP, zq_fb g3⟩
theorem zp_X10_stands (hG : zt_Gs zo_g22 M) (hP : zq_P M) (a0 : Int32) : ∃ (x : Int32) (N : zm_I), zF_X10_stands zW_M [.ref 0, .int a0] M = some (some (.int x), N) ∧ zt_Gs zo_g22 N ∧ zq_P N ∧ zt_fr (zi_447_K.2.2.1 ++ (zi_458_K.2.2.1)) M N := by
  rcases hP 0 (by decide) with h0 | h0
  · obtain ⟨x, N, g1, g2, g3, -⟩ := zp_i (w0 := zW_M) (G := zo_g22) (zi_447 0 zo_hd) rfl rfl rfl (zq_s1 zq_r0 (zq_s1 (zt_v_top a0) zq_s0)) (zq_ca (zq_c1 (zt_rgI _).1 h0.1) (zq_ca (zq_c1 (Int.le_of_eq h0.2.1.symm) (Int.le_of_eq h0.2.1)) (zq_ca (zq_c1 (Int.le_of_eq h0.2.2.symm) (Int.le_of_eq h0.2.2)) zh_no))) hG
    exact ⟨x, N, g1, g2, zq_kps_ok (by decide) g3 hP, zq_fa g3⟩
  · obtain ⟨x, N, g1, g2, g3, -⟩ := zp_i (w0 := zW_M) (G := zo_g22) (zi_458 0 zo_hd) rfl rfl rfl (zq_s1 zq_r0 (zq_s1 (zt_v_top a0) zq_s0)) (zq_ca (zq_c1 h0.1 h0.2) zh_no) hG
    exact ⟨x, N, g1, g2, zq_kps_ok (by decide) g3 hP, zq_fb g3⟩
theorem zp_X10_free (hG : zt_Gs zo_g22 M) (hP : zq_P M) (a0 : Int32) : ∃ (x : Int32) (N : zm_I), zF_X10_free zW_M [.ref 0, .int a0] M = some (some (.int x), N) ∧ zt_Gs zo_g22 N ∧ zq_P N ∧ zt_fr (zi_459_K.2.2.1 ++ (zi_460_K.2.2.1)) M N := by
  rcases hP 0 (by decide) with h0 | h0
  · obtain ⟨x, N, g1, g2, g3, -⟩ := zp_i (w0 := zW_M) (G := zo_g22) (zi_459 0 zo_hd) rfl rfl rfl (zq_s1 zq_r0 (zq_s1 (zt_v_top a0) zq_s0)) (zq_ca (zq_c1 (zt_rgI _).1 h0.1) (zq_ca (zq_c1 (Int.le_of_eq h0.2.1.symm) (Int.le_of_eq h0.2.1)) (zq_ca (zq_c1 (Int.le_of_eq h0.2.2.symm) (Int.le_of_eq h0.2.2)) zh_no))) hG
    exact ⟨x, N, g1, g2, zq_kps_ok (by decide) g3 hP, zq_fa g3⟩
  · obtain ⟨x, N, g1, g2, g3, -⟩ := zp_i (w0 := zW_M) (G := zo_g22) (zi_460 0 zo_hd) rfl rfl rfl (zq_s1 zq_r0 (zq_s1 (zt_v_top a0) zq_s0)) (zq_ca (zq_c1 h0.1 h0.2) zh_no) hG
    exact ⟨x, N, g1, g2, zq_kps_ok (by decide) g3 hP, zq_fb g3⟩
theorem zp_X10_goes (hG : zt_Gs zo_g22 M) (hP : zq_P M) (a0 : Int32) : ∃ (x : Int32) (N : zm_I), zF_X10_goes zW_M [.ref 0, .int a0] M = some (some (.int x), N) ∧ zt_Gs zo_g22 N ∧ zq_P N ∧ zt_fr (zi_461_K.2.2.1 ++ (zi_462_K.2.2.1)) M N := by
  rcases hP 0 (by decide) with h0 | h0
  · obtain ⟨x, N, g1, g2, g3, -⟩ := zp_i (w0 := zW_M) (G := zo_g22) (zi_461 0 zo_hd) rfl rfl rfl (zq_s1 zq_r0 (zq_s1 (zt_v_top a0) zq_s0)) (zq_ca (zq_c1 (zt_rgI _).1 h0.1) (zq_ca (zq_c1 (Int.le_of_eq h0.2.1.symm) (Int.le_of_eq h0.2.1)) (zq_ca (zq_c1 (Int.le_of_eq h0.2.2.symm) (Int.le_of_eq h0.2.2)) zh_no))) hG
    exact ⟨x, N, g1, g2, zq_kps_ok (by decide) g3 hP, zq_fa g3⟩
  · obtain ⟨x, N, g1, g2, g3, -⟩ := zp_i (w0 := zW_M) (G := zo_g22) (zi_462 0 zo_hd) rfl rfl rfl (zq_s1 zq_r0 (zq_s1 (zt_v_top a0) zq_s0)) (zq_ca (zq_c1 h0.1 h0.2) zh_no) hG
    exact ⟨x, N, g1, g2, zq_kps_ok (by decide) g3 hP, zq_fb g3⟩
theorem zp_X10_called (hG : zt_Gs zo_g22 M) (hP : zq_P M) (a0 : Int32) : ∃ (x : Int32) (N : zm_I), zF_X10_called zW_M [.ref 0, .int a0] M = some (some (.int x), N) ∧ zt_Gs zo_g22 N ∧ zq_P N ∧ zt_fr (zi_463_K.2.2.1 ++ (zi_464_K.2.2.1)) M N := by
  rcases hP 0 (by decide) with h0 | h0
  · obtain ⟨x, N, g1, g2, g3, -⟩ := zp_i (w0 := zW_M) (G := zo_g22) (zi_463 0 zo_hd) rfl rfl rfl (zq_s1 zq_r0 (zq_s1 (zt_v_top a0) zq_s0)) (zq_ca (zq_c1 (zt_rgI _).1 h0.1) (zq_ca (zq_c1 (Int.le_of_eq h0.2.1.symm) (Int.le_of_eq h0.2.1)) (zq_ca (zq_c1 (Int.le_of_eq h0.2.2.symm) (Int.le_of_eq h0.2.2)) zh_no))) hG
    exact ⟨x, N, g1, g2, zq_kps_ok (by decide) g3 hP, zq_fa g3⟩
  · obtain ⟨x, N, g1, g2, g3, -⟩ := zp_i (w0 := zW_M) (G := zo_g22) (zi_464 0 zo_hd) rfl rfl rfl (zq_s1 zq_r0 (zq_s1 (zt_v_top a0) zq_s0)) (zq_ca (zq_c1 h0.1 h0.2) zh_no) hG
    exact ⟨x, N, g1, g2, zq_kps_ok (by decide) g3 hP, zq_fb g3⟩
theorem zp_X10_ends_ (hG : zt_Gs zo_g22 M) (hP : zq_P M) (a0 : Int32) : ∃ (x : Int32) (N : zm_I), zF_X10_ends_ zW_M [.ref 0, .int a0] M = some (some (.int x), N) ∧ zt_Gs zo_g22 N ∧ zq_P N ∧ zt_fr (zi_465_K.2.2.1 ++ (zi_467_K.2.2.1)) M N := by
  rcases hP 0 (by decide) with h0 | h0
  · obtain ⟨x, N, g1, g2, g3, -⟩ := zp_i (w0 := zW_M) (G := zo_g22) (zi_465 0 zo_hd) rfl rfl rfl (zq_s1 zq_r0 (zq_s1 (zt_v_top a0) zq_s0)) (zq_ca (zq_c1 (zt_rgI _).1 h0.1) (zq_ca (zq_c1 (Int.le_of_eq h0.2.1.symm) (Int.le_of_eq h0.2.1)) (zq_ca (zq_c1 (Int.le_of_eq h0.2.2.symm) (Int.le_of_eq h0.2.2)) zh_no))) hG
    exact ⟨x, N, g1, g2, zq_kps_ok (by decide) g3 hP, zq_fa g3⟩
  · obtain ⟨x, N, g1, g2, g3, -⟩ := zp_i (w0 := zW_M) (G := zo_g22) (zi_467 0 zo_hd) rfl rfl rfl (zq_s1 zq_r0 (zq_s1 (zt_v_top a0) zq_s0)) (zq_ca (zq_c1 h0.1 h0.2) zh_no) hG
    exact ⟨x, N, g1, g2, zq_kps_ok (by decide) g3 hP, zq_fb g3⟩
theorem zp_X10_told (hG : zt_Gs zo_g22 M) (hP : zq_P M) : ∃ (x : Int32) (N : zm_I), zF_X10_told zW_M [.ref 0] M = some (some (.int x), N) ∧ zt_Gs zo_g22 N ∧ zq_P N ∧ zt_fr (zi_468_K.2.2.1 ++ (zi_471_K.2.2.1)) M N := by
  rcases hP 0 (by decide) with h0 | h0
  · obtain ⟨x, N, g1, g2, g3, -⟩ := zp_i (w0 := zW_M) (G := zo_g22) (zi_468 0 zo_hd) rfl rfl rfl (zq_s1 zq_r0 zq_s0) (zq_ca (zq_c1 (zt_rgI _).1 h0.1) (zq_ca (zq_c1 (Int.le_of_eq h0.2.1.symm) (Int.le_of_eq h0.2.1)) (zq_ca (zq_c1 (Int.le_of_eq h0.2.2.symm) (Int.le_of_eq h0.2.2)) zh_no))) hG
    exact ⟨x, N, g1, g2, zq_kps_ok (by decide) g3 hP, zq_fa g3⟩
  · obtain ⟨x, N, g1, g2, g3, -⟩ := zp_i (w0 := zW_M) (G := zo_g22) (zi_471 0 zo_hd) rfl rfl rfl (zq_s1 zq_r0 zq_s0) (zq_ca (zq_c1 h0.1 h0.2) zh_no) hG
    exact ⟨x, N, g1, g2, zq_kps_ok (by decide) g3 hP, zq_fb g3⟩
theorem zp_X10_forgotten (hG : zt_Gs zo_g22 M) (hP : zq_P M) : ∃ (x : Int32) (N : zm_I), zF_X10_forgotten zW_M [.ref 0] M = some (some (.int x), N) ∧ zt_Gs zo_g22 N ∧ zq_P N ∧ zt_fr (zi_472_K.2.2.1 ++ (zi_473_K.2.2.1)) M N := by
  rcases hP 0 (by decide) with h0 | h0
  · obtain ⟨x, N, g1, g2, g3, -⟩ := zp_i (w0 := zW_M) (G := zo_g22) (zi_472 0 zo_hd) rfl rfl rfl (zq_s1 zq_r0 zq_s0) (zq_ca (zq_c1 (zt_rgI _).1 h0.1) (zq_ca (zq_c1 (Int.le_of_eq h0.2.1.symm) (Int.le_of_eq h0.2.1)) (zq_ca (zq_c1 (Int.le_of_eq h0.2.2.symm) (Int.le_of_eq h0.2.2)) zh_no))) hG
    exact ⟨x, N, g1, g2, zq_kps_ok (by decide) g3 hP, zq_fa g3⟩
  · obtain ⟨x, N, g1, g2, g3, -⟩ := zp_i (w0 := zW_M) (G := zo_g22) (zi_473 0 zo_hd) rfl rfl rfl (zq_s1 zq_r0 zq_s0) (zq_ca (zq_c1 h0.1 h0.2) zh_no) hG
    exact ⟨x, N, g1, g2, zq_kps_ok (by decide) g3 hP, zq_fb g3⟩
theorem zp_X10_gun (hG : zt_Gs zo_g22 M) (hP : zq_P M) : ∃ (x : Int32) (N : zm_I), zF_X10_gun zW_M [.ref 0] M = some (some (.int x), N) ∧ zt_Gs zo_g22 N ∧ zq_P N ∧ zt_fr (zi_474_K.2.2.1 ++ (zi_475_K.2.2.1)) M N := by
  rcases hP 0 (by decide) with h0 | h0
  · obtain ⟨x, N, g1, g2, g3, -⟩ := zp_i (w0 := zW_M) (G := zo_g22) (zi_474 0 zo_hd) rfl rfl rfl (zq_s1 zq_r0 zq_s0) (zq_ca (zq_c1 (zt_rgI _).1 h0.1) (zq_ca (zq_c1 (Int.le_of_eq h0.2.1.symm) (Int.le_of_eq h0.2.1)) (zq_ca (zq_c1 (Int.le_of_eq h0.2.2.symm) (Int.le_of_eq h0.2.2)) zh_no))) hG
    exact ⟨x, N, g1, g2, zq_kps_ok (by decide) g3 hP, zq_fa g3⟩
  · obtain ⟨x, N, g1, g2, g3, -⟩ := zp_i (w0 := zW_M) (G := zo_g22) (zi_475 0 zo_hd) rfl rfl rfl (zq_s1 zq_r0 zq_s0) (zq_ca (zq_c1 h0.1 h0.2) zh_no) hG
    exact ⟨x, N, g1, g2, zq_kps_ok (by decide) g3 hP, zq_fb g3⟩
theorem zp_X10_waits (hG : zt_Gs zo_g22 M) (hP : zq_P M) (a0 : Int32) : ∃ (x : Int32) (N : zm_I), zF_X10_waits zW_M [.ref 0, .int a0] M = some (some (.int x), N) ∧ zt_Gs zo_g22 N ∧ zq_P N ∧ zt_fr (zi_476_K.2.2.1 ++ (zi_477_K.2.2.1)) M N := by
  rcases hP 0 (by decide) with h0 | h0
  · obtain ⟨x, N, g1, g2, g3, -⟩ := zp_i (w0 := zW_M) (G := zo_g22) (zi_476 0 zo_hd) rfl rfl rfl (zq_s1 zq_r0 (zq_s1 (zt_v_top a0) zq_s0)) (zq_ca (zq_c1 (zt_rgI _).1 h0.1) (zq_ca (zq_c1 (Int.le_of_eq h0.2.1.symm) (Int.le_of_eq h0.2.1)) (zq_ca (zq_c1 (Int.le_of_eq h0.2.2.symm) (Int.le_of_eq h0.2.2)) zh_no))) hG
    exact ⟨x, N, g1, g2, zq_kps_ok (by decide) g3 hP, zq_fa g3⟩
  · obtain ⟨x, N, g1, g2, g3, -⟩ := zp_i (w0 := zW_M) (G := zo_g22) (zi_477 0 zo_hd) rfl rfl rfl (zq_s1 zq_r0 (zq_s1 (zt_v_top a0) zq_s0)) (zq_ca (zq_c1 h0.1 h0.2) zh_no) hG
    exact ⟨x, N, g1, g2, zq_kps_ok (by decide) g3 hP, zq_fb g3⟩
theorem zp_X10_worn (hG : zt_Gs zo_g22 M) (hP : zq_P M) (a0 : Int32) (a1 : Int32) : ∃ (x : Int32) (N : zm_I), zF_X10_worn zW_M [.ref 0, .int a0, .int a1] M = some (some (.int x), N) ∧ zt_Gs zo_g22 N ∧ zq_P N ∧ zt_fr (zi_478_K.2.2.1 ++ (zi_479_K.2.2.1)) M N := by
  rcases hP 0 (by decide) with h0 | h0
  · obtain ⟨x, N, g1, g2, g3, -⟩ := zp_i (w0 := zW_M) (G := zo_g22) (zi_478 0 zo_hd) rfl rfl rfl (zq_s1 zq_r0 (zq_s1 (zt_v_top a0) (zq_s1 (zt_v_top a1) zq_s0))) (zq_ca (zq_c1 (zt_rgI _).1 h0.1) (zq_ca (zq_c1 (Int.le_of_eq h0.2.1.symm) (Int.le_of_eq h0.2.1)) (zq_ca (zq_c1 (Int.le_of_eq h0.2.2.symm) (Int.le_of_eq h0.2.2)) zh_no))) hG
    exact ⟨x, N, g1, g2, zq_kps_ok (by decide) g3 hP, zq_fa g3⟩
  · obtain ⟨x, N, g1, g2, g3, -⟩ := zp_i (w0 := zW_M) (G := zo_g22) (zi_479 0 zo_hd) rfl rfl rfl (zq_s1 zq_r0 (zq_s1 (zt_v_top a0) (zq_s1 (zt_v_top a1) zq_s0))) (zq_ca (zq_c1 h0.1 h0.2) zh_no) hG
    exact ⟨x, N, g1, g2, zq_kps_ok (by decide) g3 hP, zq_fb g3⟩
theorem zp_X10_dip (hG : zt_Gs zo_g22 M) (hP : zq_P M) (a0 : Int32) : ∃ (x : Int32) (N : zm_I), zF_X10_dip zW_M [.ref 0, .int a0] M = some (some (.int x), N) ∧ zt_Gs zo_g22 N ∧ zq_P N ∧ zt_fr (zi_480_K.2.2.1 ++ (zi_482_K.2.2.1)) M N := by
  rcases hP 0 (by decide) with h0 | h0
  · obtain ⟨x, N, g1, g2, g3, -⟩ := zp_i (w0 := zW_M) (G := zo_g22) (zi_480 0 zo_hd) rfl rfl rfl (zq_s1 zq_r0 (zq_s1 (zt_v_top a0) zq_s0)) (zq_ca (zq_c1 (zt_rgI _).1 h0.1) (zq_ca (zq_c1 (Int.le_of_eq h0.2.1.symm) (Int.le_of_eq h0.2.1)) (zq_ca (zq_c1 (Int.le_of_eq h0.2.2.symm) (Int.le_of_eq h0.2.2)) zh_no))) hG
    exact ⟨x, N, g1, g2, zq_kps_ok (by decide) g3 hP, zq_fa g3⟩
  · obtain ⟨x, N, g1, g2, g3, -⟩ := zp_i (w0 := zW_M) (G := zo_g22) (zi_482 0 zo_hd) rfl rfl rfl (zq_s1 zq_r0 (zq_s1 (zt_v_top a0) zq_s0)) (zq_ca (zq_c1 h0.1 h0.2) zh_no) hG
    exact ⟨x, N, g1, g2, zq_kps_ok (by decide) g3 hP, zq_fb g3⟩
theorem zp_X10_deepest (hG : zt_Gs zo_g22 M) (hP : zq_P M) : ∃ (x : Int32) (N : zm_I), zF_X10_deepest zW_M [.ref 0] M = some (some (.int x), N) ∧ zt_Gs zo_g22 N ∧ zq_P N ∧ zt_fr (zi_483_K.2.2.1 ++ (zi_484_K.2.2.1)) M N := by
  rcases hP 0 (by decide) with h0 | h0
  · obtain ⟨x, N, g1, g2, g3, -⟩ := zp_i (w0 := zW_M) (G := zo_g22) (zi_483 0 zo_hd) rfl rfl rfl (zq_s1 zq_r0 zq_s0) (zq_ca (zq_c1 (zt_rgI _).1 h0.1) (zq_ca (zq_c1 (Int.le_of_eq h0.2.1.symm) (Int.le_of_eq h0.2.1)) (zq_ca (zq_c1 (Int.le_of_eq h0.2.2.symm) (Int.le_of_eq h0.2.2)) zh_no))) hG
    exact ⟨x, N, g1, g2, zq_kps_ok (by decide) g3 hP, zq_fa g3⟩
  · obtain ⟨x, N, g1, g2, g3, -⟩ := zp_i (w0 := zW_M) (G := zo_g22) (zi_484 0 zo_hd) rfl rfl rfl (zq_s1 zq_r0 zq_s0) (zq_ca (zq_c1 h0.1 h0.2) zh_no) hG
    exact ⟨x, N, g1, g2, zq_kps_ok (by decide) g3 hP, zq_fb g3⟩
theorem zp_X10_youngest (hG : zt_Gs zo_g22 M) (hP : zq_P M) (a0 : Int32) : ∃ (x : Int32) (N : zm_I), zF_X10_youngest zW_M [.ref 0, .int a0] M = some (some (.int x), N) ∧ zt_Gs zo_g22 N ∧ zq_P N ∧ zt_fr (zi_485_K.2.2.1 ++ (zi_487_K.2.2.1)) M N := by
  rcases hP 0 (by decide) with h0 | h0
  · obtain ⟨x, N, g1, g2, g3, -⟩ := zp_i (w0 := zW_M) (G := zo_g22) (zi_485 0 zo_hd) rfl rfl rfl (zq_s1 zq_r0 (zq_s1 (zt_v_top a0) zq_s0)) (zq_ca (zq_c1 (zt_rgI _).1 h0.1) (zq_ca (zq_c1 (Int.le_of_eq h0.2.1.symm) (Int.le_of_eq h0.2.1)) (zq_ca (zq_c1 (Int.le_of_eq h0.2.2.symm) (Int.le_of_eq h0.2.2)) zh_no))) hG
    exact ⟨x, N, g1, g2, zq_kps_ok (by decide) g3 hP, zq_fa g3⟩
  · obtain ⟨x, N, g1, g2, g3, -⟩ := zp_i (w0 := zW_M) (G := zo_g22) (zi_487 0 zo_hd) rfl rfl rfl (zq_s1 zq_r0 (zq_s1 (zt_v_top a0) zq_s0)) (zq_ca (zq_c1 h0.1 h0.2) zh_no) hG
    exact ⟨x, N, g1, g2, zq_kps_ok (by decide) g3 hP, zq_fb g3⟩
theorem zp_X10_oldest (hG : zt_Gs zo_g22 M) (hP : zq_P M) (a0 : Int32) : ∃ (x : Int32) (N : zm_I), zF_X10_oldest zW_M [.ref 0, .int a0] M = some (some (.int x), N) ∧ zt_Gs zo_g22 N ∧ zq_P N ∧ zt_fr (zi_488_K.2.2.1 ++ (zi_489_K.2.2.1)) M N := by
  rcases hP 0 (by decide) with h0 | h0
  · obtain ⟨x, N, g1, g2, g3, -⟩ := zp_i (w0 := zW_M) (G := zo_g22) (zi_488 0 zo_hd) rfl rfl rfl (zq_s1 zq_r0 (zq_s1 (zt_v_top a0) zq_s0)) (zq_ca (zq_c1 (zt_rgI _).1 h0.1) (zq_ca (zq_c1 (Int.le_of_eq h0.2.1.symm) (Int.le_of_eq h0.2.1)) (zq_ca (zq_c1 (Int.le_of_eq h0.2.2.symm) (Int.le_of_eq h0.2.2)) zh_no))) hG
    exact ⟨x, N, g1, g2, zq_kps_ok (by decide) g3 hP, zq_fa g3⟩
  · obtain ⟨x, N, g1, g2, g3, -⟩ := zp_i (w0 := zW_M) (G := zo_g22) (zi_489 0 zo_hd) rfl rfl rfl (zq_s1 zq_r0 (zq_s1 (zt_v_top a0) zq_s0)) (zq_ca (zq_c1 h0.1 h0.2) zh_no) hG
    exact ⟨x, N, g1, g2, zq_kps_ok (by decide) g3 hP, zq_fb g3⟩
theorem zp_X10_meets (hG : zt_Gs zo_g22 M) (hP : zq_P M) (a0 : Int32) (a1 : Int32) : ∃ (x : Int32) (N : zm_I), zF_X10_meets zW_M [.ref 0, .int a0, .int a1] M = some (some (.int x), N) ∧ zt_Gs zo_g22 N ∧ zq_P N ∧ zt_fr (zi_490_K.2.2.1 ++ (zi_493_K.2.2.1)) M N := by
  rcases hP 0 (by decide) with h0 | h0
  · obtain ⟨x, N, g1, g2, g3, -⟩ := zp_i (w0 := zW_M) (G := zo_g22) (zi_490 0 zo_hd) rfl rfl rfl (zq_s1 zq_r0 (zq_s1 (zt_v_top a0) (zq_s1 (zt_v_top a1) zq_s0))) (zq_ca (zq_c1 (zt_rgI _).1 h0.1) (zq_ca (zq_c1 (Int.le_of_eq h0.2.1.symm) (Int.le_of_eq h0.2.1)) (zq_ca (zq_c1 (Int.le_of_eq h0.2.2.symm) (Int.le_of_eq h0.2.2)) zh_no))) hG
    exact ⟨x, N, g1, g2, zq_kps_ok (by decide) g3 hP, zq_fa g3⟩
  · obtain ⟨x, N, g1, g2, g3, -⟩ := zp_i (w0 := zW_M) (G := zo_g22) (zi_493 0 zo_hd) rfl rfl rfl (zq_s1 zq_r0 (zq_s1 (zt_v_top a0) (zq_s1 (zt_v_top a1) zq_s0))) (zq_ca (zq_c1 h0.1 h0.2) zh_no) hG
    exact ⟨x, N, g1, g2, zq_kps_ok (by decide) g3 hP, zq_fb g3⟩
theorem zp_X10_ripe (hG : zt_Gs zo_g22 M) (hP : zq_P M) (a0 : Int32) : ∃ (x : Int32) (N : zm_I), zF_X10_ripe zW_M [.ref 0, .int a0] M = some (some (.int x), N) ∧ zt_Gs zo_g22 N ∧ zq_P N ∧ zt_fr (zi_494_K.2.2.1 ++ (zi_497_K.2.2.1)) M N := by
  rcases hP 0 (by decide) with h0 | h0
  · obtain ⟨x, N, g1, g2, g3, -⟩ := zp_i (w0 := zW_M) (G := zo_g22) (zi_494 0 zo_hd) rfl rfl rfl (zq_s1 zq_r0 (zq_s1 (zt_v_top a0) zq_s0)) (zq_ca (zq_c1 (zt_rgI _).1 h0.1) (zq_ca (zq_c1 (Int.le_of_eq h0.2.1.symm) (Int.le_of_eq h0.2.1)) (zq_ca (zq_c1 (Int.le_of_eq h0.2.2.symm) (Int.le_of_eq h0.2.2)) zh_no))) hG
    exact ⟨x, N, g1, g2, zq_kps_ok (by decide) g3 hP, zq_fa g3⟩
  · obtain ⟨x, N, g1, g2, g3, -⟩ := zp_i (w0 := zW_M) (G := zo_g22) (zi_497 0 zo_hd) rfl rfl rfl (zq_s1 zq_r0 (zq_s1 (zt_v_top a0) zq_s0)) (zq_ca (zq_c1 h0.1 h0.2) zh_no) hG
    exact ⟨x, N, g1, g2, zq_kps_ok (by decide) g3 hP, zq_fb g3⟩
theorem zp_X10_window (hG : zt_Gs zo_g22 M) (hP : zq_P M) (a0 : Int32) : ∃ (x : Int32) (N : zm_I), zF_X10_window zW_M [.ref 0, .int a0] M = some (some (.int x), N) ∧ zt_Gs zo_g22 N ∧ zq_P N ∧ zt_fr (zi_498_K.2.2.1 ++ (zi_499_K.2.2.1)) M N := by
  rcases hP 0 (by decide) with h0 | h0
  · obtain ⟨x, N, g1, g2, g3, -⟩ := zp_i (w0 := zW_M) (G := zo_g22) (zi_498 0 zo_hd) rfl rfl rfl (zq_s1 zq_r0 (zq_s1 (zt_v_top a0) zq_s0)) (zq_ca (zq_c1 (zt_rgI _).1 h0.1) (zq_ca (zq_c1 (Int.le_of_eq h0.2.1.symm) (Int.le_of_eq h0.2.1)) (zq_ca (zq_c1 (Int.le_of_eq h0.2.2.symm) (Int.le_of_eq h0.2.2)) zh_no))) hG
    exact ⟨x, N, g1, g2, zq_kps_ok (by decide) g3 hP, zq_fa g3⟩
  · obtain ⟨x, N, g1, g2, g3, -⟩ := zp_i (w0 := zW_M) (G := zo_g22) (zi_499 0 zo_hd) rfl rfl rfl (zq_s1 zq_r0 (zq_s1 (zt_v_top a0) zq_s0)) (zq_ca (zq_c1 h0.1 h0.2) zh_no) hG
    exact ⟨x, N, g1, g2, zq_kps_ok (by decide) g3 hP, zq_fb g3⟩
theorem zp_X10_misses (hG : zt_Gs zo_g22 M) (hP : zq_P M) (a0 : Int32) : ∃ (x : Int32) (N : zm_I), zF_X10_misses zW_M [.ref 0, .int a0] M = some (some (.int x), N) ∧ zt_Gs zo_g22 N ∧ zq_P N ∧ zt_fr (zi_500_K.2.2.1 ++ (zi_501_K.2.2.1)) M N := by
  rcases hP 0 (by decide) with h0 | h0
  · obtain ⟨x, N, g1, g2, g3, -⟩ := zp_i (w0 := zW_M) (G := zo_g22) (zi_500 0 zo_hd) rfl rfl rfl (zq_s1 zq_r0 (zq_s1 (zt_v_top a0) zq_s0)) (zq_ca (zq_c1 (zt_rgI _).1 h0.1) (zq_ca (zq_c1 (Int.le_of_eq h0.2.1.symm) (Int.le_of_eq h0.2.1)) (zq_ca (zq_c1 (Int.le_of_eq h0.2.2.symm) (Int.le_of_eq h0.2.2)) zh_no))) hG
    exact ⟨x, N, g1, g2, zq_kps_ok (by decide) g3 hP, zq_fa g3⟩
  · obtain ⟨x, N, g1, g2, g3, -⟩ := zp_i (w0 := zW_M) (G := zo_g22) (zi_501 0 zo_hd) rfl rfl rfl (zq_s1 zq_r0 (zq_s1 (zt_v_top a0) zq_s0)) (zq_ca (zq_c1 h0.1 h0.2) zh_no) hG
    exact ⟨x, N, g1, g2, zq_kps_ok (by decide) g3 hP, zq_fb g3⟩
theorem zp_X10_grown (hG : zt_Gs zo_g22 M) (hP : zq_P M) (a0 : Int32) : ∃ (x : Int32) (N : zm_I), zF_X10_grown zW_M [.ref 0, .int a0] M = some (some (.int x), N) ∧ zt_Gs zo_g22 N ∧ zq_P N ∧ zt_fr (zi_502_K.2.2.1 ++ (zi_503_K.2.2.1)) M N := by
  rcases hP 0 (by decide) with h0 | h0
  · obtain ⟨x, N, g1, g2, g3, -⟩ := zp_i (w0 := zW_M) (G := zo_g22) (zi_502 0 zo_hd) rfl rfl rfl (zq_s1 zq_r0 (zq_s1 (zt_v_top a0) zq_s0)) (zq_ca (zq_c1 (zt_rgI _).1 h0.1) (zq_ca (zq_c1 (Int.le_of_eq h0.2.1.symm) (Int.le_of_eq h0.2.1)) (zq_ca (zq_c1 (Int.le_of_eq h0.2.2.symm) (Int.le_of_eq h0.2.2)) zh_no))) hG
    exact ⟨x, N, g1, g2, zq_kps_ok (by decide) g3 hP, zq_fa g3⟩
  · obtain ⟨x, N, g1, g2, g3, -⟩ := zp_i (w0 := zW_M) (G := zo_g22) (zi_503 0 zo_hd) rfl rfl rfl (zq_s1 zq_r0 (zq_s1 (zt_v_top a0) zq_s0)) (zq_ca (zq_c1 h0.1 h0.2) zh_no) hG
    exact ⟨x, N, g1, g2, zq_kps_ok (by decide) g3 hP, zq_fb g3⟩
theorem zp_X10_beside (hG : zt_Gs zo_g22 M) (hP : zq_P M) (a0 : Int32) (a1 : Int32) : ∃ (x : Int32) (N : zm_I), zF_X10_beside zW_M [.ref 0, .int a0, .int a1] M = some (some (.int x), N) ∧ zt_Gs zo_g22 N ∧ zq_P N ∧ zt_fr (zi_504_K.2.2.1 ++ (zi_505_K.2.2.1)) M N := by
  rcases hP 0 (by decide) with h0 | h0
  · obtain ⟨x, N, g1, g2, g3, -⟩ := zp_i (w0 := zW_M) (G := zo_g22) (zi_504 0 zo_hd) rfl rfl rfl (zq_s1 zq_r0 (zq_s1 (zt_v_top a0) (zq_s1 (zt_v_top a1) zq_s0))) (zq_ca (zq_c1 (zt_rgI _).1 h0.1) (zq_ca (zq_c1 (Int.le_of_eq h0.2.1.symm) (Int.le_of_eq h0.2.1)) (zq_ca (zq_c1 (Int.le_of_eq h0.2.2.symm) (Int.le_of_eq h0.2.2)) zh_no))) hG
    exact ⟨x, N, g1, g2, zq_kps_ok (by decide) g3 hP, zq_fa g3⟩
  · obtain ⟨x, N, g1, g2, g3, -⟩ := zp_i (w0 := zW_M) (G := zo_g22) (zi_505 0 zo_hd) rfl rfl rfl (zq_s1 zq_r0 (zq_s1 (zt_v_top a0) (zq_s1 (zt_v_top a1) zq_s0))) (zq_ca (zq_c1 h0.1 h0.2) zh_no) hG
    exact ⟨x, N, g1, g2, zq_kps_ok (by decide) g3 hP, zq_fb g3⟩
theorem zp_X10_crowd (hG : zt_Gs zo_g22 M) (hP : zq_P M) : ∃ (x : Int32) (N : zm_I), zF_X10_crowd zW_M [.ref 0] M = some (some (.int x), N) ∧ zt_Gs zo_g22 N ∧ zq_P N ∧ zt_fr (zi_506_K.2.2.1 ++ (zi_508_K.2.2.1)) M N := by
  rcases hP 0 (by decide) with h0 | h0
  · obtain ⟨x, N, g1, g2, g3, -⟩ := zp_i (w0 := zW_M) (G := zo_g22) (zi_506 0 zo_hd) rfl rfl rfl (zq_s1 zq_r0 zq_s0) (zq_ca (zq_c1 (zt_rgI _).1 h0.1) (zq_ca (zq_c1 (Int.le_of_eq h0.2.1.symm) (Int.le_of_eq h0.2.1)) (zq_ca (zq_c1 (Int.le_of_eq h0.2.2.symm) (Int.le_of_eq h0.2.2)) zh_no))) hG
    exact ⟨x, N, g1, g2, zq_kps_ok (by decide) g3 hP, zq_fa g3⟩
  · obtain ⟨x, N, g1, g2, g3, -⟩ := zp_i (w0 := zW_M) (G := zo_g22) (zi_508 0 zo_hd) rfl rfl rfl (zq_s1 zq_r0 zq_s0) (zq_ca (zq_c1 h0.1 h0.2) zh_no) hG
    exact ⟨x, N, g1, g2, zq_kps_ok (by decide) g3 hP, zq_fb g3⟩
theorem zp_X10_next_ (hG : zt_Gs zo_g22 M) (hP : zq_P M) (a0 : Int32) : ∃ (x : Int32) (N : zm_I), zF_X10_next_ zW_M [.ref 0, .int a0] M = some (some (.int x), N) ∧ zt_Gs zo_g22 N ∧ zq_P N ∧ zt_fr (zi_509_K.2.2.1 ++ (zi_510_K.2.2.1)) M N := by
  rcases hP 0 (by decide) with h0 | h0
  · obtain ⟨x, N, g1, g2, g3, -⟩ := zp_i (w0 := zW_M) (G := zo_g22) (zi_509 0 zo_hd) rfl rfl rfl (zq_s1 zq_r0 (zq_s1 (zt_v_top a0) zq_s0)) (zq_ca (zq_c1 (zt_rgI _).1 h0.1) (zq_ca (zq_c1 (Int.le_of_eq h0.2.1.symm) (Int.le_of_eq h0.2.1)) (zq_ca (zq_c1 (Int.le_of_eq h0.2.2.symm) (Int.le_of_eq h0.2.2)) zh_no))) hG
    exact ⟨x, N, g1, g2, zq_kps_ok (by decide) g3 hP, zq_fa g3⟩
  · obtain ⟨x, N, g1, g2, g3, -⟩ := zp_i (w0 := zW_M) (G := zo_g22) (zi_510 0 zo_hd) rfl rfl rfl (zq_s1 zq_r0 (zq_s1 (zt_v_top a0) zq_s0)) (zq_ca (zq_c1 h0.1 h0.2) zh_no) hG
    exact ⟨x, N, g1, g2, zq_kps_ok (by decide) g3 hP, zq_fb g3⟩
theorem zp_X10_years (hG : zt_Gs zo_g22 M) (hP : zq_P M) (a0 : Int32) : ∃ (x : Int32) (N : zm_I), zF_X10_years zW_M [.ref 0, .int a0] M = some (some (.int x), N) ∧ zt_Gs zo_g22 N ∧ zq_P N ∧ zt_fr (zi_511_K.2.2.1 ++ (zi_512_K.2.2.1)) M N := by
  rcases hP 0 (by decide) with h0 | h0
  · obtain ⟨x, N, g1, g2, g3, -⟩ := zp_i (w0 := zW_M) (G := zo_g22) (zi_511 0 zo_hd) rfl rfl rfl (zq_s1 zq_r0 (zq_s1 (zt_v_top a0) zq_s0)) (zq_ca (zq_c1 (zt_rgI _).1 h0.1) (zq_ca (zq_c1 (Int.le_of_eq h0.2.1.symm) (Int.le_of_eq h0.2.1)) (zq_ca (zq_c1 (Int.le_of_eq h0.2.2.symm) (Int.le_of_eq h0.2.2)) zh_no))) hG
    exact ⟨x, N, g1, g2, zq_kps_ok (by decide) g3 hP, zq_fa g3⟩
  · obtain ⟨x, N, g1, g2, g3, -⟩ := zp_i (w0 := zW_M) (G := zo_g22) (zi_512 0 zo_hd) rfl rfl rfl (zq_s1 zq_r0 (zq_s1 (zt_v_top a0) zq_s0)) (zq_ca (zq_c1 h0.1 h0.2) zh_no) hG
    exact ⟨x, N, g1, g2, zq_kps_ok (by decide) g3 hP, zq_fb g3⟩
theorem zp_X10_last (hG : zt_Gs zo_g22 M) (hP : zq_P M) : ∃ (x : Int32) (N : zm_I), zF_X10_last zW_M [.ref 0] M = some (some (.int x), N) ∧ zt_Gs zo_g22 N ∧ zq_P N ∧ zt_fr (zi_513_K.2.2.1 ++ (zi_514_K.2.2.1)) M N := by
  rcases hP 0 (by decide) with h0 | h0
  · obtain ⟨x, N, g1, g2, g3, -⟩ := zp_i (w0 := zW_M) (G := zo_g22) (zi_513 0 zo_hd) rfl rfl rfl (zq_s1 zq_r0 zq_s0) (zq_ca (zq_c1 (zt_rgI _).1 h0.1) (zq_ca (zq_c1 (Int.le_of_eq h0.2.1.symm) (Int.le_of_eq h0.2.1)) (zq_ca (zq_c1 (Int.le_of_eq h0.2.2.symm) (Int.le_of_eq h0.2.2)) zh_no))) hG
    exact ⟨x, N, g1, g2, zq_kps_ok (by decide) g3 hP, zq_fa g3⟩
  · obtain ⟨x, N, g1, g2, g3, -⟩ := zp_i (w0 := zW_M) (G := zo_g22) (zi_514 0 zo_hd) rfl rfl rfl (zq_s1 zq_r0 zq_s0) (zq_ca (zq_c1 h0.1 h0.2) zh_no) hG
    exact ⟨x, N, g1, g2, zq_kps_ok (by decide) g3 hP, zq_fb g3⟩
theorem zp_X10_twins (hG : zt_Gs zo_g22 M) (hP : zq_P M) (a0 : Int32) : ∃ (x : Int32) (N : zm_I), zF_X10_twins zW_M [.ref 0, .int a0] M = some (some (.int x), N) ∧ zt_Gs zo_g22 N ∧ zq_P N ∧ zt_fr (zi_515_K.2.2.1 ++ (zi_516_K.2.2.1)) M N := by
  rcases hP 0 (by decide) with h0 | h0
  · obtain ⟨x, N, g1, g2, g3, -⟩ := zp_i (w0 := zW_M) (G := zo_g22) (zi_515 0 zo_hd) rfl rfl rfl (zq_s1 zq_r0 (zq_s1 (zt_v_top a0) zq_s0)) (zq_ca (zq_c1 (zt_rgI _).1 h0.1) (zq_ca (zq_c1 (Int.le_of_eq h0.2.1.symm) (Int.le_of_eq h0.2.1)) (zq_ca (zq_c1 (Int.le_of_eq h0.2.2.symm) (Int.le_of_eq h0.2.2)) zh_no))) hG
    exact ⟨x, N, g1, g2, zq_kps_ok (by decide) g3 hP, zq_fa g3⟩
  · obtain ⟨x, N, g1, g2, g3, -⟩ := zp_i (w0 := zW_M) (G := zo_g22) (zi_516 0 zo_hd) rfl rfl rfl (zq_s1 zq_r0 (zq_s1 (zt_v_top a0) zq_s0)) (zq_ca (zq_c1 h0.1 h0.2) zh_no) hG
    exact ⟨x, N, g1, g2, zq_kps_ok (by decide) g3 hP, zq_fb g3⟩
theorem zp_X10_opens (hG : zt_Gs zo_g22 M) (hP : zq_P M) (a0 : Int32) : ∃ (x : Int32) (N : zm_I), zF_X10_opens zW_M [.ref 0, .int a0] M = some (some (.int x), N) ∧ zt_Gs zo_g22 N ∧ zq_P N ∧ zt_fr (zi_517_K.2.2.1 ++ (zi_518_K.2.2.1)) M N := by
  rcases hP 0 (by decide) with h0 | h0
  · obtain ⟨x, N, g1, g2, g3, -⟩ := zp_i (w0 := zW_M) (G := zo_g22) (zi_517 0 zo_hd) rfl rfl rfl (zq_s1 zq_r0 (zq_s1 (zt_v_top a0) zq_s0)) (zq_ca (zq_c1 (zt_rgI _).1 h0.1) (zq_ca (zq_c1 (Int.le_of_eq h0.2.1.symm) (Int.le_of_eq h0.2.1)) (zq_ca (zq_c1 (Int.le_of_eq h0.2.2.symm) (Int.le_of_eq h0.2.2)) zh_no))) hG
    exact ⟨x, N, g1, g2, zq_kps_ok (by decide) g3 hP, zq_fa g3⟩
  · obtain ⟨x, N, g1, g2, g3, -⟩ := zp_i (w0 := zW_M) (G := zo_g22) (zi_518 0 zo_hd) rfl rfl rfl (zq_s1 zq_r0 (zq_s1 (zt_v_top a0) zq_s0)) (zq_ca (zq_c1 h0.1 h0.2) zh_no) hG
    exact ⟨x, N, g1, g2, zq_kps_ok (by decide) g3 hP, zq_fb g3⟩
theorem zp_X10_without (hG : zt_Gs zo_g22 M) (hP : zq_P M) (a0 : Int32) : ∃ (x : Int32) (N : zm_I), zF_X10_without zW_M [.ref 0, .int a0] M = some (some (.int x), N) ∧ zt_Gs zo_g22 N ∧ zq_P N ∧ zt_fr (zi_519_K.2.2.1 ++ (zi_523_K.2.2.1)) M N := by
  rcases hP 0 (by decide) with h0 | h0
  · obtain ⟨x, N, g1, g2, g3, -⟩ := zp_i (w0 := zW_M) (G := zo_g22) (zi_519 0 zo_hd) rfl rfl rfl (zq_s1 zq_r0 (zq_s1 (zt_v_top a0) zq_s0)) (zq_ca (zq_c1 (zt_rgI _).1 h0.1) (zq_ca (zq_c1 (Int.le_of_eq h0.2.1.symm) (Int.le_of_eq h0.2.1)) (zq_ca (zq_c1 (Int.le_of_eq h0.2.2.symm) (Int.le_of_eq h0.2.2)) zh_no))) hG
    exact ⟨x, N, g1, g2, zq_kps_ok (by decide) g3 hP, zq_fa g3⟩
  · obtain ⟨x, N, g1, g2, g3, -⟩ := zp_i (w0 := zW_M) (G := zo_g22) (zi_523 0 zo_hd) rfl rfl rfl (zq_s1 zq_r0 (zq_s1 (zt_v_top a0) zq_s0)) (zq_ca (zq_c1 h0.1 h0.2) zh_no) hG
    exact ⟨x, N, g1, g2, zq_kps_ok (by decide) g3 hP, zq_fb g3⟩
theorem zp_X10_helps (hG : zt_Gs zo_g22 M) (hP : zq_P M) (a0 : Int32) : ∃ (x : Int32) (N : zm_I), zF_X10_helps zW_M [.ref 0, .int a0] M = some (some (.int x), N) ∧ zt_Gs zo_g22 N ∧ zq_P N ∧ zt_fr (zi_524_K.2.2.1 ++ (zi_526_K.2.2.1)) M N := by
  rcases hP 0 (by decide) with h0 | h0
  · obtain ⟨x, N, g1, g2, g3, -⟩ := zp_i (w0 := zW_M) (G := zo_g22) (zi_524 0 zo_hd) rfl rfl rfl (zq_s1 zq_r0 (zq_s1 (zt_v_top a0) zq_s0)) (zq_ca (zq_c1 (zt_rgI _).1 h0.1) (zq_ca (zq_c1 (Int.le_of_eq h0.2.1.symm) (Int.le_of_eq h0.2.1)) (zq_ca (zq_c1 (Int.le_of_eq h0.2.2.symm) (Int.le_of_eq h0.2.2)) zh_no))) hG
    exact ⟨x, N, g1, g2, zq_kps_ok (by decide) g3 hP, zq_fa g3⟩
  · obtain ⟨x, N, g1, g2, g3, -⟩ := zp_i (w0 := zW_M) (G := zo_g22) (zi_526 0 zo_hd) rfl rfl rfl (zq_s1 zq_r0 (zq_s1 (zt_v_top a0) zq_s0)) (zq_ca (zq_c1 h0.1 h0.2) zh_no) hG
    exact ⟨x, N, g1, g2, zq_kps_ok (by decide) g3 hP, zq_fb g3⟩
theorem zp_X10_less (hG : zt_Gs zo_g22 M) (hP : zq_P M) (a0 : Int32) : ∃ (x : Int32) (N : zm_I), zF_X10_less zW_M [.ref 0, .int a0] M = some (some (.int x), N) ∧ zt_Gs zo_g22 N ∧ zq_P N ∧ zt_fr (zi_527_K.2.2.1 ++ (zi_529_K.2.2.1)) M N := by
  rcases hP 0 (by decide) with h0 | h0
  · obtain ⟨x, N, g1, g2, g3, -⟩ := zp_i (w0 := zW_M) (G := zo_g22) (zi_527 0 zo_hd) rfl rfl rfl (zq_s1 zq_r0 (zq_s1 (zt_v_top a0) zq_s0)) (zq_ca (zq_c1 (zt_rgI _).1 h0.1) (zq_ca (zq_c1 (Int.le_of_eq h0.2.1.symm) (Int.le_of_eq h0.2.1)) (zq_ca (zq_c1 (Int.le_of_eq h0.2.2.symm) (Int.le_of_eq h0.2.2)) zh_no))) hG
    exact ⟨x, N, g1, g2, zq_kps_ok (by decide) g3 hP, zq_fa g3⟩
  · obtain ⟨x, N, g1, g2, g3, -⟩ := zp_i (w0 := zW_M) (G := zo_g22) (zi_529 0 zo_hd) rfl rfl rfl (zq_s1 zq_r0 (zq_s1 (zt_v_top a0) zq_s0)) (zq_ca (zq_c1 h0.1 h0.2) zh_no) hG
    exact ⟨x, N, g1, g2, zq_kps_ok (by decide) g3 hP, zq_fb g3⟩
theorem zp_X10_tuned (hG : zt_Gs zo_g22 M) (hP : zq_P M) (a0 : Int32) : ∃ (x : Int32) (N : zm_I), zF_X10_tuned zW_M [.ref 0, .int a0] M = some (some (.int x), N) ∧ zt_Gs zo_g22 N ∧ zq_P N ∧ zt_fr (zi_530_K.2.2.1 ++ (zi_532_K.2.2.1)) M N := by
  rcases hP 0 (by decide) with h0 | h0
  · obtain ⟨x, N, g1, g2, g3, -⟩ := zp_i (w0 := zW_M) (G := zo_g22) (zi_530 0 zo_hd) rfl rfl rfl (zq_s1 zq_r0 (zq_s1 (zt_v_top a0) zq_s0)) (zq_ca (zq_c1 (zt_rgI _).1 h0.1) (zq_ca (zq_c1 (Int.le_of_eq h0.2.1.symm) (Int.le_of_eq h0.2.1)) (zq_ca (zq_c1 (Int.le_of_eq h0.2.2.symm) (Int.le_of_eq h0.2.2)) zh_no))) hG
    exact ⟨x, N, g1, g2, zq_kps_ok (by decide) g3 hP, zq_fa g3⟩
  · obtain ⟨x, N, g1, g2, g3, -⟩ := zp_i (w0 := zW_M) (G := zo_g22) (zi_532 0 zo_hd) rfl rfl rfl (zq_s1 zq_r0 (zq_s1 (zt_v_top a0) zq_s0)) (zq_ca (zq_c1 h0.1 h0.2) zh_no) hG
    exact ⟨x, N, g1, g2, zq_kps_ok (by decide) g3 hP, zq_fb g3⟩
theorem zp_X10_moved (hG : zt_Gs zo_g22 M) (hP : zq_P M) (a0 : Int32) (a1 : Int32) : ∃ (x : Int32) (N : zm_I), zF_X10_moved zW_M [.ref 0, .int a0, .int a1] M = some (some (.int x), N) ∧ zt_Gs zo_g22 N ∧ zq_P N ∧ zt_fr (zi_533_K.2.2.1 ++ (zi_534_K.2.2.1)) M N := by
  rcases hP 0 (by decide) with h0 | h0
  · obtain ⟨x, N, g1, g2, g3, -⟩ := zp_i (w0 := zW_M) (G := zo_g22) (zi_533 0 zo_hd) rfl rfl rfl (zq_s1 zq_r0 (zq_s1 (zt_v_top a0) (zq_s1 (zt_v_top a1) zq_s0))) (zq_ca (zq_c1 (zt_rgI _).1 h0.1) (zq_ca (zq_c1 (Int.le_of_eq h0.2.1.symm) (Int.le_of_eq h0.2.1)) (zq_ca (zq_c1 (Int.le_of_eq h0.2.2.symm) (Int.le_of_eq h0.2.2)) zh_no))) hG
    exact ⟨x, N, g1, g2, zq_kps_ok (by decide) g3 hP, zq_fa g3⟩
  · obtain ⟨x, N, g1, g2, g3, -⟩ := zp_i (w0 := zW_M) (G := zo_g22) (zi_534 0 zo_hd) rfl rfl rfl (zq_s1 zq_r0 (zq_s1 (zt_v_top a0) (zq_s1 (zt_v_top a1) zq_s0))) (zq_ca (zq_c1 h0.1 h0.2) zh_no) hG
    exact ⟨x, N, g1, g2, zq_kps_ok (by decide) g3 hP, zq_fb g3⟩
theorem zp_X10_suits (hG : zt_Gs zo_g22 M) (hP : zq_P M) (a0 : Int32) : ∃ (x : Int32) (N : zm_I), zF_X10_suits zW_M [.ref 0, .int a0] M = some (some (.int x), N) ∧ zt_Gs zo_g22 N ∧ zq_P N ∧ zt_fr (zi_535_K.2.2.1 ++ (zi_536_K.2.2.1)) M N := by
  rcases hP 0 (by decide) with h0 | h0
  · obtain ⟨x, N, g1, g2, g3, -⟩ := zp_i (w0 := zW_M) (G := zo_g22) (zi_535 0 zo_hd) rfl rfl rfl (zq_s1 zq_r0 (zq_s1 (zt_v_top a0) zq_s0)) (zq_ca (zq_c1 (zt_rgI _).1 h0.1) (zq_ca (zq_c1 (Int.le_of_eq h0.2.1.symm) (Int.le_of_eq h0.2.1)) (zq_ca (zq_c1 (Int.le_of_eq h0.2.2.symm) (Int.le_of_eq h0.2.2)) zh_no))) hG
    exact ⟨x, N, g1, g2, zq_kps_ok (by decide) g3 hP, zq_fa g3⟩
  · obtain ⟨x, N, g1, g2, g3, -⟩ := zp_i (w0 := zW_M) (G := zo_g22) (zi_536 0 zo_hd) rfl rfl rfl (zq_s1 zq_r0 (zq_s1 (zt_v_top a0) zq_s0)) (zq_ca (zq_c1 h0.1 h0.2) zh_no) hG
    exact ⟨x, N, g1, g2, zq_kps_ok (by decide) g3 hP, zq_fb g3⟩
theorem zp_X10_hour (hG : zt_Gs zo_g22 M) (hP : zq_P M) (a0 : Int32) : ∃ (x : Int32) (N : zm_I), zF_X10_hour zW_M [.ref 0, .int a0] M = some (some (.int x), N) ∧ zt_Gs zo_g22 N ∧ zq_P N ∧ zt_fr (zi_537_K.2.2.1 ++ (zi_538_K.2.2.1)) M N := by
  rcases hP 0 (by decide) with h0 | h0
  · obtain ⟨x, N, g1, g2, g3, -⟩ := zp_i (w0 := zW_M) (G := zo_g22) (zi_537 0 zo_hd) rfl rfl rfl (zq_s1 zq_r0 (zq_s1 (zt_v_top a0) zq_s0)) (zq_ca (zq_c1 (zt_rgI _).1 h0.1) (zq_ca (zq_c1 (Int.le_of_eq h0.2.1.symm) (Int.le_of_eq h0.2.1)) (zq_ca (zq_c1 (Int.le_of_eq h0.2.2.symm) (Int.le_of_eq h0.2.2)) zh_no))) hG
    exact ⟨x, N, g1, g2, zq_kps_ok (by decide) g3 hP, zq_fa g3⟩
  · obtain ⟨x, N, g1, g2, g3, -⟩ := zp_i (w0 := zW_M) (G := zo_g22) (zi_538 0 zo_hd) rfl rfl rfl (zq_s1 zq_r0 (zq_s1 (zt_v_top a0) zq_s0)) (zq_ca (zq_c1 h0.1 h0.2) zh_no) hG
    exact ⟨x, N, g1, g2, zq_kps_ok (by decide) g3 hP, zq_fb g3⟩
theorem zp_X10_youth (hG : zt_Gs zo_g22 M) (hP : zq_P M) (a0 : Int32) : ∃ (x : Int32) (N : zm_I), zF_X10_youth zW_M [.ref 0, .int a0] M = some (some (.int x), N) ∧ zt_Gs zo_g22 N ∧ zq_P N ∧ zt_fr (zi_539_K.2.2.1 ++ (zi_540_K.2.2.1)) M N := by
  rcases hP 0 (by decide) with h0 | h0
  · obtain ⟨x, N, g1, g2, g3, -⟩ := zp_i (w0 := zW_M) (G := zo_g22) (zi_539 0 zo_hd) rfl rfl rfl (zq_s1 zq_r0 (zq_s1 (zt_v_top a0) zq_s0)) (zq_ca (zq_c1 (zt_rgI _).1 h0.1) (zq_ca (zq_c1 (Int.le_of_eq h0.2.1.symm) (Int.le_of_eq h0.2.1)) (zq_ca (zq_c1 (Int.le_of_eq h0.2.2.symm) (Int.le_of_eq h0.2.2)) zh_no))) hG
    exact ⟨x, N, g1, g2, zq_kps_ok (by decide) g3 hP, zq_fa g3⟩
  · obtain ⟨x, N, g1, g2, g3, -⟩ := zp_i (w0 := zW_M) (G := zo_g22) (zi_540 0 zo_hd) rfl rfl rfl (zq_s1 zq_r0 (zq_s1 (zt_v_top a0) zq_s0)) (zq_ca (zq_c1 h0.1 h0.2) zh_no) hG
    exact ⟨x, N, g1, g2, zq_kps_ok (by decide) g3 hP, zq_fb g3⟩
theorem zp_X10_best (hG : zt_Gs zo_g22 M) (hP : zq_P M) : ∃ (x : Int32) (N : zm_I), zF_X10_best zW_M [.ref 0] M = some (some (.int x), N) ∧ zt_Gs zo_g22 N ∧ zq_P N ∧ zt_fr (zi_541_K.2.2.1 ++ (zi_605_K.2.2.1)) M N := by
  rcases hP 0 (by decide) with h0 | h0
  · obtain ⟨x, N, g1, g2, g3, -⟩ := zp_i (w0 := zW_M) (G := zo_g22) (zi_541 0 zo_hd) rfl rfl rfl (zq_s1 zq_r0 zq_s0) (zq_ca (zq_c1 (zt_rgI _).1 h0.1) (zq_ca (zq_c1 (Int.le_of_eq h0.2.1.symm) (Int.le_of_eq h0.2.1)) (zq_ca (zq_c1 (Int.le_of_eq h0.2.2.symm) (Int.le_of_eq h0.2.2)) zh_no))) hG
    exact ⟨x, N, g1, g2, zq_kps_ok (by decide) g3 hP, zq_fa g3⟩
  · obtain ⟨x, N, g1, g2, g3, -⟩ := zp_i (w0 := zW_M) (G := zo_g22) (zi_605 0 zo_hd) rfl rfl rfl (zq_s1 zq_r0 zq_s0) (zq_ca (zq_c1 h0.1 h0.2) zh_no) hG
    exact ⟨x, N, g1, g2, zq_kps_ok (by decide) g3 hP, zq_fb g3⟩
theorem zp_X10_plan (hG : zt_Gs zo_g22 M) (hP : zq_P M) (a0 : Int32) : ∃ (x : Int32) (N : zm_I), zF_X10_plan zW_M [.ref 0, .int a0] M = some (some (.int x), N) ∧ zt_Gs zo_g22 N ∧ zq_P N ∧ zt_fr (zi_606_K.2.2.1 ++ (zi_609_K.2.2.1)) M N := by
  rcases hP 0 (by decide) with h0 | h0
  · obtain ⟨x, N, g1, g2, g3, -⟩ := zp_i (w0 := zW_M) (G := zo_g22) (zi_606 0 zo_hd) rfl rfl rfl (zq_s1 zq_r0 (zq_s1 (zt_v_top a0) zq_s0)) (zq_ca (zq_c1 (zt_rgI _).1 h0.1) (zq_ca (zq_c1 (Int.le_of_eq h0.2.1.symm) (Int.le_of_eq h0.2.1)) (zq_ca (zq_c1 (Int.le_of_eq h0.2.2.symm) (Int.le_of_eq h0.2.2)) zh_no))) hG
    exact ⟨x, N, g1, g2, zq_kps_ok (by decide) g3 hP, zq_fa g3⟩
  · obtain ⟨x, N, g1, g2, g3, -⟩ := zp_i (w0 := zW_M) (G := zo_g22) (zi_609 0 zo_hd) rfl rfl rfl (zq_s1 zq_r0 (zq_s1 (zt_v_top a0) zq_s0)) (zq_ca (zq_c1 h0.1 h0.2) zh_no) hG
    exact ⟨x, N, g1, g2, zq_kps_ok (by decide) g3 hP, zq_fb g3⟩
theorem zp_X10_ways (hG : zt_Gs zo_g22 M) (hP : zq_P M) : ∃ (x : Int32) (N : zm_I), zF_X10_ways zW_M [.ref 0] M = some (some (.int x), N) ∧ zt_Gs zo_g22 N ∧ zq_P N ∧ zt_fr (zi_610_K.2.2.1 ++ (zi_611_K.2.2.1)) M N := by
  rcases hP 0 (by decide) with h0 | h0
  · obtain ⟨x, N, g1, g2, g3, -⟩ := zp_i (w0 := zW_M) (G := zo_g22) (zi_610 0 zo_hd) rfl rfl rfl (zq_s1 zq_r0 zq_s0) (zq_ca (zq_c1 (zt_rgI _).1 h0.1) (zq_ca (zq_c1 (Int.le_of_eq h0.2.1.symm) (Int.le_of_eq h0.2.1)) (zq_ca (zq_c1 (Int.le_of_eq h0.2.2.symm) (Int.le_of_eq h0.2.2)) zh_no))) hG
    exact ⟨x, N, g1, g2, zq_kps_ok (by decide) g3 hP, zq_fa g3⟩
  · obtain ⟨x, N, g1, g2, g3, -⟩ := zp_i (w0 := zW_M) (G := zo_g22) (zi_611 0 zo_hd) rfl rfl rfl (zq_s1 zq_r0 zq_s0) (zq_ca (zq_c1 h0.1 h0.2) zh_no) hG
    exact ⟨x, N, g1, g2, zq_kps_ok (by decide) g3 hP, zq_fb g3⟩
theorem zp_X10_every (hG : zt_Gs zo_g22 M) (hP : zq_P M) : ∃ (x : Int32) (N : zm_I), zF_X10_every zW_M [.ref 0] M = some (some (.int x), N) ∧ zt_Gs zo_g22 N ∧ zq_P N ∧ zt_fr (zi_612_K.2.2.1 ++ (zi_614_K.2.2.1)) M N := by
  rcases hP 0 (by decide) with h0 | h0
  · obtain ⟨x, N, g1, g2, g3, -⟩ := zp_i (w0 := zW_M) (G := zo_g22) (zi_612 0 zo_hd) rfl rfl rfl (zq_s1 zq_r0 zq_s0) (zq_ca (zq_c1 (zt_rgI _).1 h0.1) (zq_ca (zq_c1 (Int.le_of_eq h0.2.1.symm) (Int.le_of_eq h0.2.1)) (zq_ca (zq_c1 (Int.le_of_eq h0.2.2.symm) (Int.le_of_eq h0.2.2)) zh_no))) hG
    exact ⟨x, N, g1, g2, zq_kps_ok (by decide) g3 hP, zq_fa g3⟩
  · obtain ⟨x, N, g1, g2, g3, -⟩ := zp_i (w0 := zW_M) (G := zo_g22) (zi_614 0 zo_hd) rfl rfl rfl (zq_s1 zq_r0 zq_s0) (zq_ca (zq_c1 h0.1 h0.2) zh_no) hG
    exact ⟨x, N, g1, g2, zq_kps_ok (by decide) g3 hP, zq_fb g3⟩
theorem zp_X10_calls (hG : zt_Gs zo_g22 M) (hP : zq_P M) : ∃ (x : Int32) (N : zm_I), zF_X10_calls zW_M [.ref 0] M = some (some (.int x), N) ∧ zt_Gs zo_g22 N ∧ zq_P N ∧ zt_fr (zi_615_K.2.2.1 ++ (zi_616_K.2.2.1)) M N := by
  rcases hP 0 (by decide) with h0 | h0
  · obtain ⟨x, N, g1, g2, g3, -⟩ := zp_i (w0 := zW_M) (G := zo_g22) (zi_615 0 zo_hd) rfl rfl rfl (zq_s1 zq_r0 zq_s0) (zq_ca (zq_c1 (zt_rgI _).1 h0.1) (zq_ca (zq_c1 (Int.le_of_eq h0.2.1.symm) (Int.le_of_eq h0.2.1)) (zq_ca (zq_c1 (Int.le_of_eq h0.2.2.symm) (Int.le_of_eq h0.2.2)) zh_no))) hG
    exact ⟨x, N, g1, g2, zq_kps_ok (by decide) g3 hP, zq_fa g3⟩
  · obtain ⟨x, N, g1, g2, g3, -⟩ := zp_i (w0 := zW_M) (G := zo_g22) (zi_616 0 zo_hd) rfl rfl rfl (zq_s1 zq_r0 zq_s0) (zq_ca (zq_c1 h0.1 h0.2) zh_no) hG
    exact ⟨x, N, g1, g2, zq_kps_ok (by decide) g3 hP, zq_fb g3⟩
theorem zp_X10_none (hG : zt_Gs zo_g22 M) (hP : zq_P M) : ∃ (x : Int32) (N : zm_I), zF_X10_none zW_M [.ref 0] M = some (some (.int x), N) ∧ zt_Gs zo_g22 N ∧ zq_P N ∧ zt_fr (zi_617_K.2.2.1 ++ (zi_618_K.2.2.1)) M N := by
  rcases hP 0 (by decide) with h0 | h0
  · obtain ⟨x, N, g1, g2, g3, -⟩ := zp_i (w0 := zW_M) (G := zo_g22) (zi_617 0 zo_hd) rfl rfl rfl (zq_s1 zq_r0 zq_s0) (zq_ca (zq_c1 (zt_rgI _).1 h0.1) (zq_ca (zq_c1 (Int.le_of_eq h0.2.1.symm) (Int.le_of_eq h0.2.1)) (zq_ca (zq_c1 (Int.le_of_eq h0.2.2.symm) (Int.le_of_eq h0.2.2)) zh_no))) hG
    exact ⟨x, N, g1, g2, zq_kps_ok (by decide) g3 hP, zq_fa g3⟩
  · obtain ⟨x, N, g1, g2, g3, -⟩ := zp_i (w0 := zW_M) (G := zo_g22) (zi_618 0 zo_hd) rfl rfl rfl (zq_s1 zq_r0 zq_s0) (zq_ca (zq_c1 h0.1 h0.2) zh_no) hG
    exact ⟨x, N, g1, g2, zq_kps_ok (by decide) g3 hP, zq_fb g3⟩
theorem zp_X10_by (hG : zt_Gs zo_g22 M) (hP : zq_P M) (a0 : Int32) : ∃ (x : Int32) (N : zm_I), zF_X10_by zW_M [.ref 0, .int a0] M = some (some (.int x), N) ∧ zt_Gs zo_g22 N ∧ zq_P N ∧ zt_fr (zi_620_K.2.2.1 ++ (zi_623_K.2.2.1)) M N := by
  rcases hP 0 (by decide) with h0 | h0
  · obtain ⟨x, N, g1, g2, g3, -⟩ := zp_i (w0 := zW_M) (G := zo_g22) (zi_620 0 zo_hd) rfl rfl rfl (zq_s1 zq_r0 (zq_s1 (zt_v_top a0) zq_s0)) (zq_ca (zq_c1 (zt_rgI _).1 h0.1) (zq_ca (zq_c1 (Int.le_of_eq h0.2.1.symm) (Int.le_of_eq h0.2.1)) (zq_ca (zq_c1 (Int.le_of_eq h0.2.2.symm) (Int.le_of_eq h0.2.2)) zh_no))) hG
    exact ⟨x, N, g1, g2, zq_kps_ok (by decide) g3 hP, zq_fa g3⟩
  · obtain ⟨x, N, g1, g2, g3, -⟩ := zp_i (w0 := zW_M) (G := zo_g22) (zi_623 0 zo_hd) rfl rfl rfl (zq_s1 zq_r0 (zq_s1 (zt_v_top a0) zq_s0)) (zq_ca (zq_c1 h0.1 h0.2) zh_no) hG
    exact ⟨x, N, g1, g2, zq_kps_ok (by decide) g3 hP, zq_fb g3⟩
theorem zp_X10_law (hG : zt_Gs zo_g22 M) (hP : zq_P M) : ∃ (x : Int32) (N : zm_I), zF_X10_law zW_M [.ref 0] M = some (some (.int x), N) ∧ zt_Gs zo_g22 N ∧ zq_P N ∧ zt_fr (zi_624_K.2.2.1 ++ (zi_626_K.2.2.1)) M N := by
  rcases hP 0 (by decide) with h0 | h0
  · obtain ⟨x, N, g1, g2, g3, -⟩ := zp_i (w0 := zW_M) (G := zo_g22) (zi_624 0 zo_hd) rfl rfl rfl (zq_s1 zq_r0 zq_s0) (zq_ca (zq_c1 (zt_rgI _).1 h0.1) (zq_ca (zq_c1 (Int.le_of_eq h0.2.1.symm) (Int.le_of_eq h0.2.1)) (zq_ca (zq_c1 (Int.le_of_eq h0.2.2.symm) (Int.le_of_eq h0.2.2)) zh_no))) hG
    exact ⟨x, N, g1, g2, zq_kps_ok (by decide) g3 hP, zq_fa g3⟩
  · obtain ⟨x, N, g1, g2, g3, -⟩ := zp_i (w0 := zW_M) (G := zo_g22) (zi_626 0 zo_hd) rfl rfl rfl (zq_s1 zq_r0 zq_s0) (zq_ca (zq_c1 h0.1 h0.2) zh_no) hG
    exact ⟨x, N, g1, g2, zq_kps_ok (by decide) g3 hP, zq_fb g3⟩
theorem zp_X10_laws (hG : zt_Gs zo_g22 M) (hP : zq_P M) (a0 : Int32) : ∃ (x : Int32) (N : zm_I), zF_X10_laws zW_M [.ref 0, .int a0] M = some (some (.int x), N) ∧ zt_Gs zo_g22 N ∧ zq_P N ∧ zt_fr (zi_628_K.2.2.1 ++ (zi_634_K.2.2.1)) M N := by
  rcases hP 0 (by decide) with h0 | h0
  · obtain ⟨x, N, g1, g2, g3, -⟩ := zp_i (w0 := zW_M) (G := zo_g22) (zi_628 0 zo_hd) rfl rfl rfl (zq_s1 zq_r0 (zq_s1 (zt_v_top a0) zq_s0)) (zq_ca (zq_c1 (zt_rgI _).1 h0.1) (zq_ca (zq_c1 (Int.le_of_eq h0.2.1.symm) (Int.le_of_eq h0.2.1)) (zq_ca (zq_c1 (Int.le_of_eq h0.2.2.symm) (Int.le_of_eq h0.2.2)) zh_no))) hG
    exact ⟨x, N, g1, g2, zq_kps_ok (by decide) g3 hP, zq_fa g3⟩
  · obtain ⟨x, N, g1, g2, g3, -⟩ := zp_i (w0 := zW_M) (G := zo_g22) (zi_634 0 zo_hd) rfl rfl rfl (zq_s1 zq_r0 (zq_s1 (zt_v_top a0) zq_s0)) (zq_ca (zq_c1 h0.1 h0.2) zh_no) hG
    exact ⟨x, N, g1, g2, zq_kps_ok (by decide) g3 hP, zq_fb g3⟩
theorem zp_X10_sat (hG : zt_Gs zo_g22 M) (hP : zq_P M) (a0 : Int32) (a1 : Int32) : ∃ (x : Int32) (N : zm_I), zF_X10_sat zW_M [.ref 0, .int a0, .int a1] M = some (some (.int x), N) ∧ zt_Gs zo_g22 N ∧ zq_P N ∧ zt_fr (zi_636_K.2.2.1 ++ (zi_643_K.2.2.1)) M N := by
  rcases hP 0 (by decide) with h0 | h0
  · obtain ⟨x, N, g1, g2, g3, -⟩ := zp_i (w0 := zW_M) (G := zo_g22) (zi_636 0 zo_hd) rfl rfl rfl (zq_s1 zq_r0 (zq_s1 (zt_v_top a0) (zq_s1 (zt_v_top a1) zq_s0))) (zq_ca (zq_c1 (zt_rgI _).1 h0.1) (zq_ca (zq_c1 (Int.le_of_eq h0.2.1.symm) (Int.le_of_eq h0.2.1)) (zq_ca (zq_c1 (Int.le_of_eq h0.2.2.symm) (Int.le_of_eq h0.2.2)) zh_no))) hG
    exact ⟨x, N, g1, g2, zq_kps_ok (by decide) g3 hP, zq_fa g3⟩
  · obtain ⟨x, N, g1, g2, g3, -⟩ := zp_i (w0 := zW_M) (G := zo_g22) (zi_643 0 zo_hd) rfl rfl rfl (zq_s1 zq_r0 (zq_s1 (zt_v_top a0) (zq_s1 (zt_v_top a1) zq_s0))) (zq_ca (zq_c1 h0.1 h0.2) zh_no) hG
    exact ⟨x, N, g1, g2, zq_kps_ok (by decide) g3 hP, zq_fb g3⟩
theorem zp_X10_ask (hG : zt_Gs zo_g22 M) (hP : zq_P M) (a0 : Int32) (a1 : Int32) : ∃ (x : Int32) (N : zm_I), zF_X10_ask zW_M [.ref 0, .int a0, .int a1] M = some (some (.int x), N) ∧ zt_Gs zo_g22 N ∧ zq_P N ∧ zt_fr (zi_644_K.2.2.1 ++ (zi_645_K.2.2.1)) M N := by
  rcases hP 0 (by decide) with h0 | h0
  · obtain ⟨x, N, g1, g2, g3, -⟩ := zp_i (w0 := zW_M) (G := zo_g22) (zi_644 0 zo_hd) rfl rfl rfl (zq_s1 zq_r0 (zq_s1 (zt_v_top a0) (zq_s1 (zt_v_top a1) zq_s0))) (zq_ca (zq_c1 (zt_rgI _).1 h0.1) (zq_ca (zq_c1 (Int.le_of_eq h0.2.1.symm) (Int.le_of_eq h0.2.1)) (zq_ca (zq_c1 (Int.le_of_eq h0.2.2.symm) (Int.le_of_eq h0.2.2)) zh_no))) hG
    exact ⟨x, N, g1, g2, zq_kps_ok (by decide) g3 hP, zq_fa g3⟩
  · obtain ⟨x, N, g1, g2, g3, -⟩ := zp_i (w0 := zW_M) (G := zo_g22) (zi_645 0 zo_hd) rfl rfl rfl (zq_s1 zq_r0 (zq_s1 (zt_v_top a0) (zq_s1 (zt_v_top a1) zq_s0))) (zq_ca (zq_c1 h0.1 h0.2) zh_no) hG
    exact ⟨x, N, g1, g2, zq_kps_ok (by decide) g3 hP, zq_fb g3⟩
theorem zp_X10_marks (hG : zt_Gs zo_g22 M) (hP : zq_P M) (a0 : Int32) : ∃ (x : Int32) (N : zm_I), zF_X10_marks zW_M [.ref 0, .int a0] M = some (some (.int x), N) ∧ zt_Gs zo_g22 N ∧ zq_P N ∧ zt_fr (zi_647_K.2.2.1 ++ (zi_649_K.2.2.1)) M N := by
  rcases hP 0 (by decide) with h0 | h0
  · obtain ⟨x, N, g1, g2, g3, -⟩ := zp_i (w0 := zW_M) (G := zo_g22) (zi_647 0 zo_hd) rfl rfl rfl (zq_s1 zq_r0 (zq_s1 (zt_v_top a0) zq_s0)) (zq_ca (zq_c1 (zt_rgI _).1 h0.1) (zq_ca (zq_c1 (Int.le_of_eq h0.2.1.symm) (Int.le_of_eq h0.2.1)) (zq_ca (zq_c1 (Int.le_of_eq h0.2.2.symm) (Int.le_of_eq h0.2.2)) zh_no))) hG
    exact ⟨x, N, g1, g2, zq_kps_ok (by decide) g3 hP, zq_fa g3⟩
  · obtain ⟨x, N, g1, g2, g3, -⟩ := zp_i (w0 := zW_M) (G := zo_g22) (zi_649 0 zo_hd) rfl rfl rfl (zq_s1 zq_r0 (zq_s1 (zt_v_top a0) zq_s0)) (zq_ca (zq_c1 h0.1 h0.2) zh_no) hG
    exact ⟨x, N, g1, g2, zq_kps_ok (by decide) g3 hP, zq_fb g3⟩
theorem zp_X10_mark (hG : zt_Gs zo_g22 M) (hP : zq_P M) (a0 : Int32) (a1 : Int32) : ∃ (x : Int32) (N : zm_I), zF_X10_mark zW_M [.ref 0, .int a0, .int a1] M = some (some (.int x), N) ∧ zt_Gs zo_g22 N ∧ zq_P N ∧ zt_fr (zi_650_K.2.2.1 ++ (zi_651_K.2.2.1)) M N := by
  rcases hP 0 (by decide) with h0 | h0
  · obtain ⟨x, N, g1, g2, g3, -⟩ := zp_i (w0 := zW_M) (G := zo_g22) (zi_650 0 zo_hd) rfl rfl rfl (zq_s1 zq_r0 (zq_s1 (zt_v_top a0) (zq_s1 (zt_v_top a1) zq_s0))) (zq_ca (zq_c1 (zt_rgI _).1 h0.1) (zq_ca (zq_c1 (Int.le_of_eq h0.2.1.symm) (Int.le_of_eq h0.2.1)) (zq_ca (zq_c1 (Int.le_of_eq h0.2.2.symm) (Int.le_of_eq h0.2.2)) zh_no))) hG
    exact ⟨x, N, g1, g2, zq_kps_ok (by decide) g3 hP, zq_fa g3⟩
  · obtain ⟨x, N, g1, g2, g3, -⟩ := zp_i (w0 := zW_M) (G := zo_g22) (zi_651 0 zo_hd) rfl rfl rfl (zq_s1 zq_r0 (zq_s1 (zt_v_top a0) (zq_s1 (zt_v_top a1) zq_s0))) (zq_ca (zq_c1 h0.1 h0.2) zh_no) hG
    exact ⟨x, N, g1, g2, zq_kps_ok (by decide) g3 hP, zq_fb g3⟩
theorem zp_X10_under (hG : zt_Gs zo_g22 M) (hP : zq_P M) (a0 : Int32) (a1 : Int32) : ∃ (x : Int32) (N : zm_I), zF_X10_under zW_M [.ref 0, .int a0, .int a1] M = some (some (.int x), N) ∧ zt_Gs zo_g22 N ∧ zq_P N ∧ zt_fr (zi_652_K.2.2.1 ++ (zi_653_K.2.2.1)) M N := by
  rcases hP 0 (by decide) with h0 | h0
  · obtain ⟨x, N, g1, g2, g3, -⟩ := zp_i (w0 := zW_M) (G := zo_g22) (zi_652 0 zo_hd) rfl rfl rfl (zq_s1 zq_r0 (zq_s1 (zt_v_top a0) (zq_s1 (zt_v_top a1) zq_s0))) (zq_ca (zq_c1 (zt_rgI _).1 h0.1) (zq_ca (zq_c1 (Int.le_of_eq h0.2.1.symm) (Int.le_of_eq h0.2.1)) (zq_ca (zq_c1 (Int.le_of_eq h0.2.2.symm) (Int.le_of_eq h0.2.2)) zh_no))) hG
    exact ⟨x, N, g1, g2, zq_kps_ok (by decide) g3 hP, zq_fa g3⟩
  · obtain ⟨x, N, g1, g2, g3, -⟩ := zp_i (w0 := zW_M) (G := zo_g22) (zi_653 0 zo_hd) rfl rfl rfl (zq_s1 zq_r0 (zq_s1 (zt_v_top a0) (zq_s1 (zt_v_top a1) zq_s0))) (zq_ca (zq_c1 h0.1 h0.2) zh_no) hG
    exact ⟨x, N, g1, g2, zq_kps_ok (by decide) g3 hP, zq_fb g3⟩
theorem zp_X10_rests (hG : zt_Gs zo_g22 M) (hP : zq_P M) (a0 : Int32) (a1 : Int32) : ∃ (x : Int32) (N : zm_I), zF_X10_rests zW_M [.ref 0, .int a0, .int a1] M = some (some (.int x), N) ∧ zt_Gs zo_g22 N ∧ zq_P N ∧ zt_fr (zi_655_K.2.2.1 ++ (zi_659_K.2.2.1)) M N := by
  rcases hP 0 (by decide) with h0 | h0
  · obtain ⟨x, N, g1, g2, g3, -⟩ := zp_i (w0 := zW_M) (G := zo_g22) (zi_655 0 zo_hd) rfl rfl rfl (zq_s1 zq_r0 (zq_s1 (zt_v_top a0) (zq_s1 (zt_v_top a1) zq_s0))) (zq_ca (zq_c1 (zt_rgI _).1 h0.1) (zq_ca (zq_c1 (Int.le_of_eq h0.2.1.symm) (Int.le_of_eq h0.2.1)) (zq_ca (zq_c1 (Int.le_of_eq h0.2.2.symm) (Int.le_of_eq h0.2.2)) zh_no))) hG
    exact ⟨x, N, g1, g2, zq_kps_ok (by decide) g3 hP, zq_fa g3⟩
  · obtain ⟨x, N, g1, g2, g3, -⟩ := zp_i (w0 := zW_M) (G := zo_g22) (zi_659 0 zo_hd) rfl rfl rfl (zq_s1 zq_r0 (zq_s1 (zt_v_top a0) (zq_s1 (zt_v_top a1) zq_s0))) (zq_ca (zq_c1 h0.1 h0.2) zh_no) hG
    exact ⟨x, N, g1, g2, zq_kps_ok (by decide) g3 hP, zq_fb g3⟩
theorem zp_X10_rest (hG : zt_Gs zo_g22 M) (hP : zq_P M) (a0 : Int32) (a1 : Int32) : ∃ (x : Int32) (N : zm_I), zF_X10_rest zW_M [.ref 0, .int a0, .int a1] M = some (some (.int x), N) ∧ zt_Gs zo_g22 N ∧ zq_P N ∧ zt_fr (zi_660_K.2.2.1 ++ (zi_661_K.2.2.1)) M N := by
  rcases hP 0 (by decide) with h0 | h0
  · obtain ⟨x, N, g1, g2, g3, -⟩ := zp_i (w0 := zW_M) (G := zo_g22) (zi_660 0 zo_hd) rfl rfl rfl (zq_s1 zq_r0 (zq_s1 (zt_v_top a0) (zq_s1 (zt_v_top a1) zq_s0))) (zq_ca (zq_c1 (zt_rgI _).1 h0.1) (zq_ca (zq_c1 (Int.le_of_eq h0.2.1.symm) (Int.le_of_eq h0.2.1)) (zq_ca (zq_c1 (Int.le_of_eq h0.2.2.symm) (Int.le_of_eq h0.2.2)) zh_no))) hG
    exact ⟨x, N, g1, g2, zq_kps_ok (by decide) g3 hP, zq_fa g3⟩
  · obtain ⟨x, N, g1, g2, g3, -⟩ := zp_i (w0 := zW_M) (G := zo_g22) (zi_661 0 zo_hd) rfl rfl rfl (zq_s1 zq_r0 (zq_s1 (zt_v_top a0) (zq_s1 (zt_v_top a1) zq_s0))) (zq_ca (zq_c1 h0.1 h0.2) zh_no) hG
    exact ⟨x, N, g1, g2, zq_kps_ok (by decide) g3 hP, zq_fb g3⟩
theorem zp_X10_swaps (hG : zt_Gs zo_g22 M) (hP : zq_P M) : ∃ (x : Int32) (N : zm_I), zF_X10_swaps zW_M [.ref 0] M = some (some (.int x), N) ∧ zt_Gs zo_g22 N ∧ zq_P N ∧ zt_fr (zi_662_K.2.2.1 ++ (zi_665_K.2.2.1)) M N := by
  rcases hP 0 (by decide) with h0 | h0
  · obtain ⟨x, N, g1, g2, g3, -⟩ := zp_i (w0 := zW_M) (G := zo_g22) (zi_662 0 zo_hd) rfl rfl rfl (zq_s1 zq_r0 zq_s0) (zq_ca (zq_c1 (zt_rgI _).1 h0.1) (zq_ca (zq_c1 (Int.le_of_eq h0.2.1.symm) (Int.le_of_eq h0.2.1)) (zq_ca (zq_c1 (Int.le_of_eq h0.2.2.symm) (Int.le_of_eq h0.2.2)) zh_no))) hG
    exact ⟨x, N, g1, g2, zq_kps_ok (by decide) g3 hP, zq_fa g3⟩
  · obtain ⟨x, N, g1, g2, g3, -⟩ := zp_i (w0 := zW_M) (G := zo_g22) (zi_665 0 zo_hd) rfl rfl rfl (zq_s1 zq_r0 zq_s0) (zq_ca (zq_c1 h0.1 h0.2) zh_no) hG
    exact ⟨x, N, g1, g2, zq_kps_ok (by decide) g3 hP, zq_fb g3⟩
theorem zp_X10_swap (hG : zt_Gs zo_g22 M) (hP : zq_P M) : ∃ (x : Int32) (N : zm_I), zF_X10_swap zW_M [.ref 0] M = some (some (.int x), N) ∧ zt_Gs zo_g22 N ∧ zq_P N ∧ zt_fr (zi_666_K.2.2.1 ++ (zi_667_K.2.2.1)) M N := by
  rcases hP 0 (by decide) with h0 | h0
  · obtain ⟨x, N, g1, g2, g3, -⟩ := zp_i (w0 := zW_M) (G := zo_g22) (zi_666 0 zo_hd) rfl rfl rfl (zq_s1 zq_r0 zq_s0) (zq_ca (zq_c1 (zt_rgI _).1 h0.1) (zq_ca (zq_c1 (Int.le_of_eq h0.2.1.symm) (Int.le_of_eq h0.2.1)) (zq_ca (zq_c1 (Int.le_of_eq h0.2.2.symm) (Int.le_of_eq h0.2.2)) zh_no))) hG
    exact ⟨x, N, g1, g2, zq_kps_ok (by decide) g3 hP, zq_fa g3⟩
  · obtain ⟨x, N, g1, g2, g3, -⟩ := zp_i (w0 := zW_M) (G := zo_g22) (zi_667 0 zo_hd) rfl rfl rfl (zq_s1 zq_r0 zq_s0) (zq_ca (zq_c1 h0.1 h0.2) zh_no) hG
    exact ⟨x, N, g1, g2, zq_kps_ok (by decide) g3 hP, zq_fb g3⟩
theorem zp_X10_chance (hG : zt_Gs zo_g22 M) (hP : zq_P M) (a0 : Int32) (a1 : Int32) (a2 : Int32) : ∃ (x : Int64) (N : zm_I), zF_X10_chance zW_M [.ref 0, .int a0, .int a1, .int a2] M = some (some (.long x), N) ∧ zt_Gs zo_g22 N ∧ zq_P N ∧ zt_fr (zi_669_K.2.2.1 ++ (zi_687_K.2.2.1)) M N := by
  rcases hP 0 (by decide) with h0 | h0
  · obtain ⟨x, N, g1, g2, g3, -⟩ := zp_j (w0 := zW_M) (G := zo_g22) (zi_669 0 zo_hd) rfl rfl rfl (zq_s1 zq_r0 (zq_s1 (zt_v_top a0) (zq_s1 (zt_v_top a1) (zq_s1 (zt_v_top a2) zq_s0)))) (zq_ca (zq_c1 (zt_rgI _).1 h0.1) (zq_ca (zq_c1 (Int.le_of_eq h0.2.1.symm) (Int.le_of_eq h0.2.1)) (zq_ca (zq_c1 (Int.le_of_eq h0.2.2.symm) (Int.le_of_eq h0.2.2)) zh_no))) hG
    exact ⟨x, N, g1, g2, zq_kps_ok (by decide) g3 hP, zq_fa g3⟩
  · obtain ⟨x, N, g1, g2, g3, -⟩ := zp_j (w0 := zW_M) (G := zo_g22) (zi_687 0 zo_hd) rfl rfl rfl (zq_s1 zq_r0 (zq_s1 (zt_v_top a0) (zq_s1 (zt_v_top a1) (zq_s1 (zt_v_top a2) zq_s0)))) (zq_ca (zq_c1 h0.1 h0.2) zh_no) hG
    exact ⟨x, N, g1, g2, zq_kps_ok (by decide) g3 hP, zq_fb g3⟩
theorem zp_X10_luckily (hG : zt_Gs zo_g22 M) (hP : zq_P M) (a0 : Int32) (a1 : Int32) (a2 : Int32) : ∃ (x : Int64) (N : zm_I), zF_X10_luckily zW_M [.ref 0, .int a0, .int a1, .int a2] M = some (some (.long x), N) ∧ zt_Gs zo_g22 N ∧ zq_P N ∧ zt_fr (zi_688_K.2.2.1 ++ (zi_689_K.2.2.1)) M N := by
  rcases hP 0 (by decide) with h0 | h0
  · obtain ⟨x, N, g1, g2, g3, -⟩ := zp_j (w0 := zW_M) (G := zo_g22) (zi_688 0 zo_hd) rfl rfl rfl (zq_s1 zq_r0 (zq_s1 (zt_v_top a0) (zq_s1 (zt_v_top a1) (zq_s1 (zt_v_top a2) zq_s0)))) (zq_ca (zq_c1 (zt_rgI _).1 h0.1) (zq_ca (zq_c1 (Int.le_of_eq h0.2.1.symm) (Int.le_of_eq h0.2.1)) (zq_ca (zq_c1 (Int.le_of_eq h0.2.2.symm) (Int.le_of_eq h0.2.2)) zh_no))) hG
    exact ⟨x, N, g1, g2, zq_kps_ok (by decide) g3 hP, zq_fa g3⟩
  · obtain ⟨x, N, g1, g2, g3, -⟩ := zp_j (w0 := zW_M) (G := zo_g22) (zi_689 0 zo_hd) rfl rfl rfl (zq_s1 zq_r0 (zq_s1 (zt_v_top a0) (zq_s1 (zt_v_top a1) (zq_s1 (zt_v_top a2) zq_s0)))) (zq_ca (zq_c1 h0.1 h0.2) zh_no) hG
    exact ⟨x, N, g1, g2, zq_kps_ok (by decide) g3 hP, zq_fb g3⟩
theorem zp_X10_mean (hG : zt_Gs zo_g22 M) (hP : zq_P M) (a0 : Int32) (a1 : Int32) : ∃ (x : Int64) (N : zm_I), zF_X10_mean zW_M [.ref 0, .int a0, .int a1] M = some (some (.long x), N) ∧ zt_Gs zo_g22 N ∧ zq_P N ∧ zt_fr (zi_690_K.2.2.1 ++ (zi_692_K.2.2.1)) M N := by
  rcases hP 0 (by decide) with h0 | h0
  · obtain ⟨x, N, g1, g2, g3, -⟩ := zp_j (w0 := zW_M) (G := zo_g22) (zi_690 0 zo_hd) rfl rfl rfl (zq_s1 zq_r0 (zq_s1 (zt_v_top a0) (zq_s1 (zt_v_top a1) zq_s0))) (zq_ca (zq_c1 (zt_rgI _).1 h0.1) (zq_ca (zq_c1 (Int.le_of_eq h0.2.1.symm) (Int.le_of_eq h0.2.1)) (zq_ca (zq_c1 (Int.le_of_eq h0.2.2.symm) (Int.le_of_eq h0.2.2)) zh_no))) hG
    exact ⟨x, N, g1, g2, zq_kps_ok (by decide) g3 hP, zq_fa g3⟩
  · obtain ⟨x, N, g1, g2, g3, -⟩ := zp_j (w0 := zW_M) (G := zo_g22) (zi_692 0 zo_hd) rfl rfl rfl (zq_s1 zq_r0 (zq_s1 (zt_v_top a0) (zq_s1 (zt_v_top a1) zq_s0))) (zq_ca (zq_c1 h0.1 h0.2) zh_no) hG
    exact ⟨x, N, g1, g2, zq_kps_ok (by decide) g3 hP, zq_fb g3⟩
theorem zp_X10_move (hG : zt_Gs zo_g22 M) (hP : zq_P M) (a0 : Int32) (a1 : Int32) (a2 : Int32) : ∃ (x : Int32) (N : zm_I), zF_X10_move zW_M [.ref 0, .int a0, .int a1, .int a2] M = some (some (.int x), N) ∧ zt_Gs zo_g22 N ∧ zq_P N ∧ zt_fr (zi_693_K.2.2.1 ++ (zi_694_K.2.2.1)) M N := by
  rcases hP 0 (by decide) with h0 | h0
  · obtain ⟨x, N, g1, g2, g3, -⟩ := zp_i (w0 := zW_M) (G := zo_g22) (zi_693 0 zo_hd) rfl rfl rfl (zq_s1 zq_r0 (zq_s1 (zt_v_top a0) (zq_s1 (zt_v_top a1) (zq_s1 (zt_v_top a2) zq_s0)))) (zq_ca (zq_c1 (zt_rgI _).1 h0.1) (zq_ca (zq_c1 (Int.le_of_eq h0.2.1.symm) (Int.le_of_eq h0.2.1)) (zq_ca (zq_c1 (Int.le_of_eq h0.2.2.symm) (Int.le_of_eq h0.2.2)) zh_no))) hG
    exact ⟨x, N, g1, g2, zq_kps_ok (by decide) g3 hP, zq_fa g3⟩
  · obtain ⟨x, N, g1, g2, g3, -⟩ := zp_i (w0 := zW_M) (G := zo_g22) (zi_694 0 zo_hd) rfl rfl rfl (zq_s1 zq_r0 (zq_s1 (zt_v_top a0) (zq_s1 (zt_v_top a1) (zq_s1 (zt_v_top a2) zq_s0)))) (zq_ca (zq_c1 h0.1 h0.2) zh_no) hG
    exact ⟨x, N, g1, g2, zq_kps_ok (by decide) g3 hP, zq_fb g3⟩
theorem zp_X10_undo (hG : zt_Gs zo_g22 M) (hP : zq_P M) : ∃ (x : Int32) (N : zm_I), zF_X10_undo zW_M [.ref 0] M = some (some (.int x), N) ∧ zt_Gs zo_g22 N ∧ zq_P N ∧ zt_fr (zi_695_K.2.2.1 ++ (zi_696_K.2.2.1)) M N := by
  rcases hP 0 (by decide) with h0 | h0
  · obtain ⟨x, N, g1, g2, g3, -⟩ := zp_i (w0 := zW_M) (G := zo_g22) (zi_695 0 zo_hd) rfl rfl rfl (zq_s1 zq_r0 zq_s0) (zq_ca (zq_c1 (zt_rgI _).1 h0.1) (zq_ca (zq_c1 (Int.le_of_eq h0.2.1.symm) (Int.le_of_eq h0.2.1)) (zq_ca (zq_c1 (Int.le_of_eq h0.2.2.symm) (Int.le_of_eq h0.2.2)) zh_no))) hG
    exact ⟨x, N, g1, g2, zq_kps_ok (by decide) g3 hP, zq_fa g3⟩
  · obtain ⟨x, N, g1, g2, g3, -⟩ := zp_i (w0 := zW_M) (G := zo_g22) (zi_696 0 zo_hd) rfl rfl rfl (zq_s1 zq_r0 zq_s0) (zq_ca (zq_c1 h0.1 h0.2) zh_no) hG
    exact ⟨x, N, g1, g2, zq_kps_ok (by decide) g3 hP, zq_fb g3⟩
theorem zp_X10_anew (hG : zt_Gs zo_g22 M) (hP : zq_P M) : ∃ (x : Int32) (N : zm_I), zF_X10_anew zW_M [.ref 0] M = some (some (.int x), N) ∧ zt_Gs zo_g22 N ∧ zq_P N ∧ zt_fr (zi_697_K.2.2.1 ++ (zi_698_K.2.2.1)) M N := by
  rcases hP 0 (by decide) with h0 | h0
  · obtain ⟨x, N, g1, g2, g3, -⟩ := zp_i (w0 := zW_M) (G := zo_g22) (zi_697 0 zo_hd) rfl rfl rfl (zq_s1 zq_r0 zq_s0) (zq_ca (zq_c1 (zt_rgI _).1 h0.1) (zq_ca (zq_c1 (Int.le_of_eq h0.2.1.symm) (Int.le_of_eq h0.2.1)) (zq_ca (zq_c1 (Int.le_of_eq h0.2.2.symm) (Int.le_of_eq h0.2.2)) zh_no))) hG
    exact ⟨x, N, g1, g2, zq_kps_ok (by decide) g3 hP, zq_fa g3⟩
  · obtain ⟨x, N, g1, g2, g3, -⟩ := zp_i (w0 := zW_M) (G := zo_g22) (zi_698 0 zo_hd) rfl rfl rfl (zq_s1 zq_r0 zq_s0) (zq_ca (zq_c1 h0.1 h0.2) zh_no) hG
    exact ⟨x, N, g1, g2, zq_kps_ok (by decide) g3 hP, zq_fb g3⟩
theorem zp_X10_drawn (hG : zt_Gs zo_g22 M) (hP : zq_P M) (a0 : Int32) (a1 : Int32) : ∃ (x : Int32) (N : zm_I), zF_X10_drawn zW_M [.ref 0, .int a0, .int a1] M = some (some (.int x), N) ∧ zt_Gs zo_g22 N ∧ zq_P N ∧ zt_fr (zi_699_K.2.2.1 ++ (zi_703_K.2.2.1)) M N := by
  rcases hP 0 (by decide) with h0 | h0
  · obtain ⟨x, N, g1, g2, g3, -⟩ := zp_i (w0 := zW_M) (G := zo_g22) (zi_699 0 zo_hd) rfl rfl rfl (zq_s1 zq_r0 (zq_s1 (zt_v_top a0) (zq_s1 (zt_v_top a1) zq_s0))) (zq_ca (zq_c1 (zt_rgI _).1 h0.1) (zq_ca (zq_c1 (Int.le_of_eq h0.2.1.symm) (Int.le_of_eq h0.2.1)) (zq_ca (zq_c1 (Int.le_of_eq h0.2.2.symm) (Int.le_of_eq h0.2.2)) zh_no))) hG
    exact ⟨x, N, g1, g2, zq_kps_ok (by decide) g3 hP, zq_fa g3⟩
  · obtain ⟨x, N, g1, g2, g3, -⟩ := zp_i (w0 := zW_M) (G := zo_g22) (zi_703 0 zo_hd) rfl rfl rfl (zq_s1 zq_r0 (zq_s1 (zt_v_top a0) (zq_s1 (zt_v_top a1) zq_s0))) (zq_ca (zq_c1 h0.1 h0.2) zh_no) hG
    exact ⟨x, N, g1, g2, zq_kps_ok (by decide) g3 hP, zq_fb g3⟩
theorem zp_X10_luck (hG : zt_Gs zo_g22 M) (hP : zq_P M) (a0 : Int32) (a1 : Int32) (a2 : Int32) : ∃ (x : Int32) (N : zm_I), zF_X10_luck zW_M [.ref 0, .int a0, .int a1, .int a2] M = some (some (.int x), N) ∧ zt_Gs zo_g22 N ∧ zq_P N ∧ zt_fr (zi_705_K.2.2.1 ++ (zi_707_K.2.2.1)) M N := by
  rcases hP 0 (by decide) with h0 | h0
  · obtain ⟨x, N, g1, g2, g3, -⟩ := zp_i (w0 := zW_M) (G := zo_g22) (zi_705 0 zo_hd) rfl rfl rfl (zq_s1 zq_r0 (zq_s1 (zt_v_top a0) (zq_s1 (zt_v_top a1) (zq_s1 (zt_v_top a2) zq_s0)))) (zq_ca (zq_c1 (zt_rgI _).1 h0.1) (zq_ca (zq_c1 (Int.le_of_eq h0.2.1.symm) (Int.le_of_eq h0.2.1)) (zq_ca (zq_c1 (Int.le_of_eq h0.2.2.symm) (Int.le_of_eq h0.2.2)) zh_no))) hG
    exact ⟨x, N, g1, g2, zq_kps_ok (by decide) g3 hP, zq_fa g3⟩
  · obtain ⟨x, N, g1, g2, g3, -⟩ := zp_i (w0 := zW_M) (G := zo_g22) (zi_707 0 zo_hd) rfl rfl rfl (zq_s1 zq_r0 (zq_s1 (zt_v_top a0) (zq_s1 (zt_v_top a1) (zq_s1 (zt_v_top a2) zq_s0)))) (zq_ca (zq_c1 h0.1 h0.2) zh_no) hG
    exact ⟨x, N, g1, g2, zq_kps_ok (by decide) g3 hP, zq_fb g3⟩
theorem zp_X10_rate (hG : zt_Gs zo_g22 M) (hP : zq_P M) (a0 : Int32) : ∃ (x : Int32) (N : zm_I), zF_X10_rate zW_M [.ref 0, .int a0] M = some (some (.int x), N) ∧ zt_Gs zo_g22 N ∧ zq_P N ∧ zt_fr (zi_708_K.2.2.1 ++ (zi_709_K.2.2.1)) M N := by
  rcases hP 0 (by decide) with h0 | h0
  · obtain ⟨x, N, g1, g2, g3, -⟩ := zp_i (w0 := zW_M) (G := zo_g22) (zi_708 0 zo_hd) rfl rfl rfl (zq_s1 zq_r0 (zq_s1 (zt_v_top a0) zq_s0)) (zq_ca (zq_c1 (zt_rgI _).1 h0.1) (zq_ca (zq_c1 (Int.le_of_eq h0.2.1.symm) (Int.le_of_eq h0.2.1)) (zq_ca (zq_c1 (Int.le_of_eq h0.2.2.symm) (Int.le_of_eq h0.2.2)) zh_no))) hG
    exact ⟨x, N, g1, g2, zq_kps_ok (by decide) g3 hP, zq_fa g3⟩
  · obtain ⟨x, N, g1, g2, g3, -⟩ := zp_i (w0 := zW_M) (G := zo_g22) (zi_709 0 zo_hd) rfl rfl rfl (zq_s1 zq_r0 (zq_s1 (zt_v_top a0) zq_s0)) (zq_ca (zq_c1 h0.1 h0.2) zh_no) hG
    exact ⟨x, N, g1, g2, zq_kps_ok (by decide) g3 hP, zq_fb g3⟩
theorem zp_X10_count (hG : zt_Gs zo_g22 M) (hP : zq_P M) (a0 : Int32) : ∃ (x : Int32) (N : zm_I), zF_X10_count zW_M [.ref 0, .int a0] M = some (some (.int x), N) ∧ zt_Gs zo_g22 N ∧ zq_P N ∧ zt_fr (zi_710_K.2.2.1 ++ (zi_711_K.2.2.1)) M N := by
  rcases hP 0 (by decide) with h0 | h0
  · obtain ⟨x, N, g1, g2, g3, -⟩ := zp_i (w0 := zW_M) (G := zo_g22) (zi_710 0 zo_hd) rfl rfl rfl (zq_s1 zq_r0 (zq_s1 (zt_v_top a0) zq_s0)) (zq_ca (zq_c1 (zt_rgI _).1 h0.1) (zq_ca (zq_c1 (Int.le_of_eq h0.2.1.symm) (Int.le_of_eq h0.2.1)) (zq_ca (zq_c1 (Int.le_of_eq h0.2.2.symm) (Int.le_of_eq h0.2.2)) zh_no))) hG
    exact ⟨x, N, g1, g2, zq_kps_ok (by decide) g3 hP, zq_fa g3⟩
  · obtain ⟨x, N, g1, g2, g3, -⟩ := zp_i (w0 := zW_M) (G := zo_g22) (zi_711 0 zo_hd) rfl rfl rfl (zq_s1 zq_r0 (zq_s1 (zt_v_top a0) zq_s0)) (zq_ca (zq_c1 h0.1 h0.2) zh_no) hG
    exact ⟨x, N, g1, g2, zq_kps_ok (by decide) g3 hP, zq_fb g3⟩
theorem zp_X10_row (hG : zt_Gs zo_g22 M) (hP : zq_P M) (a0 : Int32) (a1 : Int32) (a2 : Int32) : ∃ (x : Int32) (N : zm_I), zF_X10_row zW_M [.ref 0, .int a0, .int a1, .int a2] M = some (some (.int x), N) ∧ zt_Gs zo_g22 N ∧ zq_P N ∧ zt_fr (zi_713_K.2.2.1 ++ (zi_714_K.2.2.1)) M N := by
  rcases hP 0 (by decide) with h0 | h0
  · obtain ⟨x, N, g1, g2, g3, -⟩ := zp_i (w0 := zW_M) (G := zo_g22) (zi_713 0 zo_hd) rfl rfl rfl (zq_s1 zq_r0 (zq_s1 (zt_v_top a0) (zq_s1 (zt_v_top a1) (zq_s1 (zt_v_top a2) zq_s0)))) (zq_ca (zq_c1 (zt_rgI _).1 h0.1) (zq_ca (zq_c1 (Int.le_of_eq h0.2.1.symm) (Int.le_of_eq h0.2.1)) (zq_ca (zq_c1 (Int.le_of_eq h0.2.2.symm) (Int.le_of_eq h0.2.2)) zh_no))) hG
    exact ⟨x, N, g1, g2, zq_kps_ok (by decide) g3 hP, zq_fa g3⟩
  · obtain ⟨x, N, g1, g2, g3, -⟩ := zp_i (w0 := zW_M) (G := zo_g22) (zi_714 0 zo_hd) rfl rfl rfl (zq_s1 zq_r0 (zq_s1 (zt_v_top a0) (zq_s1 (zt_v_top a1) (zq_s1 (zt_v_top a2) zq_s0)))) (zq_ca (zq_c1 h0.1 h0.2) zh_no) hG
    exact ⟨x, N, g1, g2, zq_kps_ok (by decide) g3 hP, zq_fb g3⟩
theorem zp_X10_write (hG : zt_Gs zo_g22 M) (hP : zq_P M) (a0 : Int32) (a1 : Int32) (a2 : Int64) : ∃ (x : Int32) (N : zm_I), zF_X10_write zW_M [.ref 0, .int a0, .int a1, .long a2] M = some (some (.int x), N) ∧ zt_Gs zo_g22 N ∧ zq_P N ∧ zt_fr (zi_717_K.2.2.1 ++ (zi_718_K.2.2.1)) M N := by
  rcases hP 0 (by decide) with h0 | h0
  · obtain ⟨x, N, g1, g2, g3, -⟩ := zp_i (w0 := zW_M) (G := zo_g22) (zi_717 0 zo_hd) rfl rfl rfl (zq_s1 zq_r0 (zq_s1 (zt_v_top a0) (zq_s1 (zt_v_top a1) (zq_s1 (zt_v_ltop a2) zq_s0)))) (zq_ca (zq_c1 (zt_rgI _).1 h0.1) (zq_ca (zq_c1 (Int.le_of_eq h0.2.1.symm) (Int.le_of_eq h0.2.1)) (zq_ca (zq_c1 (Int.le_of_eq h0.2.2.symm) (Int.le_of_eq h0.2.2)) zh_no))) hG
    exact ⟨x, N, g1, g2, zq_kps_ok (by decide) g3 hP, zq_fa g3⟩
  · obtain ⟨x, N, g1, g2, g3, -⟩ := zp_i (w0 := zW_M) (G := zo_g22) (zi_718 0 zo_hd) rfl rfl rfl (zq_s1 zq_r0 (zq_s1 (zt_v_top a0) (zq_s1 (zt_v_top a1) (zq_s1 (zt_v_ltop a2) zq_s0)))) (zq_ca (zq_c1 h0.1 h0.2) zh_no) hG
    exact ⟨x, N, g1, g2, zq_kps_ok (by decide) g3 hP, zq_fb g3⟩
theorem zp_X10_paste (hG : zt_Gs zo_g22 M) (hP : zq_P M) (a0 : Int32) (a1 : Int32) (a2 : Int32) (a3 : Int32) (a4 : Int32) : ∃ (x : Int32) (N : zm_I), zF_X10_paste zW_M [.ref 0, .int a0, .int a1, .int a2, .int a3, .int a4] M = some (some (.int x), N) ∧ zt_Gs zo_g22 N ∧ zq_P N ∧ zt_fr (zi_719_K.2.2.1) M N := by
  obtain ⟨x, N, g1, g2, g3, -⟩ := zp_i (w0 := zW_M) (G := zo_g22) (zi_719 0 zo_hd) rfl rfl rfl (zq_s1 zq_r0 (zq_s1 (zt_v_top a0) (zq_s1 (zt_v_top a1) (zq_s1 (zt_v_top a2) (zq_s1 (zt_v_top a3) (zq_s1 (zt_v_top a4) zq_s0)))))) zh_no hG
  exact ⟨x, N, g1, g2, zq_kps_ok (by decide) g3 hP, g3⟩
theorem zp_X10_image (hG : zt_Gs zo_g22 M) (hP : zq_P M) (a0 : Int32) : ∃ (x : Int32) (N : zm_I), zF_X10_image zW_M [.ref 0, .int a0] M = some (some (.int x), N) ∧ zt_Gs zo_g22 N ∧ zq_P N ∧ zt_fr (zi_739_K.2.2.1) M N := by
  rcases hP 0 (by decide) with h0 | h0 <;> rcases hP 1 (by decide) with h1 | h1 <;> rcases hP 2 (by decide) with h2 | h2 <;> rcases hP 3 (by decide) with h3 | h3
  · obtain ⟨x, N, g1, g2, g3, o, g4, g5⟩ := zp_i (w0 := zW_M) (G := zo_g22) (zi_739 0 zo_hd) rfl rfl rfl (zq_s1 zq_r0 (zq_s1 (zt_v_top a0) zq_s0)) (zq_ca (zq_c1 (zt_rgI _).1 h0.1) (zq_ca (zq_c1 (zt_rgI _).1 h1.1) (zq_ca (zq_c1 (zt_rgI _).1 h2.1) (zq_ca (zq_c1 (zt_rgI _).1 h3.1) (zq_ca (zq_c1 (Int.le_of_eq h0.2.1.symm) (Int.le_of_eq h0.2.1)) (zq_ca (zq_c1 (Int.le_of_eq h0.2.2.symm) (Int.le_of_eq h0.2.2)) (zq_ca (zq_c1 (Int.le_of_eq h1.2.1.symm) (Int.le_of_eq h1.2.1)) (zq_ca (zq_c1 (Int.le_of_eq h1.2.2.symm) (Int.le_of_eq h1.2.2)) (zq_ca (zq_c1 (Int.le_of_eq h2.2.1.symm) (Int.le_of_eq h2.2.1)) (zq_ca (zq_c1 (Int.le_of_eq h2.2.2.symm) (Int.le_of_eq h2.2.2)) (zq_ca (zq_c1 (Int.le_of_eq h3.2.1.symm) (Int.le_of_eq h3.2.1)) (zq_ca (zq_c1 (Int.le_of_eq h3.2.2.symm) (Int.le_of_eq h3.2.2)) zh_no)))))))))))) hG
    exact ⟨x, N, g1, g2, fun s hs => zq_o_ok (List.all_eq_true.mp (List.all_eq_true.mp (show zi_739_K.2.2.2.all (fun o => (List.range 4).all (zq_o o.2.2.1)) = true by decide) o g4) s (List.mem_range.mpr hs)) g5.2.2.1, g3⟩
  · obtain ⟨x, N, g1, g2, g3, o, g4, g5⟩ := zp_i (w0 := zW_M) (G := zo_g22) (zi_743 0 zo_hd) rfl rfl rfl (zq_s1 zq_r0 (zq_s1 (zt_v_top a0) zq_s0)) (zq_ca (zq_c1 (zt_rgI _).1 h0.1) (zq_ca (zq_c1 (zt_rgI _).1 h1.1) (zq_ca (zq_c1 (zt_rgI _).1 h2.1) (zq_ca (zq_c1 (Int.le_of_eq h0.2.1.symm) (Int.le_of_eq h0.2.1)) (zq_ca (zq_c1 (Int.le_of_eq h0.2.2.symm) (Int.le_of_eq h0.2.2)) (zq_ca (zq_c1 (Int.le_of_eq h1.2.1.symm) (Int.le_of_eq h1.2.1)) (zq_ca (zq_c1 (Int.le_of_eq h1.2.2.symm) (Int.le_of_eq h1.2.2)) (zq_ca (zq_c1 (Int.le_of_eq h2.2.1.symm) (Int.le_of_eq h2.2.1)) (zq_ca (zq_c1 (Int.le_of_eq h2.2.2.symm) (Int.le_of_eq h2.2.2)) (zq_ca (zq_c1 h3.1 h3.2) zh_no)))))))))) hG
    exact ⟨x, N, g1, g2, fun s hs => zq_o_ok (List.all_eq_true.mp (List.all_eq_true.mp (show zi_743_K.2.2.2.all (fun o => (List.range 4).all (zq_o o.2.2.1)) = true by decide) o g4) s (List.mem_range.mpr hs)) g5.2.2.1, g3⟩
  · obtain ⟨x, N, g1, g2, g3, o, g4, g5⟩ := zp_i (w0 := zW_M) (G := zo_g22) (zi_747 0 zo_hd) rfl rfl rfl (zq_s1 zq_r0 (zq_s1 (zt_v_top a0) zq_s0)) (zq_ca (zq_c1 (zt_rgI _).1 h0.1) (zq_ca (zq_c1 (zt_rgI _).1 h1.1) (zq_ca (zq_c1 (zt_rgI _).1 h3.1) (zq_ca (zq_c1 (Int.le_of_eq h0.2.1.symm) (Int.le_of_eq h0.2.1)) (zq_ca (zq_c1 (Int.le_of_eq h0.2.2.symm) (Int.le_of_eq h0.2.2)) (zq_ca (zq_c1 (Int.le_of_eq h1.2.1.symm) (Int.le_of_eq h1.2.1)) (zq_ca (zq_c1 (Int.le_of_eq h1.2.2.symm) (Int.le_of_eq h1.2.2)) (zq_ca (zq_c1 h2.1 h2.2) (zq_ca (zq_c1 (Int.le_of_eq h3.2.1.symm) (Int.le_of_eq h3.2.1)) (zq_ca (zq_c1 (Int.le_of_eq h3.2.2.symm) (Int.le_of_eq h3.2.2)) zh_no)))))))))) hG
    exact ⟨x, N, g1, g2, fun s hs => zq_o_ok (List.all_eq_true.mp (List.all_eq_true.mp (show zi_747_K.2.2.2.all (fun o => (List.range 4).all (zq_o o.2.2.1)) = true by decide) o g4) s (List.mem_range.mpr hs)) g5.2.2.1, g3⟩
  · obtain ⟨x, N, g1, g2, g3, o, g4, g5⟩ := zp_i (w0 := zW_M) (G := zo_g22) (zi_751 0 zo_hd) rfl rfl rfl (zq_s1 zq_r0 (zq_s1 (zt_v_top a0) zq_s0)) (zq_ca (zq_c1 (zt_rgI _).1 h0.1) (zq_ca (zq_c1 (zt_rgI _).1 h1.1) (zq_ca (zq_c1 (Int.le_of_eq h0.2.1.symm) (Int.le_of_eq h0.2.1)) (zq_ca (zq_c1 (Int.le_of_eq h0.2.2.symm) (Int.le_of_eq h0.2.2)) (zq_ca (zq_c1 (Int.le_of_eq h1.2.1.symm) (Int.le_of_eq h1.2.1)) (zq_ca (zq_c1 (Int.le_of_eq h1.2.2.symm) (Int.le_of_eq h1.2.2)) (zq_ca (zq_c1 h2.1 h2.2) (zq_ca (zq_c1 h3.1 h3.2) zh_no)))))))) hG
    exact ⟨x, N, g1, g2, fun s hs => zq_o_ok (List.all_eq_true.mp (List.all_eq_true.mp (show zi_751_K.2.2.2.all (fun o => (List.range 4).all (zq_o o.2.2.1)) = true by decide) o g4) s (List.mem_range.mpr hs)) g5.2.2.1, g3⟩
  · obtain ⟨x, N, g1, g2, g3, o, g4, g5⟩ := zp_i (w0 := zW_M) (G := zo_g22) (zi_755 0 zo_hd) rfl rfl rfl (zq_s1 zq_r0 (zq_s1 (zt_v_top a0) zq_s0)) (zq_ca (zq_c1 (zt_rgI _).1 h0.1) (zq_ca (zq_c1 (zt_rgI _).1 h2.1) (zq_ca (zq_c1 (zt_rgI _).1 h3.1) (zq_ca (zq_c1 (Int.le_of_eq h0.2.1.symm) (Int.le_of_eq h0.2.1)) (zq_ca (zq_c1 (Int.le_of_eq h0.2.2.symm) (Int.le_of_eq h0.2.2)) (zq_ca (zq_c1 h1.1 h1.2) (zq_ca (zq_c1 (Int.le_of_eq h2.2.1.symm) (Int.le_of_eq h2.2.1)) (zq_ca (zq_c1 (Int.le_of_eq h2.2.2.symm) (Int.le_of_eq h2.2.2)) (zq_ca (zq_c1 (Int.le_of_eq h3.2.1.symm) (Int.le_of_eq h3.2.1)) (zq_ca (zq_c1 (Int.le_of_eq h3.2.2.symm) (Int.le_of_eq h3.2.2)) zh_no)))))))))) hG
    exact ⟨x, N, g1, g2, fun s hs => zq_o_ok (List.all_eq_true.mp (List.all_eq_true.mp (show zi_755_K.2.2.2.all (fun o => (List.range 4).all (zq_o o.2.2.1)) = true by decide) o g4) s (List.mem_range.mpr hs)) g5.2.2.1, g3⟩
  · obtain ⟨x, N, g1, g2, g3, o, g4, g5⟩ := zp_i (w0 := zW_M) (G := zo_g22) (zi_759 0 zo_hd) rfl rfl rfl (zq_s1 zq_r0 (zq_s1 (zt_v_top a0) zq_s0)) (zq_ca (zq_c1 (zt_rgI _).1 h0.1) (zq_ca (zq_c1 (zt_rgI _).1 h2.1) (zq_ca (zq_c1 (Int.le_of_eq h0.2.1.symm) (Int.le_of_eq h0.2.1)) (zq_ca (zq_c1 (Int.le_of_eq h0.2.2.symm) (Int.le_of_eq h0.2.2)) (zq_ca (zq_c1 h1.1 h1.2) (zq_ca (zq_c1 (Int.le_of_eq h2.2.1.symm) (Int.le_of_eq h2.2.1)) (zq_ca (zq_c1 (Int.le_of_eq h2.2.2.symm) (Int.le_of_eq h2.2.2)) (zq_ca (zq_c1 h3.1 h3.2) zh_no)))))))) hG
    exact ⟨x, N, g1, g2, fun s hs => zq_o_ok (List.all_eq_true.mp (List.all_eq_true.mp (show zi_759_K.2.2.2.all (fun o => (List.range 4).all (zq_o o.2.2.1)) = true by decide) o g4) s (List.mem_range.mpr hs)) g5.2.2.1, g3⟩
  · obtain ⟨x, N, g1, g2, g3, o, g4, g5⟩ := zp_i (w0 := zW_M) (G := zo_g22) (zi_763 0 zo_hd) rfl rfl rfl (zq_s1 zq_r0 (zq_s1 (zt_v_top a0) zq_s0)) (zq_ca (zq_c1 (zt_rgI _).1 h0.1) (zq_ca (zq_c1 (zt_rgI _).1 h3.1) (zq_ca (zq_c1 (Int.le_of_eq h0.2.1.symm) (Int.le_of_eq h0.2.1)) (zq_ca (zq_c1 (Int.le_of_eq h0.2.2.symm) (Int.le_of_eq h0.2.2)) (zq_ca (zq_c1 h1.1 h1.2) (zq_ca (zq_c1 h2.1 h2.2) (zq_ca (zq_c1 (Int.le_of_eq h3.2.1.symm) (Int.le_of_eq h3.2.1)) (zq_ca (zq_c1 (Int.le_of_eq h3.2.2.symm) (Int.le_of_eq h3.2.2)) zh_no)))))))) hG
    exact ⟨x, N, g1, g2, fun s hs => zq_o_ok (List.all_eq_true.mp (List.all_eq_true.mp (show zi_763_K.2.2.2.all (fun o => (List.range 4).all (zq_o o.2.2.1)) = true by decide) o g4) s (List.mem_range.mpr hs)) g5.2.2.1, g3⟩
  · obtain ⟨x, N, g1, g2, g3, o, g4, g5⟩ := zp_i (w0 := zW_M) (G := zo_g22) (zi_767 0 zo_hd) rfl rfl rfl (zq_s1 zq_r0 (zq_s1 (zt_v_top a0) zq_s0)) (zq_ca (zq_c1 (zt_rgI _).1 h0.1) (zq_ca (zq_c1 (Int.le_of_eq h0.2.1.symm) (Int.le_of_eq h0.2.1)) (zq_ca (zq_c1 (Int.le_of_eq h0.2.2.symm) (Int.le_of_eq h0.2.2)) (zq_ca (zq_c1 h1.1 h1.2) (zq_ca (zq_c1 h2.1 h2.2) (zq_ca (zq_c1 h3.1 h3.2) zh_no)))))) hG
    exact ⟨x, N, g1, g2, fun s hs => zq_o_ok (List.all_eq_true.mp (List.all_eq_true.mp (show zi_767_K.2.2.2.all (fun o => (List.range 4).all (zq_o o.2.2.1)) = true by decide) o g4) s (List.mem_range.mpr hs)) g5.2.2.1, g3⟩
  · obtain ⟨x, N, g1, g2, g3, o, g4, g5⟩ := zp_i (w0 := zW_M) (G := zo_g22) (zi_777 0 zo_hd) rfl rfl rfl (zq_s1 zq_r0 (zq_s1 (zt_v_top a0) zq_s0)) (zq_ca (zq_c1 (zt_rgI _).1 h1.1) (zq_ca (zq_c1 (zt_rgI _).1 h2.1) (zq_ca (zq_c1 (zt_rgI _).1 h3.1) (zq_ca (zq_c1 h0.1 h0.2) (zq_ca (zq_c1 (Int.le_of_eq h1.2.1.symm) (Int.le_of_eq h1.2.1)) (zq_ca (zq_c1 (Int.le_of_eq h1.2.2.symm) (Int.le_of_eq h1.2.2)) (zq_ca (zq_c1 (Int.le_of_eq h2.2.1.symm) (Int.le_of_eq h2.2.1)) (zq_ca (zq_c1 (Int.le_of_eq h2.2.2.symm) (Int.le_of_eq h2.2.2)) (zq_ca (zq_c1 (Int.le_of_eq h3.2.1.symm) (Int.le_of_eq h3.2.1)) (zq_ca (zq_c1 (Int.le_of_eq h3.2.2.symm) (Int.le_of_eq h3.2.2)) zh_no)))))))))) hG
    exact ⟨x, N, g1, g2, fun s hs => zq_o_ok (List.all_eq_true.mp (List.all_eq_true.mp (show zi_777_K.2.2.2.all (fun o => (List.range 4).all (zq_o o.2.2.1)) = true by decide) o g4) s (List.mem_range.mpr hs)) g5.2.2.1, g3⟩
  · obtain ⟨x, N, g1, g2, g3, o, g4, g5⟩ := zp_i (w0 := zW_M) (G := zo_g22) (zi_781 0 zo_hd) rfl rfl rfl (zq_s1 zq_r0 (zq_s1 (zt_v_top a0) zq_s0)) (zq_ca (zq_c1 (zt_rgI _).1 h1.1) (zq_ca (zq_c1 (zt_rgI _).1 h2.1) (zq_ca (zq_c1 h0.1 h0.2) (zq_ca (zq_c1 (Int.le_of_eq h1.2.1.symm) (Int.le_of_eq h1.2.1)) (zq_ca (zq_c1 (Int.le_of_eq h1.2.2.symm) (Int.le_of_eq h1.2.2)) (zq_ca (zq_c1 (Int.le_of_eq h2.2.1.symm) (Int.le_of_eq h2.2.1)) (zq_ca (zq_c1 (Int.le_of_eq h2.2.2.symm) (Int.le_of_eq h2.2.2)) (zq_ca (zq_c1 h3.1 h3.2) zh_no)))))))) hG
    exact ⟨x, N, g1, g2, fun s hs => zq_o_ok (List.all_eq_true.mp (List.all_eq_true.mp (show zi_781_K.2.2.2.all (fun o => (List.range 4).all (zq_o o.2.2.1)) = true by decide) o g4) s (List.mem_range.mpr hs)) g5.2.2.1, g3⟩
  · obtain ⟨x, N, g1, g2, g3, o, g4, g5⟩ := zp_i (w0 := zW_M) (G := zo_g22) (zi_785 0 zo_hd) rfl rfl rfl (zq_s1 zq_r0 (zq_s1 (zt_v_top a0) zq_s0)) (zq_ca (zq_c1 (zt_rgI _).1 h1.1) (zq_ca (zq_c1 (zt_rgI _).1 h3.1) (zq_ca (zq_c1 h0.1 h0.2) (zq_ca (zq_c1 (Int.le_of_eq h1.2.1.symm) (Int.le_of_eq h1.2.1)) (zq_ca (zq_c1 (Int.le_of_eq h1.2.2.symm) (Int.le_of_eq h1.2.2)) (zq_ca (zq_c1 h2.1 h2.2) (zq_ca (zq_c1 (Int.le_of_eq h3.2.1.symm) (Int.le_of_eq h3.2.1)) (zq_ca (zq_c1 (Int.le_of_eq h3.2.2.symm) (Int.le_of_eq h3.2.2)) zh_no)))))))) hG
    exact ⟨x, N, g1, g2, fun s hs => zq_o_ok (List.all_eq_true.mp (List.all_eq_true.mp (show zi_785_K.2.2.2.all (fun o => (List.range 4).all (zq_o o.2.2.1)) = true by decide) o g4) s (List.mem_range.mpr hs)) g5.2.2.1, g3⟩
  · obtain ⟨x, N, g1, g2, g3, o, g4, g5⟩ := zp_i (w0 := zW_M) (G := zo_g22) (zi_789 0 zo_hd) rfl rfl rfl (zq_s1 zq_r0 (zq_s1 (zt_v_top a0) zq_s0)) (zq_ca (zq_c1 (zt_rgI _).1 h1.1) (zq_ca (zq_c1 h0.1 h0.2) (zq_ca (zq_c1 (Int.le_of_eq h1.2.1.symm) (Int.le_of_eq h1.2.1)) (zq_ca (zq_c1 (Int.le_of_eq h1.2.2.symm) (Int.le_of_eq h1.2.2)) (zq_ca (zq_c1 h2.1 h2.2) (zq_ca (zq_c1 h3.1 h3.2) zh_no)))))) hG
    exact ⟨x, N, g1, g2, fun s hs => zq_o_ok (List.all_eq_true.mp (List.all_eq_true.mp (show zi_789_K.2.2.2.all (fun o => (List.range 4).all (zq_o o.2.2.1)) = true by decide) o g4) s (List.mem_range.mpr hs)) g5.2.2.1, g3⟩
  · obtain ⟨x, N, g1, g2, g3, o, g4, g5⟩ := zp_i (w0 := zW_M) (G := zo_g22) (zi_793 0 zo_hd) rfl rfl rfl (zq_s1 zq_r0 (zq_s1 (zt_v_top a0) zq_s0)) (zq_ca (zq_c1 (zt_rgI _).1 h2.1) (zq_ca (zq_c1 (zt_rgI _).1 h3.1) (zq_ca (zq_c1 h0.1 h0.2) (zq_ca (zq_c1 h1.1 h1.2) (zq_ca (zq_c1 (Int.le_of_eq h2.2.1.symm) (Int.le_of_eq h2.2.1)) (zq_ca (zq_c1 (Int.le_of_eq h2.2.2.symm) (Int.le_of_eq h2.2.2)) (zq_ca (zq_c1 (Int.le_of_eq h3.2.1.symm) (Int.le_of_eq h3.2.1)) (zq_ca (zq_c1 (Int.le_of_eq h3.2.2.symm) (Int.le_of_eq h3.2.2)) zh_no)))))))) hG
    exact ⟨x, N, g1, g2, fun s hs => zq_o_ok (List.all_eq_true.mp (List.all_eq_true.mp (show zi_793_K.2.2.2.all (fun o => (List.range 4).all (zq_o o.2.2.1)) = true by decide) o g4) s (List.mem_range.mpr hs)) g5.2.2.1, g3⟩
  · obtain ⟨x, N, g1, g2, g3, o, g4, g5⟩ := zp_i (w0 := zW_M) (G := zo_g22) (zi_797 0 zo_hd) rfl rfl rfl (zq_s1 zq_r0 (zq_s1 (zt_v_top a0) zq_s0)) (zq_ca (zq_c1 (zt_rgI _).1 h2.1) (zq_ca (zq_c1 h0.1 h0.2) (zq_ca (zq_c1 h1.1 h1.2) (zq_ca (zq_c1 (Int.le_of_eq h2.2.1.symm) (Int.le_of_eq h2.2.1)) (zq_ca (zq_c1 (Int.le_of_eq h2.2.2.symm) (Int.le_of_eq h2.2.2)) (zq_ca (zq_c1 h3.1 h3.2) zh_no)))))) hG
    exact ⟨x, N, g1, g2, fun s hs => zq_o_ok (List.all_eq_true.mp (List.all_eq_true.mp (show zi_797_K.2.2.2.all (fun o => (List.range 4).all (zq_o o.2.2.1)) = true by decide) o g4) s (List.mem_range.mpr hs)) g5.2.2.1, g3⟩
  · obtain ⟨x, N, g1, g2, g3, o, g4, g5⟩ := zp_i (w0 := zW_M) (G := zo_g22) (zi_801 0 zo_hd) rfl rfl rfl (zq_s1 zq_r0 (zq_s1 (zt_v_top a0) zq_s0)) (zq_ca (zq_c1 (zt_rgI _).1 h3.1) (zq_ca (zq_c1 h0.1 h0.2) (zq_ca (zq_c1 h1.1 h1.2) (zq_ca (zq_c1 h2.1 h2.2) (zq_ca (zq_c1 (Int.le_of_eq h3.2.1.symm) (Int.le_of_eq h3.2.1)) (zq_ca (zq_c1 (Int.le_of_eq h3.2.2.symm) (Int.le_of_eq h3.2.2)) zh_no)))))) hG
    exact ⟨x, N, g1, g2, fun s hs => zq_o_ok (List.all_eq_true.mp (List.all_eq_true.mp (show zi_801_K.2.2.2.all (fun o => (List.range 4).all (zq_o o.2.2.1)) = true by decide) o g4) s (List.mem_range.mpr hs)) g5.2.2.1, g3⟩
  · obtain ⟨x, N, g1, g2, g3, o, g4, g5⟩ := zp_i (w0 := zW_M) (G := zo_g22) (zi_805 0 zo_hd) rfl rfl rfl (zq_s1 zq_r0 (zq_s1 (zt_v_top a0) zq_s0)) (zq_ca (zq_c1 h0.1 h0.2) (zq_ca (zq_c1 h1.1 h1.2) (zq_ca (zq_c1 h2.1 h2.2) (zq_ca (zq_c1 h3.1 h3.2) zh_no)))) hG
    exact ⟨x, N, g1, g2, fun s hs => zq_o_ok (List.all_eq_true.mp (List.all_eq_true.mp (show zi_805_K.2.2.2.all (fun o => (List.range 4).all (zq_o o.2.2.1)) = true by decide) o g4) s (List.mem_range.mpr hs)) g5.2.2.1, g3⟩
theorem zp_X10_back (hG : zt_Gs zo_g22 M) (hP : zq_P M) (a0 : Int32) : ∃ (x : Int32) (N : zm_I), zF_X10_back zW_M [.ref 0, .int a0] M = some (some (.int x), N) ∧ zt_Gs zo_g22 N ∧ zq_P N ∧ zt_fr (zi_824_K.2.2.1) M N := by
  rcases hP 0 (by decide) with h0 | h0 <;> rcases hP 1 (by decide) with h1 | h1 <;> rcases hP 2 (by decide) with h2 | h2 <;> rcases hP 3 (by decide) with h3 | h3
  · obtain ⟨x, N, g1, g2, g3, o, g4, g5⟩ := zp_i (w0 := zW_M) (G := zo_g22) (zi_824 0 zo_hd) rfl rfl rfl (zq_s1 zq_r0 (zq_s1 (zt_v_top a0) zq_s0)) (zq_ca (zq_c1 (zt_rgI _).1 h0.1) (zq_ca (zq_c1 (zt_rgI _).1 h1.1) (zq_ca (zq_c1 (zt_rgI _).1 h2.1) (zq_ca (zq_c1 (zt_rgI _).1 h3.1) (zq_ca (zq_c1 (Int.le_of_eq h0.2.1.symm) (Int.le_of_eq h0.2.1)) (zq_ca (zq_c1 (Int.le_of_eq h0.2.2.symm) (Int.le_of_eq h0.2.2)) (zq_ca (zq_c1 (Int.le_of_eq h1.2.1.symm) (Int.le_of_eq h1.2.1)) (zq_ca (zq_c1 (Int.le_of_eq h1.2.2.symm) (Int.le_of_eq h1.2.2)) (zq_ca (zq_c1 (Int.le_of_eq h2.2.1.symm) (Int.le_of_eq h2.2.1)) (zq_ca (zq_c1 (Int.le_of_eq h2.2.2.symm) (Int.le_of_eq h2.2.2)) (zq_ca (zq_c1 (Int.le_of_eq h3.2.1.symm) (Int.le_of_eq h3.2.1)) (zq_ca (zq_c1 (Int.le_of_eq h3.2.2.symm) (Int.le_of_eq h3.2.2)) zh_no)))))))))))) hG
    exact ⟨x, N, g1, g2, fun s hs => zq_o_ok (List.all_eq_true.mp (List.all_eq_true.mp (show zi_824_K.2.2.2.all (fun o => (List.range 4).all (zq_o o.2.2.1)) = true by decide) o g4) s (List.mem_range.mpr hs)) g5.2.2.1, g3⟩
  · obtain ⟨x, N, g1, g2, g3, o, g4, g5⟩ := zp_i (w0 := zW_M) (G := zo_g22) (zi_830 0 zo_hd) rfl rfl rfl (zq_s1 zq_r0 (zq_s1 (zt_v_top a0) zq_s0)) (zq_ca (zq_c1 (zt_rgI _).1 h0.1) (zq_ca (zq_c1 (zt_rgI _).1 h1.1) (zq_ca (zq_c1 (zt_rgI _).1 h2.1) (zq_ca (zq_c1 (Int.le_of_eq h0.2.1.symm) (Int.le_of_eq h0.2.1)) (zq_ca (zq_c1 (Int.le_of_eq h0.2.2.symm) (Int.le_of_eq h0.2.2)) (zq_ca (zq_c1 (Int.le_of_eq h1.2.1.symm) (Int.le_of_eq h1.2.1)) (zq_ca (zq_c1 (Int.le_of_eq h1.2.2.symm) (Int.le_of_eq h1.2.2)) (zq_ca (zq_c1 (Int.le_of_eq h2.2.1.symm) (Int.le_of_eq h2.2.1)) (zq_ca (zq_c1 (Int.le_of_eq h2.2.2.symm) (Int.le_of_eq h2.2.2)) (zq_ca (zq_c1 h3.1 h3.2) zh_no)))))))))) hG
    exact ⟨x, N, g1, g2, fun s hs => zq_o_ok (List.all_eq_true.mp (List.all_eq_true.mp (show zi_830_K.2.2.2.all (fun o => (List.range 4).all (zq_o o.2.2.1)) = true by decide) o g4) s (List.mem_range.mpr hs)) g5.2.2.1, g3⟩
  · obtain ⟨x, N, g1, g2, g3, o, g4, g5⟩ := zp_i (w0 := zW_M) (G := zo_g22) (zi_836 0 zo_hd) rfl rfl rfl (zq_s1 zq_r0 (zq_s1 (zt_v_top a0) zq_s0)) (zq_ca (zq_c1 (zt_rgI _).1 h0.1) (zq_ca (zq_c1 (zt_rgI _).1 h1.1) (zq_ca (zq_c1 (zt_rgI _).1 h3.1) (zq_ca (zq_c1 (Int.le_of_eq h0.2.1.symm) (Int.le_of_eq h0.2.1)) (zq_ca (zq_c1 (Int.le_of_eq h0.2.2.symm) (Int.le_of_eq h0.2.2)) (zq_ca (zq_c1 (Int.le_of_eq h1.2.1.symm) (Int.le_of_eq h1.2.1)) (zq_ca (zq_c1 (Int.le_of_eq h1.2.2.symm) (Int.le_of_eq h1.2.2)) (zq_ca (zq_c1 h2.1 h2.2) (zq_ca (zq_c1 (Int.le_of_eq h3.2.1.symm) (Int.le_of_eq h3.2.1)) (zq_ca (zq_c1 (Int.le_of_eq h3.2.2.symm) (Int.le_of_eq h3.2.2)) zh_no)))))))))) hG
    exact ⟨x, N, g1, g2, fun s hs => zq_o_ok (List.all_eq_true.mp (List.all_eq_true.mp (show zi_836_K.2.2.2.all (fun o => (List.range 4).all (zq_o o.2.2.1)) = true by decide) o g4) s (List.mem_range.mpr hs)) g5.2.2.1, g3⟩
  · obtain ⟨x, N, g1, g2, g3, o, g4, g5⟩ := zp_i (w0 := zW_M) (G := zo_g22) (zi_840 0 zo_hd) rfl rfl rfl (zq_s1 zq_r0 (zq_s1 (zt_v_top a0) zq_s0)) (zq_ca (zq_c1 (zt_rgI _).1 h0.1) (zq_ca (zq_c1 (zt_rgI _).1 h1.1) (zq_ca (zq_c1 (Int.le_of_eq h0.2.1.symm) (Int.le_of_eq h0.2.1)) (zq_ca (zq_c1 (Int.le_of_eq h0.2.2.symm) (Int.le_of_eq h0.2.2)) (zq_ca (zq_c1 (Int.le_of_eq h1.2.1.symm) (Int.le_of_eq h1.2.1)) (zq_ca (zq_c1 (Int.le_of_eq h1.2.2.symm) (Int.le_of_eq h1.2.2)) (zq_ca (zq_c1 h2.1 h2.2) (zq_ca (zq_c1 h3.1 h3.2) zh_no)))))))) hG
    exact ⟨x, N, g1, g2, fun s hs => zq_o_ok (List.all_eq_true.mp (List.all_eq_true.mp (show zi_840_K.2.2.2.all (fun o => (List.range 4).all (zq_o o.2.2.1)) = true by decide) o g4) s (List.mem_range.mpr hs)) g5.2.2.1, g3⟩
  · obtain ⟨x, N, g1, g2, g3, o, g4, g5⟩ := zp_i (w0 := zW_M) (G := zo_g22) (zi_846 0 zo_hd) rfl rfl rfl (zq_s1 zq_r0 (zq_s1 (zt_v_top a0) zq_s0)) (zq_ca (zq_c1 (zt_rgI _).1 h0.1) (zq_ca (zq_c1 (zt_rgI _).1 h2.1) (zq_ca (zq_c1 (zt_rgI _).1 h3.1) (zq_ca (zq_c1 (Int.le_of_eq h0.2.1.symm) (Int.le_of_eq h0.2.1)) (zq_ca (zq_c1 (Int.le_of_eq h0.2.2.symm) (Int.le_of_eq h0.2.2)) (zq_ca (zq_c1 h1.1 h1.2) (zq_ca (zq_c1 (Int.le_of_eq h2.2.1.symm) (Int.le_of_eq h2.2.1)) (zq_ca (zq_c1 (Int.le_of_eq h2.2.2.symm) (Int.le_of_eq h2.2.2)) (zq_ca (zq_c1 (Int.le_of_eq h3.2.1.symm) (Int.le_of_eq h3.2.1)) (zq_ca (zq_c1 (Int.le_of_eq h3.2.2.symm) (Int.le_of_eq h3.2.2)) zh_no)))))))))) hG
    exact ⟨x, N, g1, g2, fun s hs => zq_o_ok (List.all_eq_true.mp (List.all_eq_true.mp (show zi_846_K.2.2.2.all (fun o => (List.range 4).all (zq_o o.2.2.1)) = true by decide) o g4) s (List.mem_range.mpr hs)) g5.2.2.1, g3⟩
  · obtain ⟨x, N, g1, g2, g3, o, g4, g5⟩ := zp_i (w0 := zW_M) (G := zo_g22) (zi_850 0 zo_hd) rfl rfl rfl (zq_s1 zq_r0 (zq_s1 (zt_v_top a0) zq_s0)) (zq_ca (zq_c1 (zt_rgI _).1 h0.1) (zq_ca (zq_c1 (zt_rgI _).1 h2.1) (zq_ca (zq_c1 (Int.le_of_eq h0.2.1.symm) (Int.le_of_eq h0.2.1)) (zq_ca (zq_c1 (Int.le_of_eq h0.2.2.symm) (Int.le_of_eq h0.2.2)) (zq_ca (zq_c1 h1.1 h1.2) (zq_ca (zq_c1 (Int.le_of_eq h2.2.1.symm) (Int.le_of_eq h2.2.1)) (zq_ca (zq_c1 (Int.le_of_eq h2.2.2.symm) (Int.le_of_eq h2.2.2)) (zq_ca (zq_c1 h3.1 h3.2) zh_no)))))))) hG
    exact ⟨x, N, g1, g2, fun s hs => zq_o_ok (List.all_eq_true.mp (List.all_eq_true.mp (show zi_850_K.2.2.2.all (fun o => (List.range 4).all (zq_o o.2.2.1)) = true by decide) o g4) s (List.mem_range.mpr hs)) g5.2.2.1, g3⟩
  · obtain ⟨x, N, g1, g2, g3, o, g4, g5⟩ := zp_i (w0 := zW_M) (G := zo_g22) (zi_854 0 zo_hd) rfl rfl rfl (zq_s1 zq_r0 (zq_s1 (zt_v_top a0) zq_s0)) (zq_ca (zq_c1 (zt_rgI _).1 h0.1) (zq_ca (zq_c1 (zt_rgI _).1 h3.1) (zq_ca (zq_c1 (Int.le_of_eq h0.2.1.symm) (Int.le_of_eq h0.2.1)) (zq_ca (zq_c1 (Int.le_of_eq h0.2.2.symm) (Int.le_of_eq h0.2.2)) (zq_ca (zq_c1 h1.1 h1.2) (zq_ca (zq_c1 h2.1 h2.2) (zq_ca (zq_c1 (Int.le_of_eq h3.2.1.symm) (Int.le_of_eq h3.2.1)) (zq_ca (zq_c1 (Int.le_of_eq h3.2.2.symm) (Int.le_of_eq h3.2.2)) zh_no)))))))) hG
    exact ⟨x, N, g1, g2, fun s hs => zq_o_ok (List.all_eq_true.mp (List.all_eq_true.mp (show zi_854_K.2.2.2.all (fun o => (List.range 4).all (zq_o o.2.2.1)) = true by decide) o g4) s (List.mem_range.mpr hs)) g5.2.2.1, g3⟩
  · obtain ⟨x, N, g1, g2, g3, o, g4, g5⟩ := zp_i (w0 := zW_M) (G := zo_g22) (zi_858 0 zo_hd) rfl rfl rfl (zq_s1 zq_r0 (zq_s1 (zt_v_top a0) zq_s0)) (zq_ca (zq_c1 (zt_rgI _).1 h0.1) (zq_ca (zq_c1 (Int.le_of_eq h0.2.1.symm) (Int.le_of_eq h0.2.1)) (zq_ca (zq_c1 (Int.le_of_eq h0.2.2.symm) (Int.le_of_eq h0.2.2)) (zq_ca (zq_c1 h1.1 h1.2) (zq_ca (zq_c1 h2.1 h2.2) (zq_ca (zq_c1 h3.1 h3.2) zh_no)))))) hG
    exact ⟨x, N, g1, g2, fun s hs => zq_o_ok (List.all_eq_true.mp (List.all_eq_true.mp (show zi_858_K.2.2.2.all (fun o => (List.range 4).all (zq_o o.2.2.1)) = true by decide) o g4) s (List.mem_range.mpr hs)) g5.2.2.1, g3⟩
  · obtain ⟨x, N, g1, g2, g3, o, g4, g5⟩ := zp_i (w0 := zW_M) (G := zo_g22) (zi_862 0 zo_hd) rfl rfl rfl (zq_s1 zq_r0 (zq_s1 (zt_v_top a0) zq_s0)) (zq_ca (zq_c1 (zt_rgI _).1 h1.1) (zq_ca (zq_c1 (zt_rgI _).1 h2.1) (zq_ca (zq_c1 (zt_rgI _).1 h3.1) (zq_ca (zq_c1 h0.1 h0.2) (zq_ca (zq_c1 (Int.le_of_eq h1.2.1.symm) (Int.le_of_eq h1.2.1)) (zq_ca (zq_c1 (Int.le_of_eq h1.2.2.symm) (Int.le_of_eq h1.2.2)) (zq_ca (zq_c1 (Int.le_of_eq h2.2.1.symm) (Int.le_of_eq h2.2.1)) (zq_ca (zq_c1 (Int.le_of_eq h2.2.2.symm) (Int.le_of_eq h2.2.2)) (zq_ca (zq_c1 (Int.le_of_eq h3.2.1.symm) (Int.le_of_eq h3.2.1)) (zq_ca (zq_c1 (Int.le_of_eq h3.2.2.symm) (Int.le_of_eq h3.2.2)) zh_no)))))))))) hG
    exact ⟨x, N, g1, g2, fun s hs => zq_o_ok (List.all_eq_true.mp (List.all_eq_true.mp (show zi_862_K.2.2.2.all (fun o => (List.range 4).all (zq_o o.2.2.1)) = true by decide) o g4) s (List.mem_range.mpr hs)) g5.2.2.1, g3⟩
  · obtain ⟨x, N, g1, g2, g3, o, g4, g5⟩ := zp_i (w0 := zW_M) (G := zo_g22) (zi_866 0 zo_hd) rfl rfl rfl (zq_s1 zq_r0 (zq_s1 (zt_v_top a0) zq_s0)) (zq_ca (zq_c1 (zt_rgI _).1 h1.1) (zq_ca (zq_c1 (zt_rgI _).1 h2.1) (zq_ca (zq_c1 h0.1 h0.2) (zq_ca (zq_c1 (Int.le_of_eq h1.2.1.symm) (Int.le_of_eq h1.2.1)) (zq_ca (zq_c1 (Int.le_of_eq h1.2.2.symm) (Int.le_of_eq h1.2.2)) (zq_ca (zq_c1 (Int.le_of_eq h2.2.1.symm) (Int.le_of_eq h2.2.1)) (zq_ca (zq_c1 (Int.le_of_eq h2.2.2.symm) (Int.le_of_eq h2.2.2)) (zq_ca (zq_c1 h3.1 h3.2) zh_no)))))))) hG
    exact ⟨x, N, g1, g2, fun s hs => zq_o_ok (List.all_eq_true.mp (List.all_eq_true.mp (show zi_866_K.2.2.2.all (fun o => (List.range 4).all (zq_o o.2.2.1)) = true by decide) o g4) s (List.mem_range.mpr hs)) g5.2.2.1, g3⟩
  · obtain ⟨x, N, g1, g2, g3, o, g4, g5⟩ := zp_i (w0 := zW_M) (G := zo_g22) (zi_870 0 zo_hd) rfl rfl rfl (zq_s1 zq_r0 (zq_s1 (zt_v_top a0) zq_s0)) (zq_ca (zq_c1 (zt_rgI _).1 h1.1) (zq_ca (zq_c1 (zt_rgI _).1 h3.1) (zq_ca (zq_c1 h0.1 h0.2) (zq_ca (zq_c1 (Int.le_of_eq h1.2.1.symm) (Int.le_of_eq h1.2.1)) (zq_ca (zq_c1 (Int.le_of_eq h1.2.2.symm) (Int.le_of_eq h1.2.2)) (zq_ca (zq_c1 h2.1 h2.2) (zq_ca (zq_c1 (Int.le_of_eq h3.2.1.symm) (Int.le_of_eq h3.2.1)) (zq_ca (zq_c1 (Int.le_of_eq h3.2.2.symm) (Int.le_of_eq h3.2.2)) zh_no)))))))) hG
    exact ⟨x, N, g1, g2, fun s hs => zq_o_ok (List.all_eq_true.mp (List.all_eq_true.mp (show zi_870_K.2.2.2.all (fun o => (List.range 4).all (zq_o o.2.2.1)) = true by decide) o g4) s (List.mem_range.mpr hs)) g5.2.2.1, g3⟩
  · obtain ⟨x, N, g1, g2, g3, o, g4, g5⟩ := zp_i (w0 := zW_M) (G := zo_g22) (zi_874 0 zo_hd) rfl rfl rfl (zq_s1 zq_r0 (zq_s1 (zt_v_top a0) zq_s0)) (zq_ca (zq_c1 (zt_rgI _).1 h1.1) (zq_ca (zq_c1 h0.1 h0.2) (zq_ca (zq_c1 (Int.le_of_eq h1.2.1.symm) (Int.le_of_eq h1.2.1)) (zq_ca (zq_c1 (Int.le_of_eq h1.2.2.symm) (Int.le_of_eq h1.2.2)) (zq_ca (zq_c1 h2.1 h2.2) (zq_ca (zq_c1 h3.1 h3.2) zh_no)))))) hG
    exact ⟨x, N, g1, g2, fun s hs => zq_o_ok (List.all_eq_true.mp (List.all_eq_true.mp (show zi_874_K.2.2.2.all (fun o => (List.range 4).all (zq_o o.2.2.1)) = true by decide) o g4) s (List.mem_range.mpr hs)) g5.2.2.1, g3⟩
  · obtain ⟨x, N, g1, g2, g3, o, g4, g5⟩ := zp_i (w0 := zW_M) (G := zo_g22) (zi_878 0 zo_hd) rfl rfl rfl (zq_s1 zq_r0 (zq_s1 (zt_v_top a0) zq_s0)) (zq_ca (zq_c1 (zt_rgI _).1 h2.1) (zq_ca (zq_c1 (zt_rgI _).1 h3.1) (zq_ca (zq_c1 h0.1 h0.2) (zq_ca (zq_c1 h1.1 h1.2) (zq_ca (zq_c1 (Int.le_of_eq h2.2.1.symm) (Int.le_of_eq h2.2.1)) (zq_ca (zq_c1 (Int.le_of_eq h2.2.2.symm) (Int.le_of_eq h2.2.2)) (zq_ca (zq_c1 (Int.le_of_eq h3.2.1.symm) (Int.le_of_eq h3.2.1)) (zq_ca (zq_c1 (Int.le_of_eq h3.2.2.symm) (Int.le_of_eq h3.2.2)) zh_no)))))))) hG
    exact ⟨x, N, g1, g2, fun s hs => zq_o_ok (List.all_eq_true.mp (List.all_eq_true.mp (show zi_878_K.2.2.2.all (fun o => (List.range 4).all (zq_o o.2.2.1)) = true by decide) o g4) s (List.mem_range.mpr hs)) g5.2.2.1, g3⟩
  · obtain ⟨x, N, g1, g2, g3, o, g4, g5⟩ := zp_i (w0 := zW_M) (G := zo_g22) (zi_882 0 zo_hd) rfl rfl rfl (zq_s1 zq_r0 (zq_s1 (zt_v_top a0) zq_s0)) (zq_ca (zq_c1 (zt_rgI _).1 h2.1) (zq_ca (zq_c1 h0.1 h0.2) (zq_ca (zq_c1 h1.1 h1.2) (zq_ca (zq_c1 (Int.le_of_eq h2.2.1.symm) (Int.le_of_eq h2.2.1)) (zq_ca (zq_c1 (Int.le_of_eq h2.2.2.symm) (Int.le_of_eq h2.2.2)) (zq_ca (zq_c1 h3.1 h3.2) zh_no)))))) hG
    exact ⟨x, N, g1, g2, fun s hs => zq_o_ok (List.all_eq_true.mp (List.all_eq_true.mp (show zi_882_K.2.2.2.all (fun o => (List.range 4).all (zq_o o.2.2.1)) = true by decide) o g4) s (List.mem_range.mpr hs)) g5.2.2.1, g3⟩
  · obtain ⟨x, N, g1, g2, g3, o, g4, g5⟩ := zp_i (w0 := zW_M) (G := zo_g22) (zi_886 0 zo_hd) rfl rfl rfl (zq_s1 zq_r0 (zq_s1 (zt_v_top a0) zq_s0)) (zq_ca (zq_c1 (zt_rgI _).1 h3.1) (zq_ca (zq_c1 h0.1 h0.2) (zq_ca (zq_c1 h1.1 h1.2) (zq_ca (zq_c1 h2.1 h2.2) (zq_ca (zq_c1 (Int.le_of_eq h3.2.1.symm) (Int.le_of_eq h3.2.1)) (zq_ca (zq_c1 (Int.le_of_eq h3.2.2.symm) (Int.le_of_eq h3.2.2)) zh_no)))))) hG
    exact ⟨x, N, g1, g2, fun s hs => zq_o_ok (List.all_eq_true.mp (List.all_eq_true.mp (show zi_886_K.2.2.2.all (fun o => (List.range 4).all (zq_o o.2.2.1)) = true by decide) o g4) s (List.mem_range.mpr hs)) g5.2.2.1, g3⟩
  · obtain ⟨x, N, g1, g2, g3, o, g4, g5⟩ := zp_i (w0 := zW_M) (G := zo_g22) (zi_890 0 zo_hd) rfl rfl rfl (zq_s1 zq_r0 (zq_s1 (zt_v_top a0) zq_s0)) (zq_ca (zq_c1 h0.1 h0.2) (zq_ca (zq_c1 h1.1 h1.2) (zq_ca (zq_c1 h2.1 h2.2) (zq_ca (zq_c1 h3.1 h3.2) zh_no)))) hG
    exact ⟨x, N, g1, g2, fun s hs => zq_o_ok (List.all_eq_true.mp (List.all_eq_true.mp (show zi_890_K.2.2.2.all (fun o => (List.range 4).all (zq_o o.2.2.1)) = true by decide) o g4) s (List.mem_range.mpr hs)) g5.2.2.1, g3⟩
end ZQP
