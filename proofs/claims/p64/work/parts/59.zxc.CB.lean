/-! THE CLASS'S CHANCES: a day from its call to the next, copies of days -/
section ZCB
variable {B : zdB} {z : zdZ} {I N : Nat → Nat → Int32} {J K : Nat → Nat → Int64}
theorem zcb_S_c (h : zdS B z I J) (hI : ∀ n, n < 18 → N n = I n) (hJ : ∀ n, n < 18 → K n = J n) : zdS B z N K := by
  obtain ⟨h1, h2, h3, h4, h5, h6, h7⟩ := h
  refine ⟨⟨⟨?_, ?_, ?_, ?_⟩, fun c hc => ?_, fun c hc => ?_, fun k hk => ?_⟩, zdX_c h2 (fun c _ => by rw [hI 1 (by decide)]) (fun s _ => by rw [hI 7 (by decide)]), fun q hq => ?_, fun q hq => ?_, ?_, fun m hm hb => ?_, fun n g hg i b hb => ?_⟩
  · rw [hI 8 (by decide)]; exact h1.1.1
  · rw [hI 8 (by decide)]; exact h1.1.2.1
  · rw [hI 8 (by decide)]; exact h1.1.2.2.1
  · rw [hI 8 (by decide)]; exact h1.1.2.2.2
  · rw [hI 11 (by decide)]; exact h1.2.1 c hc
  · rw [hI 12 (by decide)]; exact h1.2.2.1 c hc
  · rw [hI 15 (by decide), hI 16 (by decide), hI 17 (by decide)]; exact h1.2.2.2 k hk
  · rw [hI 5 (by decide)]; exact h3 q hq
  · rw [hJ 0 (by decide)]; exact h4 q hq
  · rw [hI 0 (by decide)]; exact h5
  · rw [hJ 0 (by decide)] at hb; exact h6 m hm hb
  · have hn : n < 18 := (List.getElem?_eq_some_iff.mp hg).1
    show b.1 ≤ (N n i).toInt ∧ (N n i).toInt ≤ b.2
    rw [hI n hn]
    exact h7 n g hg i b hb
/-- ages grow: nothing that counts here changes -/
theorem zcb_grow (h : zdS B z I J) : ∃ N K, zF_X2_growAll zW_DB [.ref 0, .ref 8] (I, J) = some (none, (N, K)) ∧ zdS B z N K ∧ ∀ a b, 8 ≤ a → N a b = I a b ∧ K a b = J a b := by
  obtain ⟨h1, h2, h3, h4, h5, h6, h7⟩ := h
  obtain ⟨⟨N, K⟩, q1, q2, q3⟩ := zd_get (w0 := zW_DB) (G := zo_g7) (zi_75 0 zo_hd) rfl rfl rfl rfl (as := [.ref 0, .ref 8]) (M := (I, J)) (zq_s1 zq_r0 (zq_s1 zq_r0 zq_s0)) h7
  have f : ∀ a b, zt_hit [(2, 0, 4), (3, 0, 4), (4, 0, 4)] a b = false → N a b = I a b ∧ K a b = J a b := q3
  have f1 : ∀ a b, a ≠ 2 → a ≠ 3 → a ≠ 4 → N a b = I a b ∧ K a b = J a b := fun a b a2 a3 a4 => f a b (by
    unfold zt_hit
    simp only [List.any_cons, List.any_nil, zt_beq_ne.mpr (Ne.symm a2), zt_beq_ne.mpr (Ne.symm a3), zt_beq_ne.mpr (Ne.symm a4), Bool.false_and, Bool.or_false])
  have f8 : ∀ a b, 8 ≤ a → N a b = I a b ∧ K a b = J a b := fun a b ha => f1 a b (by omega) (by omega) (by omega)
  refine ⟨N, K, q1, ⟨zdXb_f h1 (fun a b ha => (f8 a b ha).1), zdX_c h2 (fun c _ => (f1 1 c (by decide) (by decide) (by decide)).1) (fun c _ => (f1 7 c (by decide) (by decide) (by decide)).1), fun q hq => ?_, fun q hq => ?_, ?_, fun m hm hb => ?_, q2⟩, f8⟩
  · rw [(f1 5 q (by decide) (by decide) (by decide)).1]
    exact h3 q hq
  · rw [(f1 0 9 (by decide) (by decide) (by decide)).2]
    exact h4 q hq
  · rw [(f1 0 7 (by decide) (by decide) (by decide)).1]
    exact h5
  · rw [(f1 0 8 (by decide) (by decide) (by decide)).2] at hb
    exact h6 m hm hb
/-- at minute n's call -/
def zcb_A (B : zdB) (ms : Nat → Bool) (n : Nat) : zdZ := ((zd_at B n (zd_st B ms n)).1, (zd_st B ms n).2.1, (zd_at B n (zd_st B ms n)).2)
theorem zcb_set (hv : zdXv B) {ms : Nat → Bool} {n : Nat} (hn : n ≤ 60) (h : zdS B (zd_st B ms n) I J) : ∃ N K, zF_X2_settle zW_DB [.ref 0, .ref 8, .int (Int32.ofNat n)] (I, J) = some (none, (N, K)) ∧ zdS B (zcb_A B ms n) N K ∧ ∀ a b, 8 ≤ a → N a b = I a b ∧ K a b = J a b := by
  obtain ⟨N, K, q1, q2, q3⟩ := zdS_set hv hn h
  obtain ⟨g1, g2⟩ := zd_det (w0 := zW_DB) (G := zo_g7) (zi_68 0 zo_hd) rfl rfl rfl rfl (zq_s1 zq_r0 (zq_s1 zq_r0 (zq_s1 (zd_i (by omega) (by show (0 : Int) ≤ _; omega) (by show _ ≤ (60 : Int); omega)) zq_s0))) h.2.2.2.2.2.2 q1
  have g2 : ∀ a b, zt_hit [(0, 9, 9), (1, 0, 4), (7, 0, 5)] a b = false → N a b = I a b ∧ K a b = J a b := g2
  exact ⟨N, K, q1, q2, fun a b ha => g2 a b (by
    unfold zt_hit
    simp only [List.any_cons, List.any_nil, zt_beq_ne.mpr (show (0 : Nat) ≠ a by omega), zt_beq_ne.mpr (show (1 : Nat) ≠ a by omega), zt_beq_ne.mpr (show (7 : Nat) ≠ a by omega), Bool.false_and, Bool.or_false])⟩
theorem zcb_next {ms : Nat → Bool} {n : Nat} (h : ¬ (0 < n ∧ n % B.2.2.2.2.2.2 = 0 ∧ ms (n / B.2.2.2.2.2.2 - 1) = false)) : zd_st B ms (n + 1) = zcb_A B ms n := by
  show zd_nx B ms n (zd_st B ms n) = _
  unfold zd_nx zcb_A
  rw [show zd_fin B ms n ((zd_at B n (zd_st B ms n)).1, (zd_st B ms n).2.1) = ((zd_at B n (zd_st B ms n)).1, (zd_st B ms n).2.1) from if_neg h]
end ZCB
/-! where a day's cells and the bench's lie among the chances -/
theorem zcb_s {a n : Nat} (h : n < 18) (M : zm_I) : (zm_sub2 [(a, 8), (92, 10)] M).1 n = M.1 (if n < 8 then a + n else 84 + n) ∧ (zm_sub2 [(a, 8), (92, 10)] M).2 n = M.2 (if n < 8 then a + n else 84 + n) := by
  have e : zm_fw [(a, 8), (92, 10)] n = if n < 8 then a + n else 84 + n := by
    by_cases c : n < 8
    · rw [if_pos c]
      unfold zm_fw
      rw [if_pos c]
    · rw [if_neg c]
      unfold zm_fw
      rw [if_neg c]
      unfold zm_fw
      rw [if_pos (by omega)]
      omega
  exact ⟨by show M.1 (zm_fw [(a, 8), (92, 10)] n) = _; rw [e], by show M.2 (zm_fw [(a, 8), (92, 10)] n) = _; rw [e]⟩
theorem zcb_m {a : Nat} (ha : a + 8 ≤ 92) (M N : zm_I) (n i : Nat) : (a ≤ n → n < a + 8 → (zm_mrg [(a, 8), (92, 10)] M N).1 n i = N.1 (n - a) i ∧ (zm_mrg [(a, 8), (92, 10)] M N).2 n i = N.2 (n - a) i) ∧ (92 ≤ n → n < 102 → (zm_mrg [(a, 8), (92, 10)] M N).1 n i = N.1 (n - 84) i ∧ (zm_mrg [(a, 8), (92, 10)] M N).2 n i = N.2 (n - 84) i) ∧ ((n < a ∨ (a + 8 ≤ n ∧ n < 92) ∨ 102 ≤ n) → (zm_mrg [(a, 8), (92, 10)] M N).1 n i = M.1 n i ∧ (zm_mrg [(a, 8), (92, 10)] M N).2 n i = M.2 n i) := by
  have hin : zm_in [(a, 8), (92, 10)] n = true ↔ (a ≤ n ∧ n < a + 8) ∨ (92 ≤ n ∧ n < 102) := by
    simp only [zm_in, Bool.or_eq_true, Bool.and_eq_true, Nat.ble_eq, Bool.or_false]
    omega
  rcases zh_mrg1 [(a, 8), (92, 10)] M N n i with ⟨c1, c2, c3⟩ | ⟨c1, c2, c3⟩
  · have c := hin.mp c1
    refine ⟨fun h1 h2 => ?_, fun h1 h2 => ?_, fun h => by omega⟩
    · have e : zm_iv [(a, 8), (92, 10)] n = n - a := by
        unfold zm_iv
        rw [if_pos ⟨h1, h2⟩]
      rw [c2, c3, e]
      exact ⟨rfl, rfl⟩
    · have e : zm_iv [(a, 8), (92, 10)] n = n - 84 := by
        unfold zm_iv
        rw [if_neg (by omega)]
        unfold zm_iv
        rw [if_pos ⟨h1, by omega⟩]
        omega
      rw [c2, c3, e]
      exact ⟨rfl, rfl⟩
  · have c : ¬ ((a ≤ n ∧ n < a + 8) ∨ (92 ≤ n ∧ n < 102)) := fun h => by
      rw [hin.mpr h] at c1
      cases c1
    exact ⟨fun h1 h2 => absurd (Or.inl ⟨h1, h2⟩) c, fun h1 h2 => absurd (Or.inr ⟨h1, h2⟩) c, fun _ => ⟨c2, c3⟩⟩
/-- day h and the bench, among the chances -/
def zcb_D (B : zdB) (h : Nat) (z : zdZ) (I : Nat → Nat → Int32) (J : Nat → Nat → Int64) : Prop := zdS B z (zm_sub2 [(h, 8), (92, 10)] (I, J)).1 (zm_sub2 [(h, 8), (92, 10)] (I, J)).2
/-- all but day h stands -/
def zcb_f (h : Nat) (I N : Nat → Nat → Int32) (J K : Nat → Nat → Int64) : Prop := ∀ a b, (a < h ∨ h + 8 ≤ a) → N a b = I a b ∧ K a b = J a b
section ZCC
variable {B : zdB} {z : zdZ} {h : Nat} {I N : Nat → Nat → Int32} {J K : Nat → Nat → Int64}
theorem zcb_f_t {I' : Nat → Nat → Int32} {J' : Nat → Nat → Int64} (h1 : zcb_f h I I' J J') (h2 : zcb_f h I' N J' K) : zcb_f h I N J K := fun a b hab => ⟨(h2 a b hab).1.trans (h1 a b hab).1, (h2 a b hab).2.trans (h1 a b hab).2⟩
theorem zcb_f_r : zcb_f h I I J J := fun _ _ _ => ⟨rfl, rfl⟩
theorem zcb_h92 (hh : zm_isDay h) : h + 8 ≤ 92 := by
  rcases hh with rfl | rfl | rfl | rfl | rfl | rfl | rfl | rfl | rfl | rfl | rfl <;> decide
/-- a call on day h, put back -/
theorem zcb_back (hh : h + 8 ≤ 92) {N' : Nat → Nat → Int32} {K' : Nat → Nat → Int64} (hz : zdS B z N' K') (h8 : ∀ a b, 8 ≤ a → N' a b = (zm_sub2 [(h, 8), (92, 10)] (I, J)).1 a b ∧ K' a b = (zm_sub2 [(h, 8), (92, 10)] (I, J)).2 a b) : zcb_D B h z (zm_mrg [(h, 8), (92, 10)] (I, J) (N', K')).1 (zm_mrg [(h, 8), (92, 10)] (I, J) (N', K')).2 ∧ zcb_f h I (zm_mrg [(h, 8), (92, 10)] (I, J) (N', K')).1 J (zm_mrg [(h, 8), (92, 10)] (I, J) (N', K')).2 := by
  refine ⟨zcb_S_c hz (fun n hn => ?_) (fun n hn => ?_), fun a b hab => ?_⟩
  · funext i
    have e := (zcb_s (a := h) hn ((zm_mrg [(h, 8), (92, 10)] (I, J) (N', K')).1, (zm_mrg [(h, 8), (92, 10)] (I, J) (N', K')).2)).1
    rw [e]
    by_cases c : n < 8
    · rw [if_pos c]
      have := ((zcb_m hh (I, J) (N', K') (h + n) i).1 (by omega) (by omega)).1
      rw [show h + n - h = n by omega] at this
      exact this
    · rw [if_neg c]
      have := ((zcb_m hh (I, J) (N', K') (84 + n) i).2.1 (by omega) (by omega)).1
      rw [show 84 + n - 84 = n by omega] at this
      exact this
  · funext i
    have e := (zcb_s (a := h) hn ((zm_mrg [(h, 8), (92, 10)] (I, J) (N', K')).1, (zm_mrg [(h, 8), (92, 10)] (I, J) (N', K')).2)).2
    rw [e]
    by_cases c : n < 8
    · rw [if_pos c]
      have := ((zcb_m hh (I, J) (N', K') (h + n) i).1 (by omega) (by omega)).2
      rw [show h + n - h = n by omega] at this
      exact this
    · rw [if_neg c]
      have := ((zcb_m hh (I, J) (N', K') (84 + n) i).2.1 (by omega) (by omega)).2
      rw [show 84 + n - 84 = n by omega] at this
      exact this
  · by_cases c : 92 ≤ a ∧ a < 102
    · have m := (zcb_m hh (I, J) (N', K') a b).2.1 c.1 c.2
      have w := h8 (a - 84) b (by omega)
      have s := zcb_s (a := h) (n := a - 84) (by omega) (I, J)
      rw [if_neg (by omega), show 84 + (a - 84) = a by omega] at s
      rw [s.1, s.2] at w
      exact ⟨m.1.trans w.1, m.2.trans w.2⟩
    · exact (zcb_m hh (I, J) (N', K') a b).2.2 (by omega)
/-- from behind minute n's call up to the next one -/
theorem zcb_pass4 (hv : zdXv B) (hh : zm_isDay h) {ms : Nat → Bool} {n : Nat} (hn : n % B.2.2.2.2.2.2 = 0) (h60 : n ≤ 60) : ∀ (d m : Nat) (I : Nat → Nat → Int32) (J : Nat → Nat → Int64), m + d = 62 → n < m → m ≤ n + B.2.2.2.2.2.2 + 1 → I 92 3 = Int32.ofNat B.2.2.2.2.2.2 → (m ≤ n + B.2.2.2.2.2.2 → zcb_D B h (zd_st B ms m) I J) → (m = n + B.2.2.2.2.2.2 + 1 → zcb_D B h (zcb_A B ms (n + B.2.2.2.2.2.2)) I J) → ∃ N K, zv_X1_passToCall_CB_4 I J h (Int32.ofNat n) (Int32.ofNat m) = some (none, (N, K)) ∧ (n + B.2.2.2.2.2.2 ≤ 60 → zcb_D B h (zcb_A B ms (n + B.2.2.2.2.2.2)) N K) ∧ (∃ z, zcb_D B h z N K) ∧ zcb_f h I N J K := by
  have hE := hv.2.2.1
  have h92 := zcb_h92 hh
  intro d
  induction d with
  | zero =>
    intro m I J hm hnm hmE h3 hD hA
    rw [zq_X1_passToCall_CB_4 _ _ _ _ _ hh]
    by_cases c1 : m = n + B.2.2.2.2.2.2 + 1
    · have q1 : Int32.ofNat n + I 92 3 < Int32.ofNat m := by
        rw [h3, zh_ofadd (k := B.2.2.2.2.2.2) (zp_o (by omega)) (by omega), ze_lt, zp_o (by omega), zp_o (by omega)]
        omega
      rw [if_pos q1, zq_X1_passToCall_CB_37 _ _ _ _ _ hh]
      exact ⟨I, J, rfl, fun _ => hA c1, ⟨_, hA c1⟩, zcb_f_r⟩
    · have q1 : ¬ (Int32.ofNat n + I 92 3 < Int32.ofNat m) := fun q => by
        rw [h3, zh_ofadd (k := B.2.2.2.2.2.2) (zp_o (by omega)) (by omega), ze_lt, zp_o (by omega), zp_o (by omega)] at q
        omega
      have q2 : (60 : Int32) < Int32.ofNat m := by
        rw [ze_lt, zp_o (by omega), show (60 : Int32).toInt = 60 by decide]
        omega
      rw [if_neg q1, zq_X1_passToCall_CB_14 _ _ _ _ _ hh, if_pos q2, zq_X1_passToCall_CB_37 _ _ _ _ _ hh]
      exact ⟨I, J, rfl, fun _ => by omega, ⟨_, hD (by omega)⟩, zcb_f_r⟩
  | succ d ih =>
    intro m I J hm hnm hmE h3 hD hA
    rw [zq_X1_passToCall_CB_4 _ _ _ _ _ hh]
    by_cases c1 : m = n + B.2.2.2.2.2.2 + 1
    · have q1 : Int32.ofNat n + I 92 3 < Int32.ofNat m := by
        rw [h3, zh_ofadd (k := B.2.2.2.2.2.2) (zp_o (by omega)) (by omega), ze_lt, zp_o (by omega), zp_o (by omega)]
        omega
      rw [if_pos q1, zq_X1_passToCall_CB_37 _ _ _ _ _ hh]
      exact ⟨I, J, rfl, fun _ => hA c1, ⟨_, hA c1⟩, zcb_f_r⟩
    · have q1 : ¬ (Int32.ofNat n + I 92 3 < Int32.ofNat m) := fun q => by
        rw [h3, zh_ofadd (k := B.2.2.2.2.2.2) (zp_o (by omega)) (by omega), ze_lt, zp_o (by omega), zp_o (by omega)] at q
        omega
      rw [if_neg q1, zq_X1_passToCall_CB_14 _ _ _ _ _ hh]
      by_cases c2 : m ≤ 60
      · have q2 : ¬ (60 : Int32) < Int32.ofNat m := fun q => by
          rw [ze_lt, zp_o (by omega), show (60 : Int32).toInt = 60 by decide] at q
          omega
        have hS : zdS B (zd_st B ms m) (zm_sub2 [(h, 8), (92, 10)] (I, J)).1 (zm_sub2 [(h, 8), (92, 10)] (I, J)).2 := hD (by omega)
        obtain ⟨N1, K1, g1, g2, g3⟩ := zcb_grow hS
        have g1 : zF_X2_growAll zW_DB [.ref 0, .ref 8] (zm_sub2 [(h, 8), (92, 10)] (I, J)) = some (none, (N1, K1)) := g1
        obtain ⟨b1, b2⟩ := zcb_back (I := I) (J := J) h92 g2 g3
        rw [if_neg q2, zc_X1_passToCall_CB_20 _ _ _ _ _ hh g1]
        generalize (zm_mrg [(h, 8), (92, 10)] (I, J) (N1, K1)).1 = I1 at b1 b2 ⊢
        generalize (zm_mrg [(h, 8), (92, 10)] (I, J) (N1, K1)).2 = J1 at b1 b2 ⊢
        obtain ⟨N2, K2, s1, s2, s3⟩ := zcb_set hv c2 b1
        have s1 : zF_X2_settle zW_DB [.ref 0, .ref 8, .int (Int32.ofNat m)] (zm_sub2 [(h, 8), (92, 10)] (I1, J1)) = some (none, (N2, K2)) := s1
        obtain ⟨e1, e2⟩ := zcb_back (I := I1) (J := J1) h92 s2 s3
        rw [zc_X1_passToCall_CB_25 _ _ _ _ _ hh s1, zq_X1_passToCall_CB_31 _ _ _ _ _ hh, zh_ofadd (k := 1) zh_p1 (by omega)]
        generalize (zm_mrg [(h, 8), (92, 10)] (I1, J1) (N2, K2)).1 = I2 at e1 e2 ⊢
        generalize (zm_mrg [(h, 8), (92, 10)] (I1, J1) (N2, K2)).2 = J2 at e1 e2 ⊢
        have f2 := zcb_f_t b2 e2
        obtain ⟨N, K, r1, r2, r4, r3⟩ := ih (m + 1) I2 J2 (by omega) (by omega) (by omega) (by rw [(f2 92 3 (by omega)).1]; exact h3) (fun hle => by
          have hno : ¬ (0 < m ∧ m % B.2.2.2.2.2.2 = 0 ∧ ms (m / B.2.2.2.2.2.2 - 1) = false) := fun z => by
            have d1 : B.2.2.2.2.2.2 ∣ m := Nat.dvd_of_mod_eq_zero z.2.1
            have d2 : B.2.2.2.2.2.2 ∣ n := Nat.dvd_of_mod_eq_zero hn
            have d3 := (Nat.dvd_sub d1 d2)
            have := Nat.le_of_dvd (by omega) d3
            omega
          rw [zcb_next hno]
          exact e1) (fun heq => by
          rw [show n + B.2.2.2.2.2.2 = m by omega]
          exact e1)
        exact ⟨N, K, r1, r2, r4, zcb_f_t f2 r3⟩
      · have q2 : (60 : Int32) < Int32.ofNat m := by
          rw [ze_lt, zp_o (by omega), show (60 : Int32).toInt = 60 by decide]
          omega
        rw [if_pos q2, zq_X1_passToCall_CB_37 _ _ _ _ _ hh]
        exact ⟨I, J, rfl, fun _ => by omega, ⟨_, hD (by omega)⟩, zcb_f_r⟩
theorem zcb_pass (hv : zdXv B) (hh : zm_isDay h) {ms : Nat → Bool} {n : Nat} (hn : n % B.2.2.2.2.2.2 = 0) (h60 : n ≤ 60) (h3 : I 92 3 = Int32.ofNat B.2.2.2.2.2.2) (hD : zcb_D B h (zd_st B ms (n + 1)) I J) : ∃ N K, zF_X1_passToCall zW_CB [.ref h, .ref 92, .int (Int32.ofNat n)] (I, J) = some (none, (N, K)) ∧ (n + B.2.2.2.2.2.2 ≤ 60 → zcb_D B h (zcb_A B ms (n + B.2.2.2.2.2.2)) N K) ∧ (∃ z, zcb_D B h z N K) ∧ zcb_f h I N J K := by
  have hE := hv.2.2.1
  obtain ⟨N, K, q1, q2, q4, q3⟩ := zcb_pass4 hv hh (ms := ms) hn h60 (61 - n) (n + 1) I J (by omega) (by omega) (by omega) h3 (fun _ => hD) (fun e => by omega)
  refine ⟨N, K, ?_, q2, q4, q3⟩
  have e : zF_X1_passToCall zW_CB [.ref h, .ref 92, .int (Int32.ofNat n)] (I, J) = _ := (zf_X1_passToCall_CB I J h (Int32.ofNat n)).trans (zq_X1_passToCall_CB_0 I J h (Int32.ofNat n) hh)
  rw [e, zh_ofadd (k := 1) zh_p1 (by omega)]
  exact q1
end ZCC
