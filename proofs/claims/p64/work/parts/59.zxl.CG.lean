/-! THE CLASS'S CHANCES, asked for -/
theorem zcg_s {n : Nat} (h : n < 102) (M : zm_I) : (zm_sub2 [(72, 92), (1, 10)] M).1 n = M.1 (if n < 92 then 72 + n else n - 91) ∧ (zm_sub2 [(72, 92), (1, 10)] M).2 n = M.2 (if n < 92 then 72 + n else n - 91) := by
  have e : zm_fw [(72, 92), (1, 10)] n = if n < 92 then 72 + n else n - 91 := by
    by_cases c : n < 92
    · rw [if_pos c]
      unfold zm_fw
      rw [if_pos c]
    · rw [if_neg c]
      unfold zm_fw
      rw [if_neg c]
      unfold zm_fw
      rw [if_pos (by omega)]
      omega
  exact ⟨by show M.1 (zm_fw [(72, 92), (1, 10)] n) = _; rw [e], by show M.2 (zm_fw [(72, 92), (1, 10)] n) = _; rw [e]⟩
theorem zcg_m (M N : zm_I) (n i : Nat) : (72 ≤ n → n < 164 → (zm_mrg [(72, 92), (1, 10)] M N).1 n i = N.1 (n - 72) i ∧ (zm_mrg [(72, 92), (1, 10)] M N).2 n i = N.2 (n - 72) i) ∧ (1 ≤ n → n < 11 → (zm_mrg [(72, 92), (1, 10)] M N).1 n i = N.1 (n + 91) i ∧ (zm_mrg [(72, 92), (1, 10)] M N).2 n i = N.2 (n + 91) i) ∧ ((n = 0 ∨ (11 ≤ n ∧ n < 72) ∨ 164 ≤ n) → (zm_mrg [(72, 92), (1, 10)] M N).1 n i = M.1 n i ∧ (zm_mrg [(72, 92), (1, 10)] M N).2 n i = M.2 n i) := by
  have hin : zm_in [(72, 92), (1, 10)] n = true ↔ (72 ≤ n ∧ n < 164) ∨ (1 ≤ n ∧ n < 11) := by
    simp only [zm_in, Bool.or_eq_true, Bool.and_eq_true, Nat.ble_eq, Bool.or_false]
    omega
  rcases zh_mrg1 [(72, 92), (1, 10)] M N n i with ⟨c1, c2, c3⟩ | ⟨c1, c2, c3⟩
  · have c := hin.mp c1
    refine ⟨fun h1 h2 => ?_, fun h1 h2 => ?_, fun h => by omega⟩
    · have e : zm_iv [(72, 92), (1, 10)] n = n - 72 := by
        unfold zm_iv
        rw [if_pos ⟨h1, by omega⟩]
      rw [c2, c3, e]
      exact ⟨rfl, rfl⟩
    · have e : zm_iv [(72, 92), (1, 10)] n = n + 91 := by
        unfold zm_iv
        rw [if_neg (by omega)]
        unfold zm_iv
        rw [if_pos ⟨h1, by omega⟩]
        omega
      rw [c2, c3, e]
      exact ⟨rfl, rfl⟩
  · have c : ¬ ((72 ≤ n ∧ n < 164) ∨ (1 ≤ n ∧ n < 11)) := fun h => by
      rw [hin.mpr h] at c1
      cases c1
    exact ⟨fun h1 h2 => absurd (Or.inl ⟨h1, h2⟩) c, fun h1 h2 => absurd (Or.inr ⟨h1, h2⟩) c, fun _ => ⟨c2, c3⟩⟩
theorem zcg_o {M : zm_I} (hG : zt_Gs zo_g1 M) : zcf_o M ≤ 10 ∧ M.1 1 4 = Int32.ofNat (zcf_o M) := by
  have g4 : (0 : Int) ≤ (M.1 1 4).toInt ∧ (M.1 1 4).toInt ≤ 10 := hG 1 _ rfl 4 _ rfl
  refine ⟨?_, zd_of g4.1⟩
  unfold zcf_o
  omega
theorem zcg_G {M : zm_I} (hG : zt_Gs zo_g1 M) : zcd_G (zm_sub2 [(72, 92), (1, 10)] M).1 (zm_sub2 [(72, 92), (1, 10)] M).2 := fun h hh n g hg i bd hbd => by
  obtain ⟨a, ha, rfl⟩ := zcd_dyo hh
  have hn : n < 18 := (List.getElem?_eq_some_iff.mp hg).1
  have w := hG (if n < 8 then 76 + 8 * a + n else n - 7) g ((zcg_e1 a ha n hn).symm.trans hg) i bd hbd
  rw [(zcb_s (a := 4 + 8 * a) hn ((zm_sub2 [(72, 92), (1, 10)] M).1, (zm_sub2 [(72, 92), (1, 10)] M).2)).1]
  have e : (zm_sub2 [(72, 92), (1, 10)] M).1 (if n < 8 then 4 + 8 * a + n else 84 + n) = M.1 (if n < 8 then 76 + 8 * a + n else n - 7) := by
    by_cases c : n < 8
    · rw [if_pos c, if_pos c, (zcg_s (show 4 + 8 * a + n < 102 by omega) M).1, if_pos (by omega), show 72 + (4 + 8 * a + n) = 76 + 8 * a + n by omega]
    · rw [if_neg c, if_neg c, (zcg_s (show 84 + n < 102 by omega) M).1, if_neg (by omega), show 84 + n - 91 = n - 7 by omega]
  show bd.1 ≤ ((zm_sub2 [(72, 92), (1, 10)] M).1 (if n < 8 then 4 + 8 * a + n else 84 + n) i).toInt ∧ ((zm_sub2 [(72, 92), (1, 10)] M).1 (if n < 8 then 4 + 8 * a + n else 84 + n) i).toInt ≤ bd.2
  rw [e]
  exact w
theorem zcg_right {M : zm_I} (hG : zt_Gs zo_g1 M) (hF : zcF M) (hE : 1 ≤ (M.1 1 3).toInt) : ∃ N, zF_X1_weigh zW_CB [.ref 0, .ref 92] (zm_sub2 [(72, 92), (1, 10)] M) = some (none, N) ∧ zcf_right (zm_mrg [(72, 92), (1, 10)] M N) ∧ zd_bx (zm_mrg [(72, 92), (1, 10)] M N) = zd_bx M ∧ zcf_o (zm_mrg [(72, 92), (1, 10)] M N) = zcf_o M ∧ ∀ n b, n < 11 → (zm_mrg [(72, 92), (1, 10)] M N).1 n b = M.1 n b := by
  have e : zF_X1_weigh zW_CB [.ref 0, .ref 92] (zm_sub2 [(72, 92), (1, 10)] M) = zv_X1_weigh_CB_0 (zm_sub2 [(72, 92), (1, 10)] M).1 (zm_sub2 [(72, 92), (1, 10)] M).2 := zf_X1_weigh_CB _ _
  have k0 : (zm_sub2 [(72, 92), (1, 10)] M).1 0 0 = M.1 72 0 := by rw [(zcg_s (show 0 < 102 by decide) M).1, if_pos (by decide)]
  by_cases k : M.1 72 0 = 0
  · have ho := zcg_o hG
    have p : ∀ n, n < 11 → 1 ≤ n → (zm_sub2 [(72, 92), (1, 10)] M).1 (91 + n) = M.1 n := fun n h1 h2 => by
      rw [(zcg_s (show 91 + n < 102 by omega) M).1, if_neg (by omega), show 91 + n - 91 = n by omega]
    have g3 : (0 : Int) ≤ (M.1 1 3).toInt ∧ (M.1 1 3).toInt ≤ 30 := hG 1 _ rfl 3 _ rfl
    obtain ⟨N, K, q1, q2, q3, q4⟩ := zcg_weigh (B := zd_bx M) (zd_bxV hG hE) (o := zcf_o M) ho.1 (I := (zm_sub2 [(72, 92), (1, 10)] M).1) (J := (zm_sub2 [(72, 92), (1, 10)] M).2) (k0.trans k) (by
      rw [show (92 : Nat) = 91 + 1 from rfl, p 1 (by decide) (by decide)]
      exact zd_of g3.1) (by
      rw [show (92 : Nat) = 91 + 1 from rfl, p 1 (by decide) (by decide)]
      exact ho.2) (zd_bxB hG (fun n b hn => by
      rw [(zcb_s (a := 4) (show 8 + n < 18 by omega) ((zm_sub2 [(72, 92), (1, 10)] M).1, (zm_sub2 [(72, 92), (1, 10)] M).2)).1, if_neg (by omega)]
      show (zm_sub2 [(72, 92), (1, 10)] M).1 (84 + (8 + n)) b = M.1 (1 + n) b
      rw [show 84 + (8 + n) = 91 + (1 + n) by omega, p (1 + n) (by omega) (by omega)])) (zcg_G hG)
    have low : ∀ n b, n < 11 → (zm_mrg [(72, 92), (1, 10)] M (N, K)).1 n b = M.1 n b := fun n b hn => by
      by_cases z : n = 0
      · exact ((zcg_m M (N, K) n b).2.2 (Or.inl z)).1
      · rw [((zcg_m M (N, K) n b).2.1 (by omega) hn).1]
        show N (n + 91) b = M.1 n b
        rw [(q4 (n + 91) b (by omega)).1, Nat.add_comm n 91, p n hn (by omega)]
    have hbx : zd_bx (zm_mrg [(72, 92), (1, 10)] M (N, K)) = zd_bx M := zd_bx_c (fun b _ => low 1 b (by decide)) (fun c _ => ⟨low 4 c (by decide), low 5 c (by decide)⟩) (fun k _ => ⟨low 8 k (by decide), low 9 k (by decide), low 10 k (by decide)⟩)
    have ho2 : zcf_o (zm_mrg [(72, 92), (1, 10)] M (N, K)) = zcf_o M := by
      unfold zcf_o
      rw [low 1 4 (by decide)]
    refine ⟨(N, K), q1, ?_, hbx, ho2, low⟩
    unfold zcf_right
    rw [hbx, ho2]
    refine ⟨((zcg_m M (N, K) 72 4).1 (by decide) (by decide)).1.trans q2, fun k c hk hc => ?_⟩
    exact ((zcg_m M (N, K) 73 (5 * k + c)).1 (by decide) (by decide)).2.trans (q3 k c hk hc)
  · have hR := (hF.resolve_left k) hE
    refine ⟨zm_sub2 [(72, 92), (1, 10)] M, ?_, ?_, ?_, ?_, fun n b _ => ?_⟩
    · rw [e, zq_X1_weigh_CB_0, if_neg (fun z => k (k0.symm.trans z)), zq_X1_weigh_CB_7]
    · rw [zm_mrg_id]
      exact hR
    · rw [zm_mrg_id]
    · rw [zm_mrg_id]
    · rw [zm_mrg_id]
/-- of ten to so many calls: gone in by then -/
def zcg_T (B : zdB) (o k c : Nat) : Nat := zca_T o (10 - o) (min (zcf_N B) k) (fun x => zca_g B (zca_ms x) (min (zcf_N B) k) c)
theorem zcg_Tg {B : zdB} (hv : zdXv B) {o : Nat} (ho : o ≤ 10) (k c : Nat) : zcg_T B o k c = zce_g (fun q => (10 - o) * zcf_V B o q c) (min (zcf_N B) k) := zce_gone hv.1 hv.2.2.1.1 (show 10 - o + o = 10 by omega) c _
theorem zcg_Tb {B : zdB} {o : Nat} (ho : o ≤ 10) {k : Nat} (hk : k ≤ 10) (c : Nat) : zcg_T B o k c < 2 ^ 34 := by
  have h := zce_Tle (o := o) (h := 10 - o) (show 10 - o + o = 10 by omega) (F := fun x => zca_g B (zca_ms x) (min (zcf_N B) k) c) (fun x => zce_g1 _ c) (min (zcf_N B) k)
  have p := (zce_pow (min (zcf_N B) k) (by omega)).1
  exact Nat.lt_of_le_of_lt h p
theorem zcg_gain {M : zm_I} (hG : zt_Gs zo_g1 M) (hE : 1 ≤ (M.1 1 3).toInt) (hR : zcf_right M) {c k : Nat} (hc : c < 5) (hk : k ≤ 10) : zF_X1_gained zW_C [.ref 0, .ref 1, .int (Int32.ofNat c), .int (Int32.ofNat k)] (zm_sub2 [(72, 92)] M) = some (some (.long (Int64.ofNat (zcg_T (zd_bx M) (zcf_o M) k c))), zm_sub2 [(72, 92)] M) := by
  rw [zcg_Tg (zd_bxV hG hE) (zcg_o hG).1]
  exact zce_gain (zm_sub2 [(72, 92)] M).1 (zm_sub2 [(72, 92)] M).2 (fun q => (10 - zcf_o M) * zcf_V (zd_bx M) (zcf_o M) q c) (Nat.min_le_left _ _) hk hc hR.1 (fun q hq => hR.2 q c hq hc)
/-- what is answered of a -/
def zcg_q (B : zdB) (k a : Nat) (w : Int32) : Nat := (if w = 0 then a else 10 ^ (min (zcf_N B) k)) / Nat.gcd (10 ^ (min (zcf_N B) k)) a
theorem zcg_part {M : zm_I} (hR : zcf_right M) {a k : Nat} (hk : k ≤ 10) (ha : a < 2 ^ 63) (w : Int32) : zF_X1_part zW_C [.ref 0, .long (Int64.ofNat a), .int (Int32.ofNat k), .int w] (zm_sub2 [(72, 92)] M) = some (some (.long (Int64.ofNat (zcg_q (zd_bx M) k a w))), zm_sub2 [(72, 92)] M) := zce_part (zm_sub2 [(72, 92)] M).1 (zm_sub2 [(72, 92)] M).2 w (Nat.min_le_left _ _) hk ha hR.1
theorem zcg_Gm {M : zm_I} (hG : zt_Gs zo_g1 M) {v : Option Value} {N : zm_I} (h : zF_X1_weigh zW_CB [.ref 0, .ref 92] (zm_sub2 [(72, 92), (1, 10)] M) = some (none, N)) (hR : zcf_right (zm_mrg [(72, 92), (1, 10)] M N)) (low : ∀ n b, n < 11 → (zm_mrg [(72, 92), (1, 10)] M N).1 n b = M.1 n b) : zcF (zm_mrg [(72, 92), (1, 10)] M N) := Or.inr (fun _ => hR)
theorem zcg_chance {M : zm_I} (hG : zt_Gs zo_g1 M) (hF : zcF M) (hE : 1 ≤ (M.1 1 3).toInt) {c k : Nat} (hc : c < 5) (hk : k ≤ 10) (w : Int32) : ∃ N, zv_X9_chance_X_23 M.1 M.2 (Int32.ofNat c) (Int32.ofNat k) w = some (some (.long (Int64.ofNat (zcg_q (zd_bx M) k (zcg_T (zd_bx M) (zcf_o M) k c) w))), N) ∧ zcF N := by
  obtain ⟨N, q1, q2, q3, q4, q5⟩ := zcg_right hG hF hE
  have hE2 : 1 ≤ ((zm_mrg [(72, 92), (1, 10)] M N).1 1 3).toInt := by
    rw [q5 1 3 (by decide)]
    exact hE
  have e := zc_X9_chance_X_23 M.1 M.2 (Int32.ofNat c) (Int32.ofNat k) w q1
  have e : zv_X9_chance_X_23 M.1 M.2 (Int32.ofNat c) (Int32.ofNat k) w = zv_X9_chance_X_34 (zm_mrg [(72, 92), (1, 10)] M N).1 (zm_mrg [(72, 92), (1, 10)] M N).2 (Int32.ofNat c) (Int32.ofNat k) w := e
  rw [← q3, ← q4, e]
  generalize zm_mrg [(72, 92), (1, 10)] M N = P at q2 q5 hE2 ⊢
  have ho : zcf_o P ≤ 10 := by
    have g4 : (0 : Int) ≤ (M.1 1 4).toInt ∧ (M.1 1 4).toInt ≤ 10 := hG 1 _ rfl 4 _ rfl
    unfold zcf_o
    rw [q5 1 4 (by decide)]
    omega
  have b := zcg_Tb (B := zd_bx P) ho hk c
  have hv : zdXv (zd_bx P) := by
    rw [zd_bx_c (M := M) (M' := P) (fun b _ => q5 1 b (by decide)) (fun c _ => ⟨q5 4 c (by decide), q5 5 c (by decide)⟩) (fun k _ => ⟨q5 8 k (by decide), q5 9 k (by decide), q5 10 k (by decide)⟩)]
    exact zd_bxV hG hE
  have g : zF_X1_gained zW_C [.ref 0, .ref 1, .int (Int32.ofNat c), .int (Int32.ofNat k)] (zm_sub2 [(72, 92)] P) = some (some (.long (Int64.ofNat (zcg_T (zd_bx P) (zcf_o P) k c))), zm_sub2 [(72, 92)] P) := by
    rw [zcg_Tg hv ho]
    exact zce_gain (zm_sub2 [(72, 92)] P).1 (zm_sub2 [(72, 92)] P).2 (fun q => (10 - zcf_o P) * zcf_V (zd_bx P) (zcf_o P) q c) (Nat.min_le_left _ _) hk hc q2.1 (fun q hq => q2.2 q c hq hc)
  have p := zcg_part q2 hk (show zcg_T (zd_bx P) (zcf_o P) k c < 2 ^ 63 by omega) w
  refine ⟨P, ?_, Or.inr (fun _ => q2)⟩
  rw [zc_X9_chance_X_34 P.1 P.2 _ _ _ g, zm_mrg_id, zc_X9_chance_X_54 P.1 P.2 _ _ _ _ p, zm_mrg_id, zq_X9_chance_X_59]
theorem zcg_mean35 {P : zm_I} (q2 : zcf_right P) (hv : zdXv (zd_bx P)) (ho : zcf_o P ≤ 10) {k : Nat} (hk : k ≤ 10) (w : Int32) (h6 : P.1 1 6 = Int32.ofNat (zd_bx P).1.1) : ∀ (d c : Nat), c + d = (zd_bx P).1.1 → zv_X9_mean_X_35 P.1 P.2 (Int32.ofNat k) w (Int64.ofNat (zca_S (zcg_T (zd_bx P) (zcf_o P) k) c)) (Int32.ofNat c) = some (some (.long (Int64.ofNat (zcg_q (zd_bx P) k (zca_S (zcg_T (zd_bx P) (zcf_o P) k) (zd_bx P).1.1) w))), P) := by
  have hC := hv.1.1
  intro d
  induction d with
  | zero =>
    intro c h
    have ec : c = (zd_bx P).1.1 := by omega
    have bd : ∀ n, zca_S (zcg_T (zd_bx P) (zcf_o P) k) n ≤ n * 2 ^ 34 := by
      intro n
      induction n with
      | zero => exact Nat.zero_le _
      | succ n ih =>
        have b := zcg_Tb (B := zd_bx P) ho hk n
        show zca_S (zcg_T (zd_bx P) (zcf_o P) k) n + zcg_T (zd_bx P) (zcf_o P) k n ≤ (n + 1) * 2 ^ 34
        omega
    have b := bd (zd_bx P).1.1
    have p := zcg_part q2 hk (show zca_S (zcg_T (zd_bx P) (zcf_o P) k) (zd_bx P).1.1 < 2 ^ 63 by omega) w
    rw [zq_X9_mean_X_35, h6, ec, if_pos ((zp_le (by omega) (by omega)).mpr (Nat.le_refl _)), zc_X9_mean_X_73 P.1 P.2 _ _ _ _ p, zm_mrg_id, zq_X9_mean_X_83]
  | succ d ih =>
    intro c h
    have g : zF_X1_gained zW_C [.ref 0, .ref 1, .int (Int32.ofNat c), .int (Int32.ofNat k)] (zm_sub2 [(72, 92)] P) = some (some (.long (Int64.ofNat (zcg_T (zd_bx P) (zcf_o P) k c))), zm_sub2 [(72, 92)] P) := by
      rw [zcg_Tg hv ho]
      exact zce_gain (zm_sub2 [(72, 92)] P).1 (zm_sub2 [(72, 92)] P).2 (fun q => (10 - zcf_o P) * zcf_V (zd_bx P) (zcf_o P) q c) (Nat.min_le_left _ _) hk (by omega) q2.1 (fun q hq => q2.2 q c hq (by omega))
    rw [zq_X9_mean_X_35, h6, if_neg (fun z => by have := (zp_le (by omega) (by omega)).mp z; omega), zc_X9_mean_X_47 P.1 P.2 _ _ _ _ g, zm_mrg_id, zq_X9_mean_X_65, zp_o1 (by omega), ← Int64.ofNat_add]
    exact ih (c + 1) (by omega)
theorem zcg_mean {M : zm_I} (hG : zt_Gs zo_g1 M) (hF : zcF M) (hE : 1 ≤ (M.1 1 3).toInt) {k : Nat} (hk : k ≤ 10) (w : Int32) : ∃ N, zv_X9_mean_X_19 M.1 M.2 (Int32.ofNat k) w = some (some (.long (Int64.ofNat (zcg_q (zd_bx M) k (zca_S (zcg_T (zd_bx M) (zcf_o M) k) (zd_bx M).1.1) w))), N) ∧ zcF N := by
  obtain ⟨N, q1, q2, q3, q4, q5⟩ := zcg_right hG hF hE
  have e : zv_X9_mean_X_19 M.1 M.2 (Int32.ofNat k) w = zv_X9_mean_X_30 (zm_mrg [(72, 92), (1, 10)] M N).1 (zm_mrg [(72, 92), (1, 10)] M N).2 (Int32.ofNat k) w := zc_X9_mean_X_19 M.1 M.2 (Int32.ofNat k) w q1
  rw [← q3, ← q4, e]
  generalize zm_mrg [(72, 92), (1, 10)] M N = P at q2 q5 ⊢
  have ho : zcf_o P ≤ 10 := by
    have g4 : (0 : Int) ≤ (M.1 1 4).toInt ∧ (M.1 1 4).toInt ≤ 10 := hG 1 _ rfl 4 _ rfl
    unfold zcf_o
    rw [q5 1 4 (by decide)]
    omega
  have hv : zdXv (zd_bx P) := by
    rw [zd_bx_c (M := M) (M' := P) (fun b _ => q5 1 b (by decide)) (fun c _ => ⟨q5 4 c (by decide), q5 5 c (by decide)⟩) (fun k _ => ⟨q5 8 k (by decide), q5 9 k (by decide), q5 10 k (by decide)⟩)]
    exact zd_bxV hG hE
  have h6 : P.1 1 6 = Int32.ofNat (zd_bx P).1.1 := by
    have g6 : (0 : Int) ≤ (M.1 1 6).toInt ∧ (M.1 1 6).toInt ≤ 5 := hG 1 _ rfl 6 _ rfl
    rw [← q5 1 6 (by decide)] at g6
    exact zd_of g6.1
  refine ⟨P, ?_, Or.inr (fun _ => q2)⟩
  rw [zq_X9_mean_X_30]
  exact zcg_mean35 q2 hv ho hk w h6 (zd_bx P).1.1 0 (by omega)
