/-! THE CLASS'S CHANCES: all of them weighed -/
theorem zcd_idx : ∀ i, i < 10 → ∀ c, c < 5 → (Int32.ofNat i * 5 + Int32.ofNat c : Int32) = Int32.ofNat (5 * i + c) := by decide +kernel
theorem zcd_mul : ∀ a, a < 11 → ∀ b, b < 31 → (Int32.ofNat a * Int32.ofNat b : Int32) = Int32.ofNat (a * b) := by decide +kernel
theorem zcd_hd : ∀ o, o < 11 → Int32.toInt64 (10 - Int32.ofNat o) = Int64.ofNat (10 - o) ∧ Int32.toInt64 (Int32.ofNat o) = Int64.ofNat o := by decide +kernel
theorem zcd_ix : ∀ i, i < 10 → zm_dayIx (Int32.ofNat i) (4 + 8 * i) := by
  unfold zm_dayIx
  decide +kernel
theorem zcd_dy : ∀ i, i < 11 → zm_isDay (4 + 8 * i) := by
  unfold zm_isDay
  decide +kernel
theorem zcd_dyo {h : Nat} (hh : zm_isDay h) : ∃ a, a < 11 ∧ h = 4 + 8 * a := by
  rcases hh with rfl | rfl | rfl | rfl | rfl | rfl | rfl | rfl | rfl | rfl | rfl
  · exact ⟨0, by decide, rfl⟩
  · exact ⟨1, by decide, rfl⟩
  · exact ⟨2, by decide, rfl⟩
  · exact ⟨3, by decide, rfl⟩
  · exact ⟨4, by decide, rfl⟩
  · exact ⟨5, by decide, rfl⟩
  · exact ⟨6, by decide, rfl⟩
  · exact ⟨7, by decide, rfl⟩
  · exact ⟨8, by decide, rfl⟩
  · exact ⟨9, by decide, rfl⟩
  · exact ⟨10, by decide, rfl⟩
theorem zcd_wl {J : Nat → Nat → Int64} {n i q : Nat} {x : Int64} : zm_wl J n i x n q = if q = i then x else J n q := by
  unfold zm_wl
  by_cases e : q = i
  · rw [if_pos ⟨rfl, e⟩, if_pos e]
  · rw [if_neg (fun z => e z.2), if_neg e]
theorem zcd_wo {J : Nat → Nat → Int64} {n i a b : Nat} {x : Int64} (h : a ≠ n) : zm_wl J n i x a b = J a b := if_neg (fun z => h z.1)
theorem zcd_sum {j l : Int64} {p t u v w : Nat} : j + l * Int64.ofNat p + l * Int64.ofNat t * Int64.ofNat u + l * Int64.ofNat v * Int64.ofNat w = j + l * Int64.ofNat (p + t * u + v * w) := by
  rw [Int64.ofNat_add, Int64.ofNat_add, Int64.ofNat_mul, Int64.ofNat_mul, Int64.mul_add, Int64.mul_add, Int64.mul_assoc, Int64.mul_assoc, Int64.add_assoc j, Int64.add_assoc j]
theorem zcd_e2 : ∀ n, n < 10 → zo_g2[n]? = zo_g7[8 + n]? := by decide +kernel
section ZCH
variable {B : zdB} {z : zdZ} {h : Nat} {I N : Nat → Nat → Int32} {J K : Nat → Nat → Int64}
/-- what stands of the bench and of the chances -/
def zcd_I (B : zdB) (o n : Nat) (I : Nat → Nat → Int32) : Prop := I 92 3 = Int32.ofNat B.2.2.2.2.2.2 ∧ I 92 4 = Int32.ofNat o ∧ I 0 4 = Int32.ofNat n
/-- every day within its bounds -/
def zcd_G (I : Nat → Nat → Int32) (J : Nat → Nat → Int64) : Prop := ∀ h, zm_isDay h → zt_Gs zo_g7 (zm_sub2 [(h, 8), (92, 10)] (I, J))
theorem zcd_Gs (hD : zcb_D B h z I J) : zt_Gs zo_g7 (zm_sub2 [(h, 8), (92, 10)] (I, J)) := by
  have hS : zdS B z (zm_sub2 [(h, 8), (92, 10)] (I, J)).1 (zm_sub2 [(h, 8), (92, 10)] (I, J)).2 := hD
  exact hS.2.2.2.2.2.2
theorem zcd_Gf (hh : zm_isDay h) (hG : zcd_G I J) (hD : zcb_D B h z N K) (hf : zcb_f h I N J K) : zcd_G N K := fun h' hh' => by
  by_cases e : h' = h
  · rw [e]
    exact zcd_Gs hD
  · obtain ⟨a, ha, ea⟩ := zcd_dyo hh
    obtain ⟨b, hb, eb⟩ := zcd_dyo hh'
    intro n g hg i bd hbd
    have hn : n < 18 := (List.getElem?_eq_some_iff.mp hg).1
    have w := hG h' hh' n g hg i bd hbd
    rw [(zcb_s (a := h') hn (I, J)).1] at w
    rw [(zcb_s (a := h') hn (N, K)).1]
    have q : N (if n < 8 then h' + n else 84 + n) i = I (if n < 8 then h' + n else 84 + n) i := (hf _ i (by
      by_cases c : n < 8
      · rw [if_pos c]; omega
      · rw [if_neg c]; omega)).1
    show bd.1 ≤ (N (if n < 8 then h' + n else 84 + n) i).toInt ∧ (N (if n < 8 then h' + n else 84 + n) i).toInt ≤ bd.2
    rw [q]
    exact w
theorem zcd_Gc (hG : zcd_G I J) : zcd_G I K := fun h hh n g hg i b hb => hG h hh n g hg i b hb
theorem zcd_g2 (hG : zcd_G I J) : zt_Gs zo_g2 (zm_sub2 [(92, 10)] (I, J)) := fun n g hg i b hb => by
  have hn : n < 10 := (List.getElem?_eq_some_iff.mp hg).1
  have w := hG 4 (Or.inl rfl) (8 + n) g ((zcd_e2 n hn).symm.trans hg) i b hb
  rw [(zcb_s (a := 4) (show 8 + n < 18 by omega) (I, J)).1, if_neg (by omega), show 84 + (8 + n) = 92 + n by omega] at w
  have e : zm_fw [(92, 10)] n = 92 + n := by
    unfold zm_fw
    rw [if_pos hn]
  show b.1 ≤ (I (zm_fw [(92, 10)] n) i).toInt ∧ (I (zm_fw [(92, 10)] n) i).toInt ≤ b.2
  rw [e]
  exact w
theorem zcd_Dc (hh : h + 8 ≤ 92) (hD : zcb_D B h z I J) (hf : ∀ a b, ((h ≤ a ∧ a < h + 8) ∨ (92 ≤ a ∧ a < 102)) → N a b = I a b ∧ K a b = J a b) : zcb_D B h z N K := zcb_S_c hD (fun n hn => by
    rw [(zcb_s (a := h) hn (N, K)).1, (zcb_s (a := h) hn (I, J)).1]
    funext i
    exact (hf _ i (by
      by_cases c : n < 8
      · rw [if_pos c]; omega
      · rw [if_neg c]; omega)).1) (fun n hn => by
    rw [(zcb_s (a := h) hn (N, K)).2, (zcb_s (a := h) hn (I, J)).2]
    funext i
    exact (hf _ i (by
      by_cases c : n < 8
      · rw [if_pos c]; omega
      · rw [if_neg c]; omega)).2)
theorem zcd_note {i c : Nat} {y : Int32} {w : Int64} (hi : i < 10) (hc : c < 5) (hy : 0 ≤ y.toInt ∧ y.toInt ≤ 99) (hG : zcd_G I J) : ∃ K, zF_X1_note zW_CB [.ref 0, .ref 92, .int (Int32.ofNat i), .int (Int32.ofNat c), .int y, .long w] (I, J) = some (none, (I, K)) ∧ (∀ q, K 1 q = if q = 5 * i + c then J 1 q + w else J 1 q) ∧ ∀ a b, a ≠ 1 → a ≠ 2 → K a b = J a b := by
  have hx := zcd_idx i hi c hc
  have hb : ¬ ((Int32.ofNat (5 * i + c) : Int32) < 0 ∨ 50 ≤ Int32.toNatClampNeg (Int32.ofNat (5 * i + c))) := zp_in (by omega) (by omega)
  obtain ⟨J1, hJ1⟩ : ∃ J1, J1 = zm_wl J 1 (5 * i + c) (J 1 (5 * i + c) + w) := ⟨_, rfl⟩
  have j1 : ∀ q, J1 1 q = if q = 5 * i + c then J 1 q + w else J 1 q := fun q => by
    rw [hJ1, zcd_wl]
    by_cases e : q = 5 * i + c
    · rw [if_pos e, if_pos e, e]
    · rw [if_neg e, if_neg e]
  have jo : ∀ a b, a ≠ 1 → a ≠ 2 → J1 a b = J a b := fun a b h1 _ => by rw [hJ1, zcd_wo h1]
  obtain ⟨v, N, q1, q2, q3, o, ho, hr⟩ := zp_get (w0 := zW_B) (G := zo_g2) (zi_110 0 zo_hd) rfl rfl (as := [.ref 0, .int (Int32.ofNat c), .int y]) (M := zm_sub2 [(92, 10)] (I, J1)) (zq_s1 zq_r0 (zq_s1 (zd_i (by omega) (by show (0 : Int) ≤ _; omega) (by show _ ≤ (4 : Int); omega)) (zq_s1 (zg_v (by omega) (by exact hy.2)) zq_s0))) (fun c h => by cases h) (zcd_g2 (zcd_Gc hG))
  have eN : N = zm_sub2 [(92, 10)] (I, J1) := Prod.ext (funext fun a => funext fun b => (q3 a b rfl).1) (funext fun a => funext fun b => (q3 a b rfl).2)
  subst eN
  have hv : ∃ r : Int32, v = some (.int r) := by
    have hr1 := hr.1
    rcases List.mem_cons.mp ho with e | e
    · subst e
      obtain ⟨w, e1, x, e2, -⟩ := hr1
      exact ⟨x, e1.trans (by rw [e2])⟩
    · have e := List.mem_singleton.mp e
      subst e
      obtain ⟨w, e1, x, e2, -⟩ := hr1
      exact ⟨x, e1.trans (by rw [e2])⟩
  obtain ⟨r, rfl⟩ := hv
  have e1 : zF_X1_note zW_CB [.ref 0, .ref 92, .int (Int32.ofNat i), .int (Int32.ofNat c), .int y, .long w] (I, J) = zv_X1_note_CB_22 I J1 (Int32.ofNat i) (Int32.ofNat c) y w r := by
    rw [zf_X1_note_CB, zq_X1_note_CB_0, hx, if_neg hb, if_neg hb, zp_cl (by omega), ← hJ1, zc_X1_note_CB_15 _ _ _ _ _ _ q1, zm_mrg_id]
  by_cases c0 : r = 0
  · refine ⟨J1, ?_, j1, jo⟩
    rw [e1, zq_X1_note_CB_22, if_pos c0, zq_X1_note_CB_40]
  · refine ⟨zm_wl J1 2 (5 * i + c) (J1 2 (5 * i + c) + w), ?_, fun q => ?_, fun a b h1 h2 => ?_⟩
    · rw [e1, zq_X1_note_CB_22, if_neg c0, zq_X1_note_CB_25, hx, if_neg hb, if_neg hb, zp_cl (by omega), zq_X1_note_CB_40]
    · rw [zcd_wo (by decide)]
      exact j1 q
    · rw [zcd_wo h2]
      exact jo a b h1 h2
/-- a call at which nobody is there -/
theorem zcd_none {ms : Nat → Bool} {n : Nat} (hW : zd_ft B (zd_pl B ms n) = -1) : zd_st B ms (n + 1) = zcb_A B ms n := by
  show zd_nx B ms n (zd_st B ms n) = _
  unfold zd_nx zcb_A
  have w : zd_ft B (zd_at B n (zd_st B ms n)).1 = -1 := hW
  have f := zca_finN (B := B) (ms := ms) (n := n) (x := ((zd_at B n (zd_st B ms n)).1, (zd_st B ms n).2.1)) w
  rw [f]
theorem zcd_A {ms ms' : Nat → Bool} (hE : 1 ≤ B.2.2.2.2.2.2) {i : Nat} (h : ∀ j, j < i → ms j = ms' j) : zcb_A B ms ((i + 1) * B.2.2.2.2.2.2) = zcb_A B ms' ((i + 1) * B.2.2.2.2.2.2) := by
  unfold zcb_A
  rw [zca_dep (ms := ms) (ms' := ms') hE _ (fun j hj => h j (zca_mono hj))]
end ZCH
/-- every way to miss from call i on: what is added -/
theorem zcd_branch {B : zdB} (hv : zdXv B) {o n : Nat} (ho : o ≤ 10) (hn : n ≤ 10) (hnE : n * B.2.2.2.2.2.2 ≤ 60) : ∀ (r i x d : Nat) (I : Nat → Nat → Int32) (J : Nat → Nat → Int64) (l3 : Int64), i + r = n → r ≤ d → x < 2 ^ i → zcd_I B o n I → zcd_G I J → (i < n → zcb_D B (4 + 8 * i) (zcb_A B (zca_ms x) ((i + 1) * B.2.2.2.2.2.2)) I J) → ∃ N K, zF_X1_branch (d + 1) zW_CB [.ref 0, .ref 92, .int (Int32.ofNat i), .long l3] (I, J) = some (none, (N, K)) ∧ zcd_G N K ∧ (∀ a b, (a = 0 ∨ (3 ≤ a ∧ a < 12 + 8 * i) ∨ 92 ≤ a) → N a b = I a b ∧ K a b = J a b) ∧ ∀ k c, k < n → c < 5 → K 1 (5 * k + c) = J 1 (5 * k + c) + l3 * Int64.ofNat (zcc_a B o i x k c) := by
  have hE := hv.2.2.1
  intro r
  induction r with
  | zero =>
    intro i x d I J l3 hr hd hx hI hG hD
    have e : zF_X1_branch (d + 1) zW_CB [.ref 0, .ref 92, .int (Int32.ofNat i), .long l3] (I, J) = zv_X1_branch_CB_0 (zF_X1_branch d) I J (Int32.ofNat i) l3 := zf_X1_branch_CB (zF_X1_branch d) I J _ l3
    have c1 : ¬ (Int32.ofNat i : Int32) < 0 := fun q => by
      rw [ze_lt, zp_o (by omega), ze_i0] at q
      omega
    refine ⟨I, J, ?_, hG, fun _ _ _ => ⟨rfl, rfl⟩, fun k c hk _ => ?_⟩
    · rw [e, zq_X1_branch_CB_0, if_neg c1, zq_X1_branch_CB_4, hI.2.2, if_pos ((zp_le (by omega) (by omega)).mpr (by omega)), zq_X1_branch_CB_18]
    · rw [show zcc_a B o i x k c = 0 from if_neg (by omega), show Int64.ofNat 0 = 0 from rfl, Int64.mul_zero, Int64.add_zero]
  | succ r ih =>
    intro i x d I J l3 hr hd hx hI hG hD
    have e : zF_X1_branch (d + 1) zW_CB [.ref 0, .ref 92, .int (Int32.ofNat i), .long l3] (I, J) = zv_X1_branch_CB_0 (zF_X1_branch d) I J (Int32.ofNat i) l3 := zf_X1_branch_CB (zF_X1_branch d) I J _ l3
    have c1 : ¬ (Int32.ofNat i : Int32) < 0 := fun q => by
      rw [ze_lt, zp_o (by omega), ze_i0] at q
      omega
    have c2 : ¬ (Int32.ofNat n : Int32) ≤ Int32.ofNat i := fun q => by
      have := (zp_le (by omega) (by omega)).mp q
      omega
    have hD := hD (by omega)
    by_cases c0 : l3 = 0
    · refine ⟨I, J, ?_, hG, fun _ _ _ => ⟨rfl, rfl⟩, fun k c hk _ => ?_⟩
      · rw [e, zq_X1_branch_CB_0, if_neg c1, zq_X1_branch_CB_4, hI.2.2, if_neg c2, zq_X1_branch_CB_12, if_pos ((lg_cmp_eq _ _).mpr c0), zq_X1_branch_CB_18]
      · rw [c0, Int64.zero_mul, Int64.add_zero]
    · obtain ⟨d, rfl⟩ : ∃ d', d = d' + 1 := ⟨d - 1, by omega⟩
      obtain ⟨h, hh⟩ : ∃ h, h = 4 + 8 * i := ⟨_, rfl⟩
      obtain ⟨m, hm⟩ : ∃ m, m = (i + 1) * B.2.2.2.2.2.2 := ⟨_, rfl⟩
      have hm2 : (i + 1 + 1) * B.2.2.2.2.2.2 = m + B.2.2.2.2.2.2 := by rw [hm, Nat.succ_mul (i + 1)]
      have hmE : (i + 1) * B.2.2.2.2.2.2 ≤ n * B.2.2.2.2.2.2 := Nat.mul_le_mul_right _ (by omega)
      have hm0 : 0 < m := by
        rw [hm]
        exact Nat.mul_pos (by omega) hE.1
      have hmm : m % B.2.2.2.2.2.2 = 0 := by
        rw [hm]
        exact Nat.mul_mod_left _ _
      have hmd : m / B.2.2.2.2.2.2 - 1 = i := by
        rw [hm, Nat.mul_div_cancel _ hE.1]
        omega
      have hx9 : zm_dayIx (Int32.ofNat i) h := by
        rw [hh]
        exact zcd_ix i (by omega)
      have hd1 : zm_isDay (h + 8) := by
        have := zcd_dy (i + 1) (by omega)
        rw [show 4 + 8 * (i + 1) = h + 8 by omega] at this
        exact this
      rw [← hh, ← hm] at hD
      have hm60 : m ≤ 60 := by omega
      have hmul : (Int32.ofNat i + 1) * I 92 3 = Int32.ofNat m := by
        rw [zp_o1 (by omega), hI.1, zcd_mul (i + 1) (by omega) _ (by omega), hm]
      -- who is there
      have hS : zdS B (zcb_A B (zca_ms x) m) (zm_sub2 [(h, 8), (92, 10)] (I, J)).1 (zm_sub2 [(h, 8), (92, 10)] (I, J)).2 := hD
      obtain ⟨q, f1, f2⟩ := zdx_ft (J := (zm_sub2 [(h, 8), (92, 10)] (I, J)).2) hv hS.1 hS.2.1
      have f1 : zF_X2_firstThere zW_DB [.ref 0, .ref 8] (zm_sub2 [(h, 8), (92, 10)] (I, J)) = some (some (.int q), zm_sub2 [(h, 8), (92, 10)] (I, J)) := f1
      have f2 : q.toInt = zd_ft B (zd_pl B (zca_ms x) m) := f2
      have hWi : zca_W B (zca_ms x) i = zd_ft B (zd_pl B (zca_ms x) m) := by
        unfold zca_W
        rw [← hm]
      obtain ⟨⟨I1, J1⟩, p1, p2, p3⟩ : ∃ N2 : zm_I, zv_X1_branch_CB_64 (zF_X1_branch (d + 1)) I J h (Int32.ofNat i) l3 (Int32.ofNat m) q = zv_X1_branch_CB_85 (zF_X1_branch (d + 1)) N2.1 N2.2 h (Int32.ofNat i) l3 (Int32.ofNat m) q (l3 * Int64.ofNat (10 - o)) ∧ zcb_D B (h + 8) (zcb_A B (zca_ms x) m) N2.1 N2.2 ∧ zcb_f (h + 8) I N2.1 J N2.2 := by
        obtain ⟨N2, p1, p2, p3⟩ := zcc_cpD (show h + 16 ≤ 92 by omega) (hG (h + 8) hd1) hD
        refine ⟨_, ?_, p2, p3⟩
        rw [zc_X1_branch_CB_64 _ _ _ _ _ _ _ _ hx9 p1, hI.2.1, (zcd_hd o (by omega)).1]
      have e1 : zF_X1_branch (d + 1 + 1) zW_CB [.ref 0, .ref 92, .int (Int32.ofNat i), .long l3] (I, J) = zv_X1_branch_CB_85 (zF_X1_branch (d + 1)) I1 J1 h (Int32.ofNat i) l3 (Int32.ofNat m) q (l3 * Int64.ofNat (10 - o)) := by
        rw [e, zq_X1_branch_CB_0, if_neg c1, zq_X1_branch_CB_4, hI.2.2, if_neg c2, zq_X1_branch_CB_12, if_neg (fun z => c0 ((lg_cmp_eq _ _).mp z)), zq_X1_branch_CB_19 _ _ _ _ _ _ hx9, zq_X1_branch_CB_42 _ _ _ _ _ _ hx9, zc_X1_branch_CB_48 _ _ _ _ _ _ hx9 f1, zm_mrg_id, hmul]
        exact p1
      have p2 : zcb_D B (h + 8) (zcb_A B (zca_ms x) m) I1 J1 := p2
      have p3 : zcb_f (h + 8) I I1 J J1 := p3
      have hG1 : zcd_G I1 J1 := zcd_Gf hd1 hG p2 p3
      have keepI : ∀ {P Q : Nat → Nat → Int32} {P2 Q2 : Nat → Nat → Int64}, zcb_f (h + 8) P Q P2 Q2 → zcd_I B o n P → zcd_I B o n Q := fun hf hP => ⟨(hf 92 3 (by omega)).1.trans hP.1, (hf 92 4 (by omega)).1.trans hP.2.1, (hf 0 4 (by omega)).1.trans hP.2.2⟩
      have hI1 := keepI p3 hI
      by_cases cw : zd_ft B (zd_pl B (zca_ms x) m) = -1
      · have hq : q = -1 := Int32.toInt_inj.mp (by rw [f2, cw, zh_m1])
        obtain ⟨I2, J2, s1, s2, ⟨zz, s3⟩, s4⟩ := zcb_pass hv hd1 (ms := zca_ms x) (n := m) hmm hm60 hI1.1 (by rw [zcd_none cw]; exact p2)
        have hG2 : zcd_G I2 J2 := zcd_Gf hd1 hG1 s3 s4
        obtain ⟨N, K, b1, b2, b3, b4⟩ := ih (i + 1) x d I2 J2 (l3 * 10) (by omega) (by omega) (by rw [Nat.pow_succ]; omega) (keepI s4 hI1) hG2 (fun hlt => by
          rw [show 4 + 8 * (i + 1) = h + 8 by omega, hm2]
          refine s2 ?_
          have := Nat.mul_le_mul_right B.2.2.2.2.2.2 (show i + 1 + 1 ≤ n by omega)
          omega)
        refine ⟨N, K, ?_, b2, fun a b hab => ?_, fun k c hk hc => ?_⟩
        · rw [e1, zq_X1_branch_CB_85 _ _ _ _ _ _ _ _ _ hx9, if_pos hq, zc_X1_branch_CB_91 _ _ _ _ _ _ _ _ _ hx9 s1, zc_X1_branch_CB_99 _ _ _ _ _ _ _ _ _ hx9 (by rw [zp_o1 (by omega)]; exact b1), zq_X1_branch_CB_112 _ _ _ _ _ _ _ _ _ hx9]
        · have w1 := b3 a b (by omega)
          have w2 := s4 a b (by omega)
          have w3 := p3 a b (by omega)
          exact ⟨w1.1.trans (w2.1.trans w3.1), w1.2.trans (w2.2.trans w3.2)⟩
        · have w2 := (s4 1 (5 * k + c) (by omega)).2
          have w3 := (p3 1 (5 * k + c) (by omega)).2
          rw [b4 k c hk hc, w2, w3, zcc_one hE.1 ho hx (hWi.trans cw), Int64.ofNat_mul, show Int64.ofNat 10 = 10 from rfl, Int64.mul_assoc]
      · obtain ⟨w, hw⟩ : ∃ w : Nat, zd_ft B (zd_pl B (zca_ms x) m) = (w : Int) := by
          rcases zd_ft_b B (zd_pl B (zca_ms x) m) with z | z
          · exact absurd z cw
          · exact ⟨(zd_ft B (zd_pl B (zca_ms x) m)).toNat, by omega⟩
        obtain ⟨w5, N3, a1, a2, a3⟩ := zcc_ad hv (h := h + 8) (by omega) (ms := zca_ms x) hm60 ⟨hm0, hmm, by
          rw [hmd]
          exact Nat.testBit_lt_two_pow hx⟩ hw p2
        have hq : q = Int32.ofNat w := Int32.toInt_inj.mp (by rw [f2, hw, zp_o (by omega)])
        subst hq
        have hqn : ¬ (Int32.ofNat w : Int32) = -1 := fun z => cw (by rw [← f2, z, zh_m1])
        have e2 : zv_X1_branch_CB_85 (zF_X1_branch (d + 1)) I1 J1 h (Int32.ofNat i) l3 (Int32.ofNat m) (Int32.ofNat w) (l3 * Int64.ofNat (10 - o)) = zv_X1_branch_CB_122 (zF_X1_branch (d + 1)) (zm_mrg [((h + 8), 8)] (I1, J1) N3).1 (zm_mrg [((h + 8), 8)] (I1, J1) N3).2 h (Int32.ofNat i) l3 (Int32.ofNat m) (Int32.ofNat w) (l3 * Int64.ofNat (10 - o)) := by
          rw [zq_X1_branch_CB_85 _ _ _ _ _ _ _ _ _ hx9, if_neg hqn, zc_X1_branch_CB_113 _ _ _ _ _ _ _ _ _ hx9 a1]
        generalize (zm_mrg [((h + 8), 8)] (I1, J1) N3).1 = I3 at a2 a3 e2
        generalize (zm_mrg [((h + 8), 8)] (I1, J1) N3).2 = J3 at a2 a3 e2
        have hG3 : zcd_G I3 J3 := zcd_Gf hd1 hG1 a2 a3
        have hI3 := keepI a3 hI1
        have hy : 0 ≤ (I3 (h + 14) w).toInt ∧ (I3 (h + 14) w).toInt ≤ 99 := by
          have g := zh_ga (b := (.ofNat 0, .ofNat 99)) (hG3 (h + 8) hd1) (n := 6) rfl w
          rw [(zcb_s (a := h + 8) (show 6 < 18 by decide) (I3, J3)).1, if_pos (by decide)] at g
          exact g
        obtain ⟨J4, n1, n2, n3⟩ := zcd_note (i := i) (c := w) (y := I3 (h + 14) w) (w := l3 * Int64.ofNat (10 - o)) (by omega) w5 hy hG3
        have hG4 : zcd_G I3 J4 := zcd_Gc hG3
        obtain ⟨I5, J5, s1, s2, ⟨zz, s3⟩, s4⟩ := zcb_pass hv hd1 (J := J4) (ms := zca_ms x) (n := m) hmm hm60 hI3.1 (zcd_Dc (by omega) a2 (fun a b hab => ⟨rfl, n3 a b (by omega) (by omega)⟩))
        have hG5 : zcd_G I5 J5 := zcd_Gf hd1 hG4 s3 s4
        have hI5 := keepI s4 hI3
        obtain ⟨I6, J6, b1, b2, b3, b4⟩ := ih (i + 1) x d I5 J5 (l3 * Int64.ofNat (10 - o)) (by omega) (by omega) (by rw [Nat.pow_succ]; omega) hI5 hG5 (fun hlt => by
          rw [show 4 + 8 * (i + 1) = h + 8 by omega, hm2]
          refine s2 ?_
          have := Nat.mul_le_mul_right B.2.2.2.2.2.2 (show i + 1 + 1 ≤ n by omega)
          omega)
        have hI6 : zcd_I B o n I6 := ⟨(b3 92 3 (by omega)).1.trans hI5.1, (b3 92 4 (by omega)).1.trans hI5.2.1, (b3 0 4 (by omega)).1.trans hI5.2.2⟩
        have hD6 : zcb_D B h (zcb_A B (zca_ms x) m) I6 J6 := zcd_Dc (by omega) hD (fun a b hab => by
          have w1 := b3 a b (by omega)
          have w2 := s4 a b (by omega)
          have w3 := n3 a b (by omega) (by omega)
          have w4 := a3 a b (by omega)
          have w5 := p3 a b (by omega)
          exact ⟨w1.1.trans (w2.1.trans (w4.1.trans w5.1)), w1.2.trans (w2.2.trans (w3.trans (w4.2.trans w5.2)))⟩)
        obtain ⟨N7, c1', c2', c3'⟩ := zcc_cpD (show h + 16 ≤ 92 by omega) (b2 (h + 8) hd1) hD6
        have e7 : zv_X1_branch_CB_158 (zF_X1_branch (d + 1)) I6 J6 h (Int32.ofNat i) l3 (Int32.ofNat m) (Int32.ofNat w) (l3 * Int64.ofNat (10 - o)) = zv_X1_branch_CB_165 (zF_X1_branch (d + 1)) (zm_mrg [((h + 8), 8), (h, 8)] (I6, J6) N7).1 (zm_mrg [((h + 8), 8), (h, 8)] (I6, J6) N7).2 h (Int32.ofNat i) l3 (Int32.ofNat m) (Int32.ofNat w) (l3 * Int64.ofNat (10 - o)) := zc_X1_branch_CB_158 _ _ _ _ _ _ _ _ _ hx9 c1'
        generalize (zm_mrg [((h + 8), 8), (h, 8)] (I6, J6) N7).1 = I7 at c2' c3' e7
        generalize (zm_mrg [((h + 8), 8), (h, 8)] (I6, J6) N7).2 = J7 at c2' c3' e7
        have hG7 : zcd_G I7 J7 := zcd_Gf hd1 b2 c2' c3'
        have hI7 := keepI c3' hI6
        have hx2 : x + 2 ^ i < 2 ^ (i + 1) := by rw [Nat.pow_succ]; omega
        have hA : zcb_A B (zca_ms x) m = zcb_A B (zca_ms (x + 2 ^ i)) m := by
          rw [hm]
          exact zcd_A hE.1 (fun j hj => by
            show x.testBit j = (x + 2 ^ i).testBit j
            rw [Nat.add_comm x (2 ^ i)]
            exact (zca_bitL hj).symm)
        have hno : ¬ (0 < m ∧ m % B.2.2.2.2.2.2 = 0 ∧ zca_ms (x + 2 ^ i) (m / B.2.2.2.2.2.2 - 1) = false) := fun z => by
          have z := z.2.2
          rw [hmd] at z
          have t : zca_ms (x + 2 ^ i) i = true := by
            show (x + 2 ^ i).testBit i = true
            rw [Nat.add_comm x (2 ^ i)]
            exact zca_bitO hx
          rw [t] at z
          cases z
        obtain ⟨I8, J8, t1, t2, ⟨zz, t3⟩, t4⟩ := zcb_pass hv hd1 (ms := zca_ms (x + 2 ^ i)) (n := m) hmm hm60 hI7.1 (by
          rw [zcb_next hno, ← hA]
          exact c2')
        have hG8 : zcd_G I8 J8 := zcd_Gf hd1 hG7 t3 t4
        have hI8 := keepI t4 hI7
        obtain ⟨I9, J9, u1, u2, u3, u4⟩ := ih (i + 1) (x + 2 ^ i) d I8 J8 (l3 * Int64.ofNat o) (by omega) (by omega) hx2 hI8 hG8 (fun hlt => by
          rw [show 4 + 8 * (i + 1) = h + 8 by omega, hm2]
          refine t2 ?_
          have := Nat.mul_le_mul_right B.2.2.2.2.2.2 (show i + 1 + 1 ≤ n by omega)
          omega)
        have hb : ¬ ((Int32.ofNat w : Int32) < 0 ∨ 5 ≤ Int32.toNatClampNeg (Int32.ofNat w)) := zp_in (by omega) (by omega)
        refine ⟨I9, J9, ?_, u2, fun a b hab => ?_, fun k c hk hc => ?_⟩
        · rw [e1, e2, zq_X1_branch_CB_122 _ _ _ _ _ _ _ _ _ hx9, if_neg hb, zp_cl (by omega), zc_X1_branch_CB_135 _ _ _ _ _ _ _ _ _ _ _ _ hx9 n1, zc_X1_branch_CB_140 _ _ _ _ _ _ _ _ _ hx9 s1, zc_X1_branch_CB_148 _ _ _ _ _ _ _ _ _ hx9 (by rw [zp_o1 (by omega)]; exact b1), e7, zc_X1_branch_CB_165 _ _ _ _ _ _ _ _ _ hx9 t1, zc_X1_branch_CB_173 _ _ _ _ _ _ _ _ _ hx9 (by rw [zp_o1 (by omega), hI8.2.1, (zcd_hd o (by omega)).2]; exact u1), zq_X1_branch_CB_188 _ _ _ _ _ _ _ _ _ hx9]
        · have v1 := u3 a b (by omega)
          have v2 := t4 a b (by omega)
          have v3 := c3' a b (by omega)
          have w1 := b3 a b (by omega)
          have w2 := s4 a b (by omega)
          have w3 := n3 a b (by omega) (by omega)
          have w4 := a3 a b (by omega)
          have w5 := p3 a b (by omega)
          exact ⟨v1.1.trans (v2.1.trans (v3.1.trans (w1.1.trans (w2.1.trans (w4.1.trans w5.1))))), v1.2.trans (v2.2.trans (v3.2.trans (w1.2.trans (w2.2.trans (w3.trans (w4.2.trans w5.2))))))⟩
        · have v2 := (t4 1 (5 * k + c) (by omega)).2
          have v3 := (c3' 1 (5 * k + c) (by omega)).2
          have w2 := (s4 1 (5 * k + c) (by omega)).2
          have w4 := (a3 1 (5 * k + c) (by omega)).2
          have w5' := (p3 1 (5 * k + c) (by omega)).2
          have nt : J4 1 (5 * k + c) = J 1 (5 * k + c) + l3 * Int64.ofNat (if k = i ∧ c = w then 10 - o else 0) := by
            rw [n2, w4, w5']
            by_cases z : k = i ∧ c = w
            · rw [if_pos (by omega), if_pos z]
            · rw [if_neg (by omega), if_neg z, show Int64.ofNat 0 = 0 from rfl, Int64.mul_zero, Int64.add_zero]
          rw [u4 k c hk hc, v2, v3, b4 k c hk hc, w2, nt, zcc_two (hWi.trans hw)]
          exact zcd_sum
/-! an array filled with noughts -/
def zcd_w : zm_L := [(.inr (.long, 50), [])]
set_option maxRecDepth 20000 in
theorem zcd_f6 (I : Nat → Nat → Int32) (J : Nat → Nat → Int64) (v : Int64) (n i : Int32) : zm_V zT_J7_fill_d0a16 zcd_w (6, [some (.ref 0), some (.long v), none, some (.int i), some (.int n)], [], (I, J)) = if n ≤ i then zm_V zT_J7_fill_d0a16 zcd_w (22, [some (.ref 0), some (.long v), none, some (.int i), some (.int n)], [], (I, J)) else zm_V zT_J7_fill_d0a16 zcd_w (12, [some (.ref 0), some (.long v), none, some (.int i), some (.int n)], [], (I, J)) := (zm_V_eq _ _ _).trans rfl
set_option maxRecDepth 20000 in
theorem zcd_f12 (I : Nat → Nat → Int32) (J : Nat → Nat → Int64) (v : Int64) (n i : Int32) : zm_V zT_J7_fill_d0a16 zcd_w (12, [some (.ref 0), some (.long v), none, some (.int i), some (.int n)], [], (I, J)) = if i < 0 ∨ 50 ≤ Int32.toNatClampNeg i then none else zm_V zT_J7_fill_d0a16 zcd_w (6, [some (.ref 0), some (.long v), none, some (.int (i + 1)), some (.int n)], [], (I, zm_wl J 0 (Int32.toNatClampNeg i) v)) := (zm_V_eq _ _ _).trans rfl
set_option maxRecDepth 20000 in
theorem zcd_f22 (I : Nat → Nat → Int32) (J : Nat → Nat → Int64) (v : Int64) (n i : Int32) : zm_V zT_J7_fill_d0a16 zcd_w (22, [some (.ref 0), some (.long v), none, some (.int i), some (.int n)], [], (I, J)) = some (none, (I, J)) := (zm_V_eq _ _ _).trans rfl
set_option maxRecDepth 20000 in
theorem zcd_f0 (I : Nat → Nat → Int32) (J : Nat → Nat → Int64) : zF_J7_fill_d0a16 zcd_w [.ref 0, .long 0] (I, J) = zm_V zT_J7_fill_d0a16 zcd_w (6, [some (.ref 0), some (.long 0), none, some (.int (Int32.ofNat 0)), some (.int (Int32.ofNat 50))], [], (I, J)) := (zm_V_eq _ _ _).trans rfl
theorem zcd_fills (I : Nat → Nat → Int32) : ∀ (d m : Nat) (J : Nat → Nat → Int64), m + d = 50 → ∃ K, zm_V zT_J7_fill_d0a16 zcd_w (6, [some (.ref 0), some (.long 0), none, some (.int (Int32.ofNat m)), some (.int (Int32.ofNat 50))], [], (I, J)) = some (none, (I, K)) ∧ (∀ q, m ≤ q → q < 50 → K 0 q = 0) ∧ (∀ q, q < m → K 0 q = J 0 q) ∧ ∀ a b, a ≠ 0 → K a b = J a b := by
  intro d
  induction d with
  | zero =>
    intro m J h
    refine ⟨J, ?_, fun q h1 h2 => by omega, fun _ _ => rfl, fun _ _ _ => rfl⟩
    rw [zcd_f6, if_pos ((zp_le (by omega) (by omega)).mpr (by omega)), zcd_f22]
  | succ d ih =>
    intro m J h
    obtain ⟨K, q1, q2, q3, q4⟩ := ih (m + 1) (zm_wl J 0 m 0) (by omega)
    refine ⟨K, ?_, fun q h1 h2 => ?_, fun q hq => ?_, fun a b ha => (q4 a b ha).trans (zcd_wo ha)⟩
    · rw [zcd_f6, if_neg (fun z => by have := (zp_le (by omega) (by omega)).mp z; omega), zcd_f12, if_neg (zp_in (by omega) (by omega)), zp_cl (by omega), zp_o1 (by omega)]
      exact q1
    · by_cases e : q = m
      · rw [q3 q (by omega), zcd_wl, if_pos e]
      · exact q2 q (by omega) h2
    · rw [q3 q (by omega), zcd_wl, if_neg (by omega)]
theorem zcd_fill (M : zm_I) : ∃ K, zF_J7_fill_d0a16 [(.inr (.long, 50), [])] [.ref 0, .long 0] M = some (none, (M.1, K)) ∧ ∀ q, q < 50 → K 0 q = 0 := by
  obtain ⟨K, q1, q2, -⟩ := zcd_fills M.1 50 0 M.2 rfl
  exact ⟨K, (zcd_f0 M.1 M.2).trans q1, fun q hq => q2 q (Nat.zero_le q) hq⟩
theorem zcd_m1 {a : Nat} (M N : zm_I) (n i : Nat) : (n = a → (zm_mrg [(a, 1)] M N).1 n i = N.1 0 i ∧ (zm_mrg [(a, 1)] M N).2 n i = N.2 0 i) ∧ (n ≠ a → (zm_mrg [(a, 1)] M N).1 n i = M.1 n i ∧ (zm_mrg [(a, 1)] M N).2 n i = M.2 n i) := by
  have hin : zm_in [(a, 1)] n = true ↔ n = a := by
    simp only [zm_in, Bool.or_eq_true, Bool.and_eq_true, Nat.ble_eq, Bool.or_false]
    omega
  rcases zh_mrg1 [(a, 1)] M N n i with ⟨c1, c2, c3⟩ | ⟨c1, c2, c3⟩
  · have c := hin.mp c1
    refine ⟨fun _ => ?_, fun h => absurd c h⟩
    have e : zm_iv [(a, 1)] n = 0 := by
      unfold zm_iv
      rw [if_pos (by omega)]
      omega
    rw [c2, c3, e]
    exact ⟨rfl, rfl⟩
  · have c : ¬ n = a := fun h => by
      rw [hin.mpr h] at c1
      cases c1
    exact ⟨fun h => absurd h c, fun _ => ⟨c2, c3⟩⟩
