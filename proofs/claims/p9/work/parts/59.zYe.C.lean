/-! 59.zYe.C, 59.zYf.D, 59.zYg.E, 59.zYh.F, 59.zYi.G, 59.zYj.H, 59.zYk.K, 59.zZa.X -/
section
/-! A DAY OF THE CLASS: a minute's call, a day begun, a day lived -/
theorem zd_get {K : zq_K} {F : zm_L → List Value → zm_I → zm_R} {w0 : zm_L} {G : zt_G} (hcon : zt_Con zo_Om (zo_Rel 0) (zo_hd, K) F) (hOm : zo_Om[K.1]? = some (w0, G)) (hf : K.2.1.2.2 = []) (hp : K.2.1.2.1 = []) (ho : K.2.2.2 = [(none, [], [], [])]) {as : List Value} {M : zm_I} (hs : zt_sts [] M (fun _ => 0) K.2.1.1 as) (hG : zt_Gs G M) : ∃ N, F w0 as M = some (none, N) ∧ zt_Gs G N ∧ zt_fr K.2.2.1 M N := by
  obtain ⟨v, N, q1, q2, q3, o, h1, h2⟩ := zp_get hcon hOm hf hs (fun c h => by rw [hp] at h; cases h) hG
  rw [ho] at h1
  have e : o = (none, [], [], []) := List.mem_singleton.mp h1
  subst e
  have e : v = none := h2.1
  subst e
  exact ⟨N, q1, q2, q3⟩
theorem zd_det {K : zq_K} {F : zm_L → List Value → zm_I → zm_R} {w0 : zm_L} {G : zt_G} (hcon : zt_Con zo_Om (zo_Rel 0) (zo_hd, K) F) (hOm : zo_Om[K.1]? = some (w0, G)) (hf : K.2.1.2.2 = []) (hp : K.2.1.2.1 = []) (ho : K.2.2.2 = [(none, [], [], [])]) {as : List Value} {M N : zm_I} (hs : zt_sts [] M (fun _ => 0) K.2.1.1 as) (hG : zt_Gs G M) (h : F w0 as M = some (none, N)) : zt_Gs G N ∧ zt_fr K.2.2.1 M N := by
  obtain ⟨N2, q1, q2, q3⟩ := zd_get hcon hOm hf hp ho hs hG
  have e : some ((none : Option Value), N) = some (none, N2) := h.symm.trans q1
  cases e
  exact ⟨q2, q3⟩
theorem zd_i {lo hi : Int} {n : Nat} {M : zm_I} (h : n ≤ 1000) (h1 : lo ≤ n) (h2 : n ≤ hi) : zt_v [] M (fun _ => 0) (zj lo hi) (.int (Int32.ofNat n)) := zg_v (by rw [zp_o h]; exact h1) (by rw [zp_o h]; exact h2)
theorem zd_mulE : ∀ n, n < 61 → ∀ E, E < 31 → 1 ≤ E → ((Int32.ofNat (n / E) * Int32.ofNat E = Int32.ofNat n) ↔ n % E = 0) := by decide +kernel
theorem zd_divE : ∀ n, n < 61 → ∀ E, E < 31 → 1 ≤ E → (Int32.ofNat n / Int32.ofNat E : Int32) = Int32.ofNat (n / E) := by decide +kernel
theorem zd_c0 : ∀ n, n < 61 → ∀ E, E < 31 → 1 ≤ E → (n / E = 0 → ¬ (0 < n ∧ n % E = 0)) ∧ (n / E ≠ 0 → 0 < n) ∧ n / E ≤ 60 := fun n hn E hE h1 => ⟨fun h z => by
  have e := Nat.div_add_mod n E
  rw [h, z.2, Nat.mul_zero] at e
  omega, fun h => Nat.pos_of_ne_zero (fun z => h (by rw [z, Nat.zero_div])), Nat.le_trans (Nat.div_le_self n E) (by omega)⟩
theorem zd_pre : ∀ q, q < 61 → 1 ≤ q → (Int32.ofNat q - 1 : Int32) = Int32.ofNat (q - 1) := by decide +kernel
section ZDC
variable {B : zdB} {I N : Nat → Nat → Int32} {J : Nat → Nat → Int64} {p : Nat → Int}
theorem zdX_c (h : zdX B I p) (h1 : ∀ c, c < 5 → N 1 c = I 1 c) (h7 : ∀ s, s < 6 → N 7 s = I 7 s) : zdX B N p := by
  obtain ⟨a, b, r, s1, s2⟩ := h
  refine ⟨fun c hc => by rw [h1 c hc]; exact a c hc, b, r, fun c hc h0 => ?_, fun s hs => ?_⟩
  · have := r c
    rw [h7 _ (by omega)]
    exact s1 c hc h0
  · rw [h7 s hs]
    exact s2 s hs
theorem zdx_ft4 (hv : zdXv B) (hb : zdXb B I) (hx : zdX B I p) : ∀ (d c : Nat) (l2 : Int32) (x : Int), c + d = B.1.1 → l2.toInt = x → (x = -1 ∨ (0 ≤ x ∧ x < B.1.1)) → ∃ r : Int32, zv_X2_firstThere_DB_4 I J l2 (Int32.ofNat c) = some (some (.int r), (I, J)) ∧ r.toInt = zd_for (zd_ff B p) d c x := by
  obtain ⟨⟨hC, hS, hst, hac, hsa⟩, hA, hE, hcm, ham⟩ := id hv
  intro d
  induction d with
  | zero =>
    intro c l2 x h hl hr
    refine ⟨l2, ?_, hl⟩
    rw [zq_X2_firstThere_DB_4, hb.1.1, if_pos ((zp_le (by omega) (by omega)).mpr (by omega)), zq_X2_firstThere_DB_50]
  | succ d ih =>
    intro c l2 x h hl hr
    have e1 : (I 1 c).toInt = p c := hx.1 c (by omega)
    have c61 := hcm c
    have keep : Unit → zd_ff B p c x = x → ∃ r : Int32, zv_X2_firstThere_DB_44 I J l2 (Int32.ofNat c) = some (some (.int r), (I, J)) ∧ r.toInt = zd_for (zd_ff B p) (d + 1) c x := by
      intro _ e
      obtain ⟨r, q1, q2⟩ := ih (c + 1) l2 x (by omega) hl hr
      refine ⟨r, ?_, ?_⟩
      · rw [zq_X2_firstThere_DB_44, zp_o1 (by omega)]
        exact q1
      · show r.toInt = zd_for (zd_ff B p) d (c + 1) (zd_ff B p c x)
        rw [e]
        exact q2
    have take : Unit → zd_ff B p c x = (c : Int) → ∃ r : Int32, zv_X2_firstThere_DB_42 I J l2 (Int32.ofNat c) = some (some (.int r), (I, J)) ∧ r.toInt = zd_for (zd_ff B p) (d + 1) c x := by
      intro _ e
      obtain ⟨r, q1, q2⟩ := ih (c + 1) (Int32.ofNat c) c (by omega) (zp_o (by omega)) (Or.inr (by omega))
      refine ⟨r, ?_, ?_⟩
      · rw [zq_X2_firstThere_DB_42, zq_X2_firstThere_DB_44, zp_o1 (by omega)]
        exact q1
      · show r.toInt = zd_for (zd_ff B p) d (c + 1) (zd_ff B p c x)
        rw [e]
        exact q2
    rw [zq_X2_firstThere_DB_4, hb.1.1, if_neg (fun z => by have := (zp_le (by omega) (by omega)).mp z; omega), zq_X2_firstThere_DB_12, if_neg (zp_in (by omega) (by omega)), zp_cl (by omega)]
    by_cases c1 : p c < -1
    · rw [if_pos (by rw [ze_lt, e1, zh_m1]; exact c1)]
      exact keep () (by unfold zd_ff; rw [if_neg (by omega)])
    · rw [if_neg (by rw [ze_lt, e1, zh_m1]; exact c1), zq_X2_firstThere_DB_22]
      by_cases c2 : x = -1
      · rw [if_pos (Int32.toInt_inj.mp (by rw [hl, zh_m1]; exact c2))]
        exact take () (by unfold zd_ff; rw [if_pos ⟨by omega, Or.inl c2⟩])
      · have hxn : x.toNat < 5 := by omega
        have ex : Int32.toNatClampNeg l2 = x.toNat := zh_cl (by rw [hl]; omega)
        have x61 := hcm x.toNat
        rw [if_neg (fun z => c2 (by rw [← hl, z, zh_m1])), zq_X2_firstThere_DB_27, if_neg (zp_in (by omega) (by omega)), if_neg (zh_in (n := 5) (by omega) (by omega)), ex, zp_cl (by omega), hb.2.1 _ hxn, hb.2.1 c (by omega)]
        by_cases c3 : B.2.1 c < B.2.1 x.toNat
        · rw [if_neg (fun z => by have := (zp_le (by omega) (by omega)).mp z; omega)]
          exact take () (by unfold zd_ff; rw [if_pos ⟨by omega, Or.inr c3⟩])
        · rw [if_pos ((zp_le (by omega) (by omega)).mpr (by omega))]
          exact keep () (by unfold zd_ff; rw [if_neg (by omega)])
theorem zdx_ft (hv : zdXv B) (hb : zdXb B I) (hx : zdX B I p) : ∃ r : Int32, zF_X2_firstThere zW_DB [.ref 0, .ref 8] (I, J) = some (some (.int r), (I, J)) ∧ r.toInt = zd_ft B p := by
  obtain ⟨r, q1, q2⟩ := zdx_ft4 (J := J) hv hb hx B.1.1 0 (-1) (-1) (by omega) zh_m1 (Or.inl rfl)
  exact ⟨r, (zf_X2_firstThere_DB _ _).trans ((zq_X2_firstThere_DB_0 _ _).trans q1), q2⟩
theorem zdx_admit (hv : zdXv B) (hx : zdX B I p) {c n g : Nat} (hc : c < B.1.1) {w : Nat → Int} (hw : ∀ q, q < 5 → (I 5 q).toInt = w q) (hg : (I 0 7).toInt = g) (hg5 : g ≤ 5) (hn : n ≤ 60) : ∃ N, zF_X2_admit zW_DB [.ref 0, .int (Int32.ofNat c), .int (Int32.ofNat n)] (I, J) = some (none, (N, J)) ∧ zdX B N (zd_up p c (-3)) ∧ (∀ q, q < 5 → (N 5 q).toInt = zd_up w c n q) ∧ (N 0 7).toInt = (g + 1 : Nat) ∧ ∀ a b, 8 ≤ a → N a b = I a b := by
  obtain ⟨⟨hC, hS, hst, hac, hsa⟩, hA, hE, hcm, ham⟩ := id hv
  obtain ⟨n1, n7⟩ := zdx_N0 hx c
  have hne : ¬ (Int32.ofNat c : Int32) = -1 := fun z => by
    have : (Int32.ofNat c).toInt = -1 := by rw [z, zh_m1]
    rw [zp_o (by omega)] at this
    omega
  rw [zf_X2_admit_DB, zq_X2_admit_DB_0, if_neg hne, zc_X2_admit_DB_6 _ _ _ _ (zdx_leave hx (by omega)), zq_X2_admit_DB_11, if_neg (zp_in (by omega) (by omega)), if_neg (zp_in (by omega) (by omega)), if_neg (zp_in (by omega) (by omega)), if_neg (zp_in (by omega) (by omega)), zp_cl (by omega)]
  generalize (if p c < 0 then I else zm_w I 7 (p c).toNat (-1)) = N0 at n1 n7
  have e3 : (-3 : Int32).toInt = -3 := by decide
  refine ⟨_, rfl, zdx_put hx hC hc (by decide) (Or.inl (by decide)) (fun q hq => ?_) (fun s hs => ?_), fun q hq => ?_, ?_, fun a b ha => ?_⟩
  · rw [ze_wo (by decide), ze_wo (by decide), ze_wo (by decide)]
    by_cases e : q = c
    · rw [if_pos e, e, ze_wi, e3]
    · rw [if_neg e, ze_wj e, n1 1 q (by decide)]
      exact hx.1 q hq
  · rw [if_neg (by omega), ze_wo (by decide), ze_wo (by decide), ze_wo (by decide), ze_wo (by decide)]
    exact n7 s
  · rw [ze_wo (by decide), ze_wo (by decide)]
    by_cases e : q = c
    · rw [e, ze_wi, zd_up_i, zp_o (by omega)]
    · rw [ze_wj e, ze_wo (by decide), zd_up_o e, n1 5 q (by decide)]
      exact hw q hq
  · rw [ze_wi, ze_wo (by decide), ze_wo (by decide), ze_wo (by decide), n1 0 7 (by decide), ze_add (by rw [hg, ze_i1]; omega) (by rw [hg, ze_i1]; omega), hg, ze_i1]
    omega
  · rw [ze_wo (by omega), ze_wo (by omega), ze_wo (by omega), ze_wo (by omega), n1 a b (by omega)]
theorem zdx_calls {M : zm_I} {E n : Nat} (h3 : M.1 0 3 = Int32.ofNat E) (hE : 1 ≤ E ∧ E ≤ 30) (hn : n ≤ 60) : zF_X0_callsTill zW_B [.ref 0, .int (Int32.ofNat n)] M = some (some (.int (Int32.ofNat (n / E))), M) := by
  have e : zF_X0_callsTill zW_B [.ref 0, .int (Int32.ofNat n)] M = zv_X0_callsTill_B_0 M.1 M.2 (Int32.ofNat n) := zf_X0_callsTill_B M.1 M.2 _
  have z : ∀ {x : Nat}, x ≤ 1000 → 1 ≤ x → ¬ (Int32.ofNat x : Int32) ≤ 0 := fun {x} h h1 q => by
    rw [ze_le, zp_o h, ze_i0] at q
    omega
  have z2 : ¬ (Int32.ofNat E : Int32) = 0 := fun q => z (x := E) (by omega) hE.1 (by rw [q]; exact Int32.le_refl 0)
  rw [e, zq_X0_callsTill_B_0, h3, if_neg (z (by omega) hE.1), zq_X0_callsTill_B_7, h3, if_neg z2, zq_X0_callsTill_B_17, zd_divE n (by omega) E (by omega) hE.1]
theorem zdx_fin (hv : zdXv B) {n : Nat} (hn : n ≤ 60) (l3 : Int64) (hb : zdXb B I) (hx : zdX B I p) {w : Nat → Int} (hw : ∀ q, q < 5 → (I 5 q).toInt = w q) (hg : (I 0 7).toInt = zd_ct p B.1.1) (hG : zt_Gs zo_g7 (I, J)) : ∃ N K, zF_X2_finish zW_DB [.ref 0, .ref 8, .int (Int32.ofNat n), .long l3] (I, J) = some (none, (N, K)) ∧ zdX B N (zd_fin B (zd_bit l3) n (p, w)).1 ∧ (∀ q, q < 5 → (N 5 q).toInt = (zd_fin B (zd_bit l3) n (p, w)).2 q) ∧ (N 0 7).toInt = zd_ct (zd_fin B (zd_bit l3) n (p, w)).1 B.1.1 ∧ (∀ a b, 8 ≤ a → N a b = I a b) ∧ K 0 8 = J 0 8 ∧ K 0 9 = J 0 9 ∧ zt_Gs zo_g7 (N, K) := by
  obtain ⟨⟨hC, hS, hst, hac, hsa⟩, hA, hE, hcm, ham⟩ := id hv
  have gl := zd_ct_le p B.1.1
  have hcall := zdx_calls (M := zm_sub2 [(8, 10)] (I, J)) (n := n) hb.1.2.2.2 hE hn
  have id1 : zm_mrg [(8, 10)] (I, J) (zm_sub2 [(8, 10)] (I, J)) = (I, J) := zm_mrg_id _ _
  obtain ⟨t0, t1, t2⟩ := zd_c0 n (by omega) B.2.2.2.2.2.2 (by omega) hE.1
  have tail : ∀ (I1 : Nat → Nat → Int32) (p1 w1 : Nat → Int) (l5 l6 : Int32), zd_fin B (zd_bit l3) n (p, w) = (p1, w1) → zdX B I1 p1 → (∀ q, q < 5 → (I1 5 q).toInt = w1 q) → (I1 0 7).toInt = zd_ct p1 B.1.1 → (∀ a b, 8 ≤ a → I1 a b = I a b) → zt_Gs zo_g7 (I1, J) → ∃ N K, zv_X2_finish_DB_58 I1 J (Int32.ofNat n) l3 l5 l6 = some (none, (N, K)) ∧ zdX B N (zd_fin B (zd_bit l3) n (p, w)).1 ∧ (∀ q, q < 5 → (N 5 q).toInt = (zd_fin B (zd_bit l3) n (p, w)).2 q) ∧ (N 0 7).toInt = zd_ct (zd_fin B (zd_bit l3) n (p, w)).1 B.1.1 ∧ (∀ a b, 8 ≤ a → N a b = I a b) ∧ K 0 8 = J 0 8 ∧ K 0 9 = J 0 9 ∧ zt_Gs zo_g7 (N, K) := by
    intro I1 p1 w1 l5 l6 e h1 h2 h3 h4 h5
    obtain ⟨⟨N, K⟩, q1, q2, q3⟩ := zd_get (w0 := zW_DB) (G := zo_g7) (zi_75 0 zo_hd) rfl rfl rfl rfl (as := [.ref 0, .ref 8]) (M := (I1, J)) (zq_s1 zq_r0 (zq_s1 zq_r0 zq_s0)) h5
    have f : ∀ a b, zt_hit [(2, 0, 4), (3, 0, 4), (4, 0, 4)] a b = false → N a b = I1 a b ∧ K a b = J a b := q3
    have f1 : ∀ a b, a ≠ 2 → a ≠ 3 → a ≠ 4 → N a b = I1 a b ∧ K a b = J a b := fun a b a2 a3 a4 => f a b (by
      unfold zt_hit
      simp only [List.any_cons, List.any_nil, zt_beq_ne.mpr (Ne.symm a2), zt_beq_ne.mpr (Ne.symm a3), zt_beq_ne.mpr (Ne.symm a4), Bool.false_and, Bool.or_false])
    rw [e]
    refine ⟨N, K, ?_, zdX_c h1 (fun c _ => (f1 1 c (by decide) (by decide) (by decide)).1) (fun c _ => (f1 7 c (by decide) (by decide) (by decide)).1), fun q hq => ?_, ?_, fun a b ha => ?_, (f1 0 8 (by decide) (by decide) (by decide)).2, (f1 0 9 (by decide) (by decide) (by decide)).2, q2⟩
    · rw [zc_X2_finish_DB_58 _ _ _ _ _ _ q1, zq_X2_finish_DB_63]
    · rw [(f1 5 q (by decide) (by decide) (by decide)).1]
      exact h2 q hq
    · rw [(f1 0 7 (by decide) (by decide) (by decide)).1]
      exact h3
    · rw [(f1 a b (by omega) (by omega) (by omega)).1]
      exact h4 a b ha
  have stay : ¬ (0 < n ∧ n % B.2.2.2.2.2.2 = 0 ∧ zd_bit l3 (n / B.2.2.2.2.2.2 - 1) = false) → ∀ l5 l6, ∃ N K, zv_X2_finish_DB_58 I J (Int32.ofNat n) l3 l5 l6 = some (none, (N, K)) ∧ zdX B N (zd_fin B (zd_bit l3) n (p, w)).1 ∧ (∀ q, q < 5 → (N 5 q).toInt = (zd_fin B (zd_bit l3) n (p, w)).2 q) ∧ (N 0 7).toInt = zd_ct (zd_fin B (zd_bit l3) n (p, w)).1 B.1.1 ∧ (∀ a b, 8 ≤ a → N a b = I a b) ∧ K 0 8 = J 0 8 ∧ K 0 9 = J 0 9 ∧ zt_Gs zo_g7 (N, K) := fun hc l5 l6 => tail I p w l5 l6 (if_neg hc) hx hw hg (fun _ _ _ => rfl) hG
  rw [zf_X2_finish_DB, zc_X2_finish_DB_0 _ _ _ _ hcall, id1, zq_X2_finish_DB_5]
  by_cases c0 : n / B.2.2.2.2.2.2 = 0
  · rw [if_pos (by rw [c0]; decide), zq_X2_finish_DB_27, zq_X2_finish_DB_28, if_pos rfl]
    exact stay (fun z => t0 c0 ⟨z.1, z.2.1⟩) _ _
  · have c9 : ¬ (Int32.ofNat (n / B.2.2.2.2.2.2) : Int32) ≤ 0 := fun q => by
      rw [ze_le, zp_o (by omega), ze_i0] at q
      exact c0 (Nat.le_zero.mp (Int.ofNat_le.mp (show ((n / B.2.2.2.2.2.2 : Nat) : Int) ≤ ((0 : Nat) : Int) from q)))
    rw [if_neg c9, zq_X2_finish_DB_12, show (I, J).1 8 3 = _ from hb.1.2.2.2]
    by_cases c1 : n % B.2.2.2.2.2.2 = 0
    · rw [if_pos ((zd_mulE n (by omega) _ (by omega) hE.1).mpr c1), zq_X2_finish_DB_23, zq_X2_finish_DB_28, if_neg (by decide), zq_X2_finish_DB_35, zd_pre _ (by omega) (Nat.pos_of_ne_zero c0)]
      by_cases c2 : zd_bit l3 (n / B.2.2.2.2.2.2 - 1) = false
      · obtain ⟨r, q1, q2⟩ := zdx_ft (J := J) hv hb hx
        rw [if_pos ((zd_test l3 (by omega)).mpr c2), zc_X2_finish_DB_48 _ _ _ _ _ _ q1]
        have hc : 0 < n ∧ n % B.2.2.2.2.2.2 = 0 ∧ zd_bit l3 (n / B.2.2.2.2.2.2 - 1) = false := ⟨t1 c0, c1, c2⟩
        by_cases c3 : zd_ft B p = -1
        · have er : r = -1 := Int32.toInt_inj.mp (by rw [q2, zh_m1]; exact c3)
          have ha : zF_X2_admit zW_DB [.ref 0, .int r, .int (Int32.ofNat n)] (I, J) = some (none, (I, J)) := by rw [zf_X2_admit_DB, zq_X2_admit_DB_0, if_pos er, zq_X2_admit_DB_5]
          rw [zc_X2_finish_DB_54 _ _ _ _ _ _ _ ha]
          refine tail I p w _ _ ?_ hx hw hg (fun _ _ _ => rfl) hG
          unfold zd_fin
          rw [if_pos hc, if_pos c3]
        · rcases zd_ft_b B p with z | ⟨z1, z2, z3⟩
          · exact absurd z c3
          · have er : r = Int32.ofNat (zd_ft B p).toNat := Int32.toInt_inj.mp (by rw [q2, zp_o (by omega)]; omega)
            have hlt : (zd_ft B p).toNat < B.1.1 := by omega
            obtain ⟨N, a1, a2, a3, a4, a5⟩ := zdx_admit (J := J) hv hx (n := n) (g := zd_ct p B.1.1) hlt hw hg (by omega) hn
            have gs := (zd_det (w0 := zW_DB) (G := zo_g7) (zi_72 0 zo_hd) rfl rfl rfl rfl (zq_s1 zq_r0 (zq_s1 (zd_i (by omega) (by show (-1 : Int) ≤ _; omega) (by show _ ≤ (4 : Int); omega)) (zq_s1 (zd_i (by omega) (by show (0 : Int) ≤ _; omega) (by show _ ≤ (60 : Int); omega)) zq_s0))) hG a1).1
            rw [er, zc_X2_finish_DB_54 _ _ _ _ _ _ _ a1]
            refine tail N _ _ _ _ ?_ a2 a3 (by rw [a4, zd_ct_up (by omega) hlt]) a5 gs
            unfold zd_fin
            rw [if_pos hc, if_neg c3]
      · rw [if_neg (fun z => c2 ((zd_test l3 (by omega)).mp z))]
        exact stay (fun z => c2 z.2.2) _ _
    · rw [if_neg (fun z => c1 ((zd_mulE n (by omega) _ (by omega) hE.1).mp z)), zq_X2_finish_DB_27, zq_X2_finish_DB_28, if_pos rfl]
      exact stay (fun z => c1 z.2.1) _ _
-- a day begun
theorem zdx_dw2 : ∀ (d c : Nat) (I : Nat → Nat → Int32), c + d = 5 → ∃ N, zv_X2_dawn_DB_2 I J (Int32.ofNat c) = zv_X2_dawn_DB_63 N J (Int32.ofNat 0) ∧ (∀ q, c ≤ q → q < 5 → (N 1 q).toInt = -2 ∧ (N 5 q).toInt = -1) ∧ (∀ q, q < c → N 1 q = I 1 q ∧ N 5 q = I 5 q) ∧ ∀ a b, (a = 0 ∨ 7 ≤ a) → N a b = I a b := by
  intro d
  induction d with
  | zero =>
    intro c I h
    refine ⟨I, ?_, fun q h1 h2 => by omega, fun q _ => ⟨rfl, rfl⟩, fun _ _ _ => rfl⟩
    have e5 : (5 : Int32) = Int32.ofNat 5 := rfl
    rw [zq_X2_dawn_DB_2, if_pos (by rw [e5]; exact (zp_le (by omega) (by omega)).mpr (by omega)), zq_X2_dawn_DB_61]
    rfl
  | succ d ih =>
    intro c I h
    have e5 : (5 : Int32) = Int32.ofNat 5 := rfl
    have e2 : (-2 : Int32).toInt = -2 := by decide
    rw [zq_X2_dawn_DB_2, if_neg (fun z => by rw [e5] at z; have := (zp_le (by omega) (by omega)).mp z; omega), zq_X2_dawn_DB_7, if_neg (zp_in (by omega) (by omega)), if_neg (zp_in (by omega) (by omega)), if_neg (zp_in (by omega) (by omega)), if_neg (zp_in (by omega) (by omega)), if_neg (zp_in (by omega) (by omega)), if_neg (zp_in (by omega) (by omega)), if_neg (zp_in (by omega) (by omega)), zp_cl (by omega), zp_o1 (by omega)]
    generalize hK : zm_w (zm_w (zm_w (zm_w (zm_w (zm_w I 1 c (-2)) 2 c ((zm_w I 1 c (-2)) 10 c)) 3 c (-1)) 4 c 0) 5 c (-1)) 6 c 0 = K
    have k1 : ∀ q, K 1 q = if q = c then -2 else I 1 q := fun q => by
      rw [← hK, ze_wo (by decide), ze_wo (by decide), ze_wo (by decide), ze_wo (by decide), ze_wo (by decide)]
      by_cases e : q = c
      · rw [if_pos e, e, ze_wi]
      · rw [if_neg e, ze_wj e]
    have k5 : ∀ q, K 5 q = if q = c then -1 else I 5 q := fun q => by
      rw [← hK, ze_wo (by decide)]
      by_cases e : q = c
      · rw [if_pos e, e, ze_wi]
      · rw [if_neg e, ze_wj e, ze_wo (by decide), ze_wo (by decide), ze_wo (by decide), ze_wo (by decide)]
    have ko : ∀ a b, (a = 0 ∨ 7 ≤ a) → K a b = I a b := fun a b ha => by rw [← hK, ze_wo (by omega), ze_wo (by omega), ze_wo (by omega), ze_wo (by omega), ze_wo (by omega), ze_wo (by omega)]
    obtain ⟨N, q1, q2, q3, q4⟩ := ih (c + 1) K (by omega)
    refine ⟨N, q1, fun q h1 h2 => ?_, fun q hq => ?_, fun a b ha => (q4 a b ha).trans (ko a b ha)⟩
    · by_cases e : q = c
      · have := q3 q (by omega)
        rw [this.1, this.2, k1, k5, if_pos e, if_pos e]
        exact ⟨e2, zh_m1⟩
      · exact q2 q (by omega) h2
    · have := q3 q (by omega)
      rw [this.1, this.2, k1, k5, if_neg (by omega), if_neg (by omega)]
      exact ⟨rfl, rfl⟩
theorem zdx_dw63 : ∀ (d c : Nat) (I : Nat → Nat → Int32), c + d = 6 → ∃ N, zv_X2_dawn_DB_63 I J (Int32.ofNat c) = zv_X2_dawn_DB_82 N J (Int32.ofNat 6) ∧ (∀ q, c ≤ q → q < 6 → (N 7 q).toInt = -1) ∧ (∀ q, q < c → N 7 q = I 7 q) ∧ ∀ a b, a ≠ 7 → N a b = I a b := by
  intro d
  induction d with
  | zero =>
    intro c I h
    refine ⟨I, ?_, fun q h1 h2 => by omega, fun q _ => rfl, fun _ _ _ => rfl⟩
    have e6 : (6 : Int32) = Int32.ofNat 6 := rfl
    rw [zq_X2_dawn_DB_63, if_pos (by rw [e6]; exact (zp_le (by omega) (by omega)).mpr (by omega)), show c = 6 by omega]
  | succ d ih =>
    intro c I h
    have e6 : (6 : Int32) = Int32.ofNat 6 := rfl
    obtain ⟨N, q1, q2, q3, q4⟩ := ih (c + 1) (zm_w I 7 c (-1)) (by omega)
    refine ⟨N, ?_, fun q h1 h2 => ?_, fun q hq => ?_, fun a b ha => (q4 a b ha).trans (ze_wo ha)⟩
    · rw [zq_X2_dawn_DB_63, if_neg (fun z => by rw [e6] at z; have := (zp_le (by omega) (by omega)).mp z; omega), zq_X2_dawn_DB_69, if_neg (zp_in (by omega) (by omega)), zp_cl (by omega), zp_o1 (by omega)]
      exact q1
    · by_cases e : q = c
      · rw [q3 q (by omega), e, ze_wi, zh_m1]
      · exact q2 q (by omega) h2
    · rw [q3 q (by omega), ze_wj (by omega)]
theorem zdx_dw99 (hv : zdXv B) (hb : zdXb B I) : ∀ (d k : Nat) (J : Nat → Nat → Int64), k + d = B.1.2.2 → (∀ m, m ≤ 60 → zd_bit (J 0 8) m = false → ∀ q, q < k → B.2.2.2.2.2.1 q ≠ m) → ∃ K, zv_X2_dawn_DB_99 I J (Int32.ofNat k) = some (none, (I, K)) ∧ (∀ m, m ≤ 60 → zd_bit (K 0 8) m = false → ∀ q, q < B.1.2.2 → B.2.2.2.2.2.1 q ≠ m) ∧ K 0 9 = J 0 9 := by
  obtain ⟨⟨hC, hS, hst, hac, hsa⟩, hA, hE, hcm, ham⟩ := id hv
  intro d
  induction d with
  | zero =>
    intro k J h hz
    have ek : k = B.1.2.2 := by omega
    refine ⟨J, ?_, fun m hm hf q hq => hz m hm hf q (by omega), rfl⟩
    rw [zq_X2_dawn_DB_99, hb.1.2.2.1, if_pos ((zp_le (by omega) (by omega)).mpr (by omega)), zq_X2_dawn_DB_130]
  | succ d ih =>
    intro k J h hz
    have a6 := ham k
    have e8 : zm_wl J 0 8 (J 0 8 ||| (1 <<< (Int32.toInt64 (Int32.ofNat (B.2.2.2.2.2.1 k)) &&& 63))) 0 8 = (J 0 8 ||| (1 <<< (Int32.toInt64 (Int32.ofNat (B.2.2.2.2.2.1 k)) &&& 63))) := if_pos ⟨rfl, rfl⟩
    have e9 : zm_wl J 0 8 (J 0 8 ||| (1 <<< (Int32.toInt64 (Int32.ofNat (B.2.2.2.2.2.1 k)) &&& 63))) 0 9 = J 0 9 := if_neg (by decide)
    obtain ⟨K, q1, q2, q3⟩ := ih (k + 1) (zm_wl J 0 8 (J 0 8 ||| (1 <<< (Int32.toInt64 (Int32.ofNat (B.2.2.2.2.2.1 k)) &&& 63)))) (by omega) (fun m hm hf q hq => by
      rw [e8, zd_bit_or _ (by omega) (by omega)] at hf
      by_cases c : m = B.2.2.2.2.2.1 k
      · rw [if_pos c] at hf
        cases hf
      · rw [if_neg c] at hf
        by_cases e : q = k
        · rw [e]
          exact fun z => c z.symm
        · exact hz m hm hf q (by omega))
    refine ⟨K, ?_, q2, q3.trans e9⟩
    rw [zq_X2_dawn_DB_99, hb.1.2.2.1, if_neg (fun z => by have := (zp_le (by omega) (by omega)).mp z; omega), zq_X2_dawn_DB_107, if_neg (zp_in (by omega) (by omega)), zp_cl (by omega), (hb.2.2.2 k (by omega)).2.2, zp_o1 (by omega)]
    exact q1
theorem zd_bit_0 (q : Nat) : zd_bit 0 q = false := by
  unfold zd_bit
  exact BitVec.getLsbD_zero
theorem zdx_dawn (hv : zdXv B) (hb : zdXb B I) : ∃ N K, zF_X2_dawn zW_DB [.ref 0, .ref 8] (I, J) = some (none, (N, K)) ∧ zdX B N (fun _ => -2) ∧ (∀ q, q < 5 → (N 5 q).toInt = -1) ∧ (∀ q, zd_bit (K 0 9) q = false) ∧ (N 0 7).toInt = 0 ∧ (∀ m, m ≤ 60 → zd_bit (K 0 8) m = false → ∀ q, q < B.1.2.2 → B.2.2.2.2.2.1 q ≠ m) ∧ ∀ a b, 8 ≤ a → N a b = I a b := by
  obtain ⟨N1, q1, q2, q3, q4⟩ := zdx_dw2 (J := J) 5 0 I rfl
  obtain ⟨N2, r1, r2, r3, r4⟩ := zdx_dw63 (J := J) 6 0 N1 rfl
  have fr : ∀ a b, 8 ≤ a → zm_w N2 0 7 0 a b = I a b := fun a b ha => by rw [ze_wo (by omega), r4 a b (by omega), q4 a b (by omega)]
  have j8 : zm_wl (zm_wl J 0 9 0) 0 8 0 0 8 = 0 := if_pos ⟨rfl, rfl⟩
  have j9 : zm_wl (zm_wl J 0 9 0) 0 8 0 0 9 = 0 := (if_neg (by decide)).trans (if_pos ⟨rfl, rfl⟩)
  obtain ⟨K, s1, s2, s3⟩ := zdx_dw99 (I := zm_w N2 0 7 0) hv (zdXb_f hb fr) B.1.2.2 0 (zm_wl (zm_wl J 0 9 0) 0 8 0) (by omega) (fun m _ _ q hq => absurd hq (Nat.not_lt_zero q))
  refine ⟨zm_w N2 0 7 0, K, ?_, ⟨fun c hc => ?_, fun _ _ => rfl, fun _ => ⟨by show (-3 : Int) ≤ -2; decide, by show (-2 : Int) ≤ 5; decide⟩, fun c _ h0 => absurd h0 (show ¬ (0 : Int) ≤ -2 by decide), fun s hs => Or.inl ?_⟩, fun q hq => ?_, fun q => ?_, ?_, s2, fr⟩
  · rw [zf_X2_dawn_DB, zq_X2_dawn_DB_0]
    refine Eq.trans q1 (r1.trans ?_)
    rw [zq_X2_dawn_DB_82]
    exact s1
  · rw [ze_wo (by decide), r4 1 c (by decide)]
    exact (q2 c (Nat.zero_le c) hc).1
  · rw [ze_wo (by decide)]
    exact r2 s (Nat.zero_le s) hs
  · rw [ze_wo (by decide), r4 5 q (by decide)]
    exact (q2 q (Nat.zero_le q) hq).2
  · rw [s3, j9]
    exact zd_bit_0 q
  · rw [ze_wi]
    decide
/-- what holds of the class's day before minute n -/
def zdS (B : zdB) (z : zdZ) (I : Nat → Nat → Int32) (J : Nat → Nat → Int64) : Prop := zdXb B I ∧ zdX B I z.1 ∧ (∀ q, q < 5 → (I 5 q).toInt = z.2.1 q) ∧ (∀ q, q < 41 → zd_bit (J 0 9) q = z.2.2 q) ∧ (I 0 7).toInt = zd_ct z.1 B.1.1 ∧ (∀ m, m ≤ 60 → zd_bit (J 0 8) m = false → ∀ q, q < B.1.2.2 → B.2.2.2.2.2.1 q ≠ m) ∧ zt_Gs zo_g7 (I, J)
theorem zdS_0 (hv : zdXv B) {ms : Nat → Bool} (hb : zdXb B I) (hG : zt_Gs zo_g7 (I, J)) : ∃ N K, zF_X2_dawn zW_DB [.ref 0, .ref 8] (I, J) = some (none, (N, K)) ∧ zdS B (zd_st B ms 0) N K ∧ ∀ a b, 8 ≤ a → N a b = I a b := by
  obtain ⟨N, K, q1, q2, q3, q4, q5, q6, q7⟩ := zdx_dawn (J := J) hv hb
  have gs := (zd_det (w0 := zW_DB) (G := zo_g7) (zi_64 0 zo_hd) rfl rfl rfl rfl (zq_s1 zq_r0 (zq_s1 zq_r0 zq_s0)) hG q1).1
  have z : ∀ C, zd_ct (fun _ => -2) C = 0 := by
    intro C
    induction C with
    | zero => rfl
    | succ C ih =>
      unfold zd_ct
      rw [ih, if_neg (by decide)]
  exact ⟨N, K, q1, ⟨zdXb_f hb q7, q2, q3, fun q _ => q4 q, by rw [q5]; show (0 : Int) = (zd_ct (fun _ => -2) B.1.1 : Nat); rw [z]; rfl, q6, gs⟩, q7⟩
/-- a minute, up to its call -/
theorem zdS_set (hv : zdXv B) {ms : Nat → Bool} {n : Nat} (hn : n ≤ 60) (h : zdS B (zd_st B ms n) I J) : ∃ N K, zF_X2_settle zW_DB [.ref 0, .ref 8, .int (Int32.ofNat n)] (I, J) = some (none, (N, K)) ∧ zdS B ((zd_at B n (zd_st B ms n)).1, (zd_st B ms n).2.1, (zd_at B n (zd_st B ms n)).2) N K ∧ zdXf I N := by
  obtain ⟨h1, h2, h3, h4, h5, h6, h7⟩ := h
  obtain ⟨i1, i2, i3, -⟩ := zdI_st (ms := ms) hv.1 n
  obtain ⟨N, K, q1, q2, q3, q4⟩ := zdx_set (x := ((zd_st B ms n).1, (zd_st B ms n).2.2)) hv hn ⟨i1, i2, i3⟩ h1 h2 h4 (fun z k hk => h6 n hn z k hk)
  obtain ⟨g1, g2⟩ := zd_det (w0 := zW_DB) (G := zo_g7) (zi_68 0 zo_hd) rfl rfl rfl rfl (zq_s1 zq_r0 (zq_s1 zq_r0 (zq_s1 (zd_i (by omega) (by show (0 : Int) ≤ _; omega) (by show _ ≤ (60 : Int); omega)) zq_s0))) h7 q1
  have k8 : K 0 8 = J 0 8 := (g2 0 8 (by decide)).2
  have hp : ∀ c, c < B.1.1 → ((zd_at B n (zd_st B ms n)).1 c = -3 ↔ (zd_st B ms n).1 c = -3) := by
    have sit : ∀ (k s : Nat) (p : Nat → Int) (c q : Nat), p c ≠ -3 → (zd_sit B.1.1 B.1.2.1 p c k s q = -3 ↔ p q = -3) := by
      intro k
      induction k with
      | zero => exact fun _ _ _ _ _ => Iff.rfl
      | succ k ihk =>
        intro s p c q hc
        unfold zd_sit
        split
        · by_cases e : q = c
          · rw [e, zd_up_i]
            exact ⟨fun z => by omega, fun z => absurd z hc⟩
          · rw [zd_up_o e]
        · exact ihk _ p c q hc
    have m1 : ∀ q, ((zd_for (zd_mv B n) B.1.2.2 0 ((zd_st B ms n).1, (zd_st B ms n).2.2)).1 q = -3 ↔ (zd_st B ms n).1 q = -3) := zd_for_ind (P := fun _ (y : zdP) => ∀ q, (y.1 q = -3 ↔ (zd_st B ms n).1 q = -3)) B.1.2.2 0 _ (fun _ => Iff.rfl) (fun k y _ _ hy q => by
      unfold zd_mv
      split
      · next e =>
        by_cases c : q = B.2.2.2.1 k
        · show zd_up y.1 _ _ q = -3 ↔ _
          rw [c, zd_up_i, ← hy]
          exact ⟨fun z => by omega, fun z => by omega⟩
        · show zd_up y.1 _ _ q = -3 ↔ _
          rw [zd_up_o c]
          exact hy q
      · exact hy q)
    have m2 : ∀ q, (zd_for (zd_sd B) B.1.1 0 (zd_for (zd_mv B n) B.1.2.2 0 ((zd_st B ms n).1, (zd_st B ms n).2.2)).1 q = -3 ↔ (zd_st B ms n).1 q = -3) := zd_for_ind (P := fun _ (y : Nat → Int) => ∀ q, (y q = -3 ↔ (zd_st B ms n).1 q = -3)) B.1.1 0 _ m1 (fun k y _ _ hy q => by
      unfold zd_sd
      split
      · next e => rw [sit _ _ y k q (by omega)]; exact hy q
      · exact hy q)
    have m3 : ∀ q, (zd_for (zd_cm B n) B.1.1 0 (zd_for (zd_sd B) B.1.1 0 (zd_for (zd_mv B n) B.1.2.2 0 ((zd_st B ms n).1, (zd_st B ms n).2.2)).1) q = -3 ↔ (zd_st B ms n).1 q = -3) := zd_for_ind (P := fun _ (y : Nat → Int) => ∀ q, (y q = -3 ↔ (zd_st B ms n).1 q = -3)) B.1.1 0 _ m2 (fun k y _ _ hy q => by
      unfold zd_cm
      split
      · next e =>
        rw [sit _ _ (zd_up y k (-1)) k q (by rw [zd_up_i]; decide)]
        by_cases c : q = k
        · rw [c, zd_up_i, ← hy]
          have hk : (zd_st B ms n).1 k = -2 := by
            by_cases z : (zd_st B ms n).1 k = -2
            · exact z
            · have := i2 k z
              omega
          rw [hy, hk]
          exact ⟨fun z => by omega, fun z => by omega⟩
        · rw [zd_up_o c]
          exact hy q
      · exact hy q)
    exact fun c _ => m3 c
  refine ⟨N, K, q1, ⟨zdXb_x h1 q4, q2, fun q hq => ?_, q3, ?_, fun m hm z k hk => h6 m hm (by rw [← k8]; exact z) k hk, g1⟩, q4⟩
  · rw [q4 5 q (by decide) (by decide)]
    exact h3 q hq
  · rw [q4 0 7 (by decide) (by decide), h5]
    show ((zd_ct (zd_st B ms n).1 B.1.1 : Nat) : Int) = (zd_ct (zd_at B n (zd_st B ms n)).1 B.1.1 : Nat)
    rw [zd_ct_eq hp]
/-- a minute's call, and what comes behind it -/
theorem zdS_fin (hv : zdXv B) {l3 : Int64} {n : Nat} (hn : n ≤ 60) (h : zdS B ((zd_at B n (zd_st B (zd_bit l3) n)).1, (zd_st B (zd_bit l3) n).2.1, (zd_at B n (zd_st B (zd_bit l3) n)).2) I J) : ∃ N K, zF_X2_finish zW_DB [.ref 0, .ref 8, .int (Int32.ofNat n), .long l3] (I, J) = some (none, (N, K)) ∧ zdS B (zd_st B (zd_bit l3) (n + 1)) N K ∧ ∀ a b, 8 ≤ a → N a b = I a b := by
  obtain ⟨h1, h2, h3, h4, h5, h6, h7⟩ := h
  obtain ⟨N, K, q1, q2, q3, q4, q5, q6, q7, q8⟩ := zdx_fin (w := (zd_st B (zd_bit l3) n).2.1) hv hn l3 h1 h2 h3 h5 h7
  exact ⟨N, K, q1, ⟨zdXb_f h1 q5, q2, q3, fun q hq => by rw [q7]; exact h4 q hq, q4, fun m hm z k hk => h6 m hm (by rw [← q6]; exact z) k hk, q8⟩, q5⟩
theorem zdS_dead (hv : zdXv B) {ms : Nat → Bool} {n : Nat} (hn : n ≤ 61) (h : zdS B (zd_st B ms n) I J) (hd : I 8 6 ≤ I 0 7) : (∀ m, zd_st B ms (n + m) = zd_st B ms n ∧ zd_pl B ms (n + m) = (zd_st B ms n).1) ∧ ∀ c, (zd_st B ms n).1 c < -1 := by
  have hC := hv.1.1
  have hl := zd_ct_le (zd_st B ms n).1 B.1.1
  rw [ze_le, h.1.1.1, zp_o (by omega), h.2.2.2.2.1] at hd
  have all := zd_ct_all (p := (zd_st B ms n).1) (C := B.1.1) (by omega)
  refine ⟨zd_st_dead hv.1 all, fun c => ?_⟩
  by_cases q : c < B.1.1
  · rw [all c q]
    decide
  · rw [(zdI_st (ms := ms) hv.1 n).1 c (by omega)]
    decide
theorem zdx_live8 (hv : zdXv B) (l2 : Int64) : ∀ (d n : Nat) (I : Nat → Nat → Int32) (J : Nat → Nat → Int64), n + d = 61 → zdS B (zd_st B (zd_bit l2) n) I J → ∃ N K, zv_X2_live_DB_8 I J l2 (Int32.ofNat n) = some (none, (N, K)) ∧ zdS B (zd_st B (zd_bit l2) 61) N K ∧ ∀ a b, 8 ≤ a → N a b = I a b := by
  have e60 : (60 : Int32).toInt = 60 := by decide
  intro d
  induction d with
  | zero =>
    intro n I J h hs
    have en : n = 61 := by omega
    subst en
    refine ⟨I, J, ?_, hs, fun _ _ _ => rfl⟩
    rw [zq_X2_live_DB_8, if_pos (by rw [ze_lt, e60, zp_o (by omega)]; omega), zq_X2_live_DB_47]
  | succ d ih =>
    intro n I J h hs
    rw [zq_X2_live_DB_8, if_neg (fun z => by rw [ze_lt, e60, zp_o (by omega)] at z; omega), zq_X2_live_DB_15]
    by_cases c : I 8 6 ≤ I 0 7
    · have hd := (zdS_dead hv (by omega) hs c).1 (61 - n)
      rw [show n + (61 - n) = 61 by omega] at hd
      refine ⟨I, J, ?_, by rw [hd.1]; exact hs, fun _ _ _ => rfl⟩
      rw [if_pos c, zq_X2_live_DB_47]
    · obtain ⟨N1, K1, q1, q2, q3⟩ := zdS_set hv (by omega) hs
      obtain ⟨N2, K2, r1, r2, r3⟩ := zdS_fin hv (by omega) q2
      obtain ⟨N3, K3, s1, s2, s3⟩ := ih (n + 1) N2 K2 (by omega) r2
      refine ⟨N3, K3, ?_, s2, fun a b ha => (s3 a b ha).trans ((r3 a b ha).trans (q3 a b (by omega) (by omega)))⟩
      rw [if_neg c, zc_X2_live_DB_26 _ _ _ _ q1, zc_X2_live_DB_33 _ _ _ _ r1, zq_X2_live_DB_41, zp_o1 (by omega)]
      exact s1
theorem zdx_live (hv : zdXv B) (l2 : Int64) (hb : zdXb B I) (hG : zt_Gs zo_g7 (I, J)) : ∃ N K, zF_X2_live zW_DB [.ref 0, .ref 8, .long l2] (I, J) = some (none, (N, K)) ∧ zdS B (zd_st B (zd_bit l2) 61) N K ∧ ∀ a b, 8 ≤ a → N a b = I a b := by
  obtain ⟨N, K, q1, q2, q3⟩ := zdS_0 (ms := zd_bit l2) hv hb hG
  obtain ⟨N2, K2, r1, r2, r3⟩ := zdx_live8 hv l2 61 0 N K rfl q2
  exact ⟨N2, K2, (zf_X2_live_DB _ _ _).trans ((zc_X2_live_DB_0 _ _ _ q1).trans ((zq_X2_live_DB_5 _ _ _).trans r1)), r2, fun a b ha => (r3 a b ha).trans (q3 a b ha)⟩
end ZDC
end
section
/-! A DAY OF THE REFERENCE: who moves, sits down, comes -/
theorem zd_gw {G : zt_G} {I : Nat → Nat → Int32} {J : Nat → Nat → Int64} (h : zt_Gs G (I, J)) {n i : Nat} {x : Int32} {b : Int × Int} (hr : G[n]? = some [b]) (h1 : b.1 ≤ x.toInt) (h2 : x.toInt ≤ b.2) : zt_Gs G (zm_w I n i x, J) := by
  intro m g hg j c hc
  show c.1 ≤ (zm_w I n i x m j).toInt ∧ (zm_w I n i x m j).toInt ≤ c.2
  by_cases e : m = n ∧ j = i
  · have em := e.1
    have ej := e.2
    subst em
    subst ej
    rw [hr] at hg
    cases hg
    have hc : [b][j % 1]? = some c := hc
    rw [Nat.mod_one] at hc
    cases hc
    rw [ze_wi]
    exact ⟨h1, h2⟩
  · rw [zh_w2 _ _ e]
    exact h m g hg j c hc
theorem zd_r16 : zo_g22[16]? = some [((-1 : Int), (99 : Int))] := rfl
theorem zd_r17 : zo_g22[17]? = some [((-1 : Int), (5 : Int))] := rfl
theorem zd_r18 : zo_g22[18]? = some [((-1 : Int), (60 : Int))] := rfl
theorem zd_r19 : zo_g22[19]? = some [((0 : Int), (99 : Int))] := rfl
theorem zd_r20 : zo_g22[20]? = some [((0 : Int), (1 : Int))] := rfl
theorem zd_r21 : zo_g22[21]? = some [((0 : Int), (99 : Int))] := rfl
theorem zd_r22 : zo_g22[22]? = some [((-1 : Int), (5 : Int))] := rfl
theorem zd_r23 : zo_g22[23]? = some [((-2147483648 : Int), (2147483647 : Int))] := rfl
theorem zd_r24 : zo_g22[24]? = some [((0 : Int), (1 : Int))] := rfl
theorem zd_r25 : zo_g22[25]? = some [((0 : Int), (99 : Int))] := rfl
theorem zd_r13 : zo_g22[13]? = some [((0 : Int), (99 : Int))] := rfl
theorem zd_m3 : ∀ k, k < 41 → (3 * Int32.ofNat k : Int32) = Int32.ofNat (3 * k) ∧ (3 * Int32.ofNat k + 1 : Int32) = Int32.ofNat (3 * k + 1) ∧ (3 * Int32.ofNat k + 2 : Int32) = Int32.ofNat (3 * k + 2) := by decide +kernel
theorem zd_modS : ∀ a, a < 6 → ∀ k, k < 7 → ∀ S, S < 7 → 1 ≤ S → (Int32.ofNat a + Int32.ofNat k - (Int32.ofNat a + Int32.ofNat k) / Int32.ofNat S * Int32.ofNat S : Int32) = Int32.ofNat ((a + k) % S) ∧ (a + k) % S < S ∧ (a + (k + 1)) % S = (if (a + k) % S + 1 < S then (a + k) % S + 1 else 0) := by decide +kernel
/-- the bench as the reference has laid it, and nothing more to be done on it -/
def zdMb (B : zdB) (I : Nat → Nat → Int32) : Prop := (I 7 5 = Int32.ofNat B.1.1 ∧ I 7 4 = Int32.ofNat B.1.2.1 ∧ I 7 6 = Int32.ofNat B.1.2.2 ∧ I 0 23 = Int32.ofNat B.2.2.2.2.2.2 ∧ I 0 24 = 0 ∧ I 0 25 = -1) ∧ (∀ c, c < B.1.1 → I 14 c = Int32.ofNat (B.2.1 c) ∧ I 15 c = Int32.ofNat (B.2.2.1 c)) ∧ ∀ k, k < B.1.2.2 → I 10 (3 * k) = Int32.ofNat (B.2.2.2.1 k) ∧ I 10 (3 * k + 1) = Int32.ofNat (B.2.2.2.2.1 k) ∧ I 10 (3 * k + 2) = Int32.ofNat (B.2.2.2.2.2.1 k)
/-- one who has a seat of his own told has one that there is -/
def zdMv (B : zdB) : Prop := zdXv B ∧ B.1.2.2 ≤ 40 ∧ ∀ c, c < B.1.1 → B.2.2.1 c < B.1.2.1
def zdM (B : zdB) (I : Nat → Nat → Int32) (J : Nat → Nat → Int64) (p : Nat → Int) : Prop := (∀ c, c < 5 → (-1 ≤ p c ∧ I 24 c = 1 ∧ (I 22 c).toInt = p c) ∨ (p c < -1 ∧ I 24 c = 0)) ∧ (∀ c, B.1.1 ≤ c → p c = -2) ∧ (∀ c, -3 ≤ p c ∧ p c ≤ 5) ∧ zt_Gs zo_g22 (I, J)
section ZDD
variable {B : zdB} {I N : Nat → Nat → Int32} {J : Nat → Nat → Int64} {p : Nat → Int}
theorem zdMb_f (h : zdMb B I) (hf : ∀ a b, a < 16 → N a b = I a b) : zdMb B N := by
  obtain ⟨⟨a, b, c, d, e, f⟩, g, k⟩ := h
  refine ⟨⟨?_, ?_, ?_, ?_, ?_, ?_⟩, fun q hq => ?_, fun q hq => ?_⟩
  · rw [hf 7 5 (by decide)]; exact a
  · rw [hf 7 4 (by decide)]; exact b
  · rw [hf 7 6 (by decide)]; exact c
  · rw [hf 0 23 (by decide)]; exact d
  · rw [hf 0 24 (by decide)]; exact e
  · rw [hf 0 25 (by decide)]; exact f
  · rw [hf 14 q (by decide), hf 15 q (by decide)]; exact g q hq
  · rw [hf 10 _ (by decide), hf 10 _ (by decide), hf 10 _ (by decide)]; exact k q hq
theorem zdm_callers : zF_X10_callers zW_M [.ref 0] (I, J) = some (some (.int (I 7 5)), (I, J)) := by
  rw [zf_X10_callers_M, zq_X10_callers_M_0, if_neg (by decide), show Int32.toNatClampNeg 5 = 5 by decide]
theorem zdm_seats : zF_X10_seats zW_M [.ref 0] (I, J) = some (some (.int (I 7 4)), (I, J)) := by
  rw [zf_X10_seats_M, zq_X10_seats_M_0, if_neg (by decide), show Int32.toNatClampNeg 4 = 4 by decide]
theorem zdm_free2 (hv : zdMv B) (hb : zdMb B I) (hx : zdM B I J p) {s : Nat} (hs : s ≤ 5) : ∀ (d c : Nat), c + d = B.1.1 → (∀ q, q < c → p q ≠ (s : Int)) → zv_X10_isFree_M_2 I J (Int32.ofNat s) (Int32.ofNat c) = some (some (.int (if zd_free B.1.1 p s = true then 1 else 0)), (I, J)) := by
  have hC := hv.1.1.1
  intro d
  induction d with
  | zero =>
    intro c h hq
    have ec : c = B.1.1 := by omega
    rw [zc_X10_isFree_M_2 _ _ _ _ zdm_callers, zq_X10_isFree_M_7, hb.1.1, if_pos ((zp_le (by omega) (by omega)).mpr (by omega)), zq_X10_isFree_M_37, if_pos (zd_free_i.mpr (fun q h => hq q (by omega)))]
  | succ d ih =>
    intro c h hq
    have hn : ¬ (Int32.ofNat B.1.1 : Int32) ≤ Int32.ofNat c := fun z => by have := (zp_le (by omega) (by omega)).mp z; omega
    rw [zc_X10_isFree_M_2 _ _ _ _ zdm_callers, zq_X10_isFree_M_7, hb.1.1, if_neg hn, zq_X10_isFree_M_10, if_neg (zp_in (by omega) (by omega)), zp_cl (by omega)]
    rcases hx.1 c (by omega) with ⟨z1, z2, z3⟩ | ⟨z1, z2⟩
    · rw [z2, if_neg (by decide), zq_X10_isFree_M_19, if_neg (zp_in (by omega) (by omega)), zp_cl (by omega)]
      by_cases e : p c = (s : Int)
      · rw [if_pos (Int32.toInt_inj.mp (by rw [z3, zp_o (by omega)]; exact e)), zq_X10_isFree_M_29, if_neg (fun z => zd_free_i.mp z c (by omega) e)]
      · rw [if_neg (fun z => e (by rw [← z3, z, zp_o (by omega)])), zq_X10_isFree_M_31, zp_o1 (by omega)]
        exact ih (c + 1) (by omega) (fun q hq2 => by
          by_cases c1 : q = c
          · rw [c1]
            exact e
          · exact hq q (by omega))
    · rw [z2, if_pos rfl, zq_X10_isFree_M_31, zp_o1 (by omega)]
      exact ih (c + 1) (by omega) (fun q hq2 => by
        by_cases c1 : q = c
        · rw [c1]
          omega
        · exact hq q (by omega))
theorem zdm_free (hv : zdMv B) (hb : zdMb B I) (hx : zdM B I J p) {s : Nat} (hs : s ≤ 5) : zF_X10_isFree zW_M [.ref 0, .int (Int32.ofNat s)] (I, J) = some (some (.int (if zd_free B.1.1 p s = true then 1 else 0)), (I, J)) := by
  rw [zf_X10_isFree_M, zq_X10_isFree_M_0]
  exact zdm_free2 hv hb hx hs B.1.1 0 (by omega) (fun q hq => absurd hq (Nat.not_lt_zero q))
/-- seats and what was sat on them alone may differ -/
def zdMf (I N : Nat → Nat → Int32) : Prop := ∀ a b, a ≠ 22 → a ≠ 23 → N a b = I a b
theorem zdMf_r : zdMf I I := fun _ _ _ _ => rfl
theorem zdMf_t {K : Nat → Nat → Int32} (h : zdMf I K) (h2 : zdMf K N) : zdMf I N := fun a b h1 h7 => (h2 a b h1 h7).trans (h a b h1 h7)
theorem zdm_take (hv : zdMv B) (hx : zdM B I J p) {c s : Nat} (hc : c < B.1.1) (hs : s ≤ 5) (hp : -1 ≤ p c) : ∃ N, zF_X10_takesSeat zW_M [.ref 0, .int (Int32.ofNat c), .int (Int32.ofNat s)] (I, J) = some (none, (N, J)) ∧ zdM B N J (zd_up p c s) ∧ zdMf I N := by
  have hC := hv.1.1.1
  refine ⟨zm_w (zm_w I 22 c (Int32.ofNat s)) 23 c 0, ?_, ⟨fun q hq => ?_, fun q hq => ?_, fun q => ?_, ?_⟩, fun a b h1 h2 => by rw [ze_wo h2, ze_wo h1]⟩
  · rw [zf_X10_takesSeat_M, zq_X10_takesSeat_M_0, if_neg (zp_in (by omega) (by omega)), if_neg (zp_in (by omega) (by omega)), zp_cl (by omega)]
  · rw [ze_wo (by decide), ze_wo (by decide), ze_wo (by decide)]
    by_cases e : q = c
    · subst e
      rcases hx.1 q hq with ⟨z1, z2, z3⟩ | ⟨z1, z2⟩
      · rw [zd_up_i, ze_wi, zp_o (by omega)]
        exact Or.inl ⟨by omega, z2, rfl⟩
      · omega
    · rw [zd_up_o e, ze_wj e]
      exact hx.1 q hq
  · rw [zd_up_o (by omega)]
    exact hx.2.1 q hq
  · by_cases e : q = c
    · rw [e, zd_up_i]
      omega
    · rw [zd_up_o e]
      exact hx.2.2.1 q
  · exact zd_gw (zd_gw hx.2.2.2 zd_r22 (by rw [zp_o (by omega)]; show (-1 : Int) ≤ _; omega) (by rw [zp_o (by omega)]; show _ ≤ (5 : Int); omega)) zd_r23 (by decide) (by decide)
theorem zdm_moves (hv : zdMv B) (hb : zdMb B I) (hx : zdM B I J p) {c s : Nat} (hc : c ≤ 4) (hs : s ≤ 5) : ∃ N, zF_X10_moves zW_M [.ref 0, .int (Int32.ofNat c), .int (Int32.ofNat s)] (I, J) = some (some (.int (if -1 ≤ p c ∧ zd_free B.1.1 p s = true then 1 else 0)), (N, J)) ∧ zdM B N J (if -1 ≤ p c ∧ zd_free B.1.1 p s = true then zd_up p c s else p) ∧ zdMf I N := by
  have hC := hv.1.1.1
  rw [zf_X10_moves_M, zq_X10_moves_M_0, if_neg (zp_in (by omega) (by omega)), zp_cl (by omega)]
  rcases hx.1 c (by omega) with ⟨z1, z2, z3⟩ | ⟨z1, z2⟩
  · rw [z2, if_neg (by decide), zc_X10_moves_M_9 _ _ _ _ (zdm_free hv hb hx hs), zq_X10_moves_M_14]
    by_cases e : zd_free B.1.1 p s = true
    · have hlt : c < B.1.1 := by
        by_cases q : c < B.1.1
        · exact q
        · have := hx.2.1 c (by omega)
          omega
      obtain ⟨N, q1, q2, q3⟩ := zdm_take hv hx hlt hs z1
      rw [if_pos e, if_neg (by decide), zc_X10_moves_M_19 _ _ _ _ q1, zq_X10_moves_M_25, if_pos ⟨z1, e⟩, if_pos ⟨z1, e⟩]
      exact ⟨N, rfl, q2, q3⟩
    · rw [if_neg e, if_pos rfl, zq_X10_moves_M_17, if_neg (fun z => e z.2), if_neg (fun z => e z.2)]
      exact ⟨I, rfl, hx, zdMf_r⟩
  · rw [z2, if_pos rfl, zq_X10_moves_M_17, if_neg (by omega), if_neg (by omega)]
    exact ⟨I, rfl, hx, zdMf_r⟩
theorem zdm_sit2 (hv : zdMv B) {c : Nat} (hc : c < B.1.1) : ∀ (d k : Nat) (I : Nat → Nat → Int32) (p : Nat → Int) (l3 : Option Value), k + d = B.1.2.1 → p c = -1 → zdMb B I → zdM B I J p → ∃ N, zv_X10_sitsDown_M_2 I J (Int32.ofNat c) (Int32.ofNat k) l3 = some (none, (N, J)) ∧ zdM B N J (zd_sit B.1.1 B.1.2.1 p c d ((B.2.2.1 c + k) % B.1.2.1)) ∧ zdMf I N := by
  obtain ⟨⟨⟨hC, hS, hst, hac, hsa⟩, hA, hE, hcm, ham⟩, hA4, hsc⟩ := id hv
  have a5 := hst c
  have sc := hsc c hc
  intro d
  induction d with
  | zero =>
    intro k I p l3 h hp hb hx
    refine ⟨I, ?_, hx, zdMf_r⟩
    rw [zc_X10_sitsDown_M_2 _ _ _ _ _ zdm_seats, zq_X10_sitsDown_M_7, hb.1.2.1, if_pos ((zp_le (by omega) (by omega)).mpr (by omega)), zq_X10_sitsDown_M_54]
  | succ d ih =>
    intro k I p l3 h hp hb hx
    obtain ⟨m1, m2, m3⟩ := zd_modS (B.2.2.1 c) (by omega) k (by omega) B.1.2.1 (by omega) (by omega)
    have h22 : I 22 c = -1 := by
      rcases hx.1 c (by omega) with ⟨z1, z2, z3⟩ | ⟨z1, z2⟩
      · exact Int32.toInt_inj.mp (by rw [z3, zh_m1]; exact hp)
      · omega
    have hn : ¬ (Int32.ofNat B.1.2.1 : Int32) ≤ Int32.ofNat k := fun z => by have := (zp_le (by omega) (by omega)).mp z; omega
    have z0 : ¬ (Int32.ofNat B.1.2.1 : Int32) = 0 := fun z => by
      have : (Int32.ofNat B.1.2.1).toInt = 0 := by rw [z, ze_i0]
      rw [zp_o (by omega)] at this
      omega
    rw [zc_X10_sitsDown_M_2 _ _ _ _ _ zdm_seats, zq_X10_sitsDown_M_7, hb.1.2.1, if_neg hn, zq_X10_sitsDown_M_10, if_neg (zp_in (by omega) (by omega)), zp_cl (by omega), if_pos h22, zq_X10_sitsDown_M_20, if_neg (zp_in (by omega) (by omega)), zp_cl (by omega), (hb.2.1 c hc).2, zc_X10_sitsDown_M_26 _ _ _ _ _ _ zdm_seats, zq_X10_sitsDown_M_32, hb.1.2.1, if_neg z0, m1]
    generalize hs : (B.2.2.1 c + k) % B.1.2.1 = s at m2 m3
    rw [zc_X10_sitsDown_M_33 _ _ _ _ _ _ (zdm_free hv hb hx (show s ≤ 5 by omega)), zq_X10_sitsDown_M_39]
    unfold zd_sit
    by_cases e : zd_free B.1.1 p s = true
    · obtain ⟨N, q1, q2, q3⟩ := zdm_take hv hx hc (show s ≤ 5 by omega) (by omega)
      rw [if_pos e, if_neg (by decide), if_pos e, zc_X10_sitsDown_M_42 _ _ _ _ _ q1, zq_X10_sitsDown_M_48, zp_o1 (by omega)]
      refine ⟨N, ?_, q2, q3⟩
      have hb2 : N 7 4 = Int32.ofNat B.1.2.1 := (q3 7 4 (by decide) (by decide)).trans hb.1.2.1
      have hne : ¬ N 22 c = -1 := by
        rcases q2.1 c (by omega) with ⟨z1, z2, z3⟩ | ⟨z1, z2⟩
        · intro z
          rw [z, zd_up_i, zh_m1] at z3
          omega
        · rw [zd_up_i] at z1
          omega
      rw [zc_X10_sitsDown_M_2 _ _ _ _ _ zdm_seats, zq_X10_sitsDown_M_7, hb2]
      by_cases c9 : B.1.2.1 ≤ k + 1
      · rw [if_pos ((zp_le (by omega) (by omega)).mpr c9), zq_X10_sitsDown_M_54]
      · rw [if_neg (fun z => c9 ((zp_le (by omega) (by omega)).mp z)), zq_X10_sitsDown_M_10, if_neg (zp_in (by omega) (by omega)), zp_cl (by omega), if_neg hne, zq_X10_sitsDown_M_54]
    · rw [if_neg e, if_pos rfl, if_neg e, zq_X10_sitsDown_M_48, zp_o1 (by omega), ← m3]
      exact ih (k + 1) I p _ (by omega) hp hb hx
theorem zdm_sit (hv : zdMv B) (hb : zdMb B I) (hx : zdM B I J p) {c : Nat} (hc : c < B.1.1) (hp : p c = -1) : ∃ N, zF_X10_sitsDown zW_M [.ref 0, .int (Int32.ofNat c)] (I, J) = some (none, (N, J)) ∧ zdM B N J (zd_sit B.1.1 B.1.2.1 p c B.1.2.1 (B.2.2.1 c)) ∧ zdMf I N := by
  obtain ⟨N, q1, q2, q3⟩ := zdm_sit2 (J := J) hv hc B.1.2.1 0 I p none (by omega) hp hb hx
  rw [Nat.add_zero, Nat.mod_eq_of_lt (hv.2.2 c hc)] at q2
  refine ⟨N, ?_, q2, q3⟩
  rw [zf_X10_sitsDown_M, zq_X10_sitsDown_M_0]
  exact q1
theorem zdm_ft4 (hv : zdMv B) (hb : zdMb B I) (hx : zdM B I J p) : ∀ (d c : Nat) (l1 : Int32) (x : Int), c + d = B.1.1 → l1.toInt = x → (x = -1 ∨ (0 ≤ x ∧ x < B.1.1)) → ∃ r : Int32, zv_X10_firstThere_M_4 I J l1 (Int32.ofNat c) = some (some (.int r), (I, J)) ∧ r.toInt = zd_for (zd_ff B p) d c x := by
  obtain ⟨⟨⟨hC, hS, hst, hac, hsa⟩, hA, hE, hcm, ham⟩, hA4, hsc⟩ := id hv
  intro d
  induction d with
  | zero =>
    intro c l1 x h hl hr
    refine ⟨l1, ?_, hl⟩
    rw [zc_X10_firstThere_M_4 _ _ _ _ zdm_callers, zq_X10_firstThere_M_9, hb.1.1, if_pos ((zp_le (by omega) (by omega)).mpr (by omega)), zq_X10_firstThere_M_49]
  | succ d ih =>
    intro c l1 x h hl hr
    have c61 := hcm c
    have hn : ¬ (Int32.ofNat B.1.1 : Int32) ≤ Int32.ofNat c := fun z => by have := (zp_le (by omega) (by omega)).mp z; omega
    have keep : Unit → zd_ff B p c x = x → ∃ r : Int32, zv_X10_firstThere_M_43 I J l1 (Int32.ofNat c) = some (some (.int r), (I, J)) ∧ r.toInt = zd_for (zd_ff B p) (d + 1) c x := by
      intro _ e
      obtain ⟨r, q1, q2⟩ := ih (c + 1) l1 x (by omega) hl hr
      refine ⟨r, ?_, ?_⟩
      · rw [zq_X10_firstThere_M_43, zp_o1 (by omega)]
        exact q1
      · show r.toInt = zd_for (zd_ff B p) d (c + 1) (zd_ff B p c x)
        rw [e]
        exact q2
    have take : Unit → zd_ff B p c x = (c : Int) → ∃ r : Int32, zv_X10_firstThere_M_41 I J l1 (Int32.ofNat c) = some (some (.int r), (I, J)) ∧ r.toInt = zd_for (zd_ff B p) (d + 1) c x := by
      intro _ e
      obtain ⟨r, q1, q2⟩ := ih (c + 1) (Int32.ofNat c) c (by omega) (zp_o (by omega)) (Or.inr (by omega))
      refine ⟨r, ?_, ?_⟩
      · rw [zq_X10_firstThere_M_41, zq_X10_firstThere_M_43, zp_o1 (by omega)]
        exact q1
      · show r.toInt = zd_for (zd_ff B p) d (c + 1) (zd_ff B p c x)
        rw [e]
        exact q2
    rw [zc_X10_firstThere_M_4 _ _ _ _ zdm_callers, zq_X10_firstThere_M_9, hb.1.1, if_neg hn, zq_X10_firstThere_M_12, if_neg (zp_in (by omega) (by omega)), zp_cl (by omega)]
    rcases hx.1 c (by omega) with ⟨z1, z2, z3⟩ | ⟨z1, z2⟩
    · rw [z2, if_neg (by decide), zq_X10_firstThere_M_21]
      by_cases c2 : x = -1
      · rw [if_pos (Int32.toInt_inj.mp (by rw [hl, zh_m1]; exact c2))]
        exact take () (by unfold zd_ff; rw [if_pos ⟨by omega, Or.inl c2⟩])
      · have hxn : x.toNat < B.1.1 := by omega
        have ex : Int32.toNatClampNeg l1 = x.toNat := zh_cl (by rw [hl]; omega)
        have x61 := hcm x.toNat
        rw [if_neg (fun z => c2 (by rw [← hl, z, zh_m1])), zq_X10_firstThere_M_26, if_neg (zp_in (by omega) (by omega)), if_neg (zh_in (n := 5) (by omega) (by omega)), ex, zp_cl (by omega), (hb.2.1 _ hxn).1, (hb.2.1 c (by omega)).1]
        by_cases c3 : B.2.1 c < B.2.1 x.toNat
        · rw [if_neg (fun z => by have := (zp_le (by omega) (by omega)).mp z; omega)]
          exact take () (by unfold zd_ff; rw [if_pos ⟨by omega, Or.inr c3⟩])
        · rw [if_pos ((zp_le (by omega) (by omega)).mpr (by omega))]
          exact keep () (by unfold zd_ff; rw [if_neg (by omega)])
    · rw [z2, if_pos rfl]
      exact keep () (by unfold zd_ff; rw [if_neg (by omega)])
theorem zdm_ft (hv : zdMv B) (hb : zdMb B I) (hx : zdM B I J p) : ∃ r : Int32, zF_X10_firstThere zW_M [.ref 0] (I, J) = some (some (.int r), (I, J)) ∧ r.toInt = zd_ft B p := by
  obtain ⟨r, q1, q2⟩ := zdm_ft4 hv hb hx B.1.1 0 (-1) (-1) (by omega) zh_m1 (Or.inl rfl)
  exact ⟨r, (zf_X10_firstThere_M _ _).trans ((zq_X10_firstThere_M_0 _ _).trans q1), q2⟩
/-- which moves were done, as far as the day has come: to minute n, and of its own the first k -/
def zdH (B : zdB) (n k : Nat) (I : Nat → Nat → Int32) (dn : Nat → Bool) : Prop := (∀ q, q < B.1.2.2 → (B.2.2.2.2.2.1 q < n ∨ (B.2.2.2.2.2.1 q = n ∧ q < k)) → I 20 q = if dn q = true then 1 else 0) ∧ ∀ q, dn q = true → B.2.2.2.2.2.1 q < n ∨ (B.2.2.2.2.2.1 q = n ∧ q < k)
theorem zdm_mvs (hv : zdMv B) {n : Nat} (hn : n ≤ 60) : ∀ (d k : Nat) (I : Nat → Nat → Int32) (x : zdP), k + d = B.1.2.2 → zdMb B I → zdM B I J x.1 → zdH B n k I x.2 → ∃ N, zv_X10_minute_M_2 I J (Int32.ofNat n) (Int32.ofNat k) = zv_X10_minute_M_92 N J (Int32.ofNat n) (Int32.ofNat 0) ∧ zdM B N J (zd_for (zd_mv B n) d k x).1 ∧ zdH B n B.1.2.2 N (zd_for (zd_mv B n) d k x).2 ∧ ∀ a b, a ≠ 20 → a ≠ 22 → a ≠ 23 → N a b = I a b := by
  obtain ⟨⟨⟨hC, hS, hst, hac, hsa⟩, hA, hE, hcm, ham⟩, hA4, hsc⟩ := id hv
  have c6 : Int32.toNatClampNeg 6 = 6 := by decide
  intro d
  induction d with
  | zero =>
    intro k I x h hb hx hh
    have ek : k = B.1.2.2 := by omega
    refine ⟨I, ?_, hx, by rw [← ek]; exact hh, fun _ _ _ _ _ => rfl⟩
    rw [zq_X10_minute_M_2, if_neg (by decide), c6, hb.1.2.2.1, if_pos ((zp_le (by omega) (by omega)).mpr (by omega)), zq_X10_minute_M_61, if_pos hb.1.2.2.2.2.2, zq_X10_minute_M_90]
    rfl
  | succ d ih =>
    intro k I x h hb hx hh
    obtain ⟨b0, b1, b2⟩ := hb.2.2 k (by omega)
    obtain ⟨i0, i1, i2⟩ := zd_m3 k (by omega)
    have a4 := hac k
    have a5 := hsa k
    have a6 := ham k
    have hnk : ¬ (Int32.ofNat B.1.2.2 : Int32) ≤ Int32.ofNat k := fun z => by have := (zp_le (by omega) (by omega)).mp z; omega
    have go : ∀ (N : Nat → Nat → Int32), (∀ a b, a ≠ 20 → a ≠ 22 → a ≠ 23 → N a b = I a b) → zdM B N J (zd_mv B n k x).1 → zdH B n (k + 1) N (zd_mv B n k x).2 → ∃ N', zv_X10_minute_M_55 N J (Int32.ofNat n) (Int32.ofNat k) = zv_X10_minute_M_92 N' J (Int32.ofNat n) (Int32.ofNat 0) ∧ zdM B N' J (zd_for (zd_mv B n) (d + 1) k x).1 ∧ zdH B n B.1.2.2 N' (zd_for (zd_mv B n) (d + 1) k x).2 ∧ ∀ a b, a ≠ 20 → a ≠ 22 → a ≠ 23 → N' a b = I a b := by
      intro N h1 h2 h3
      obtain ⟨N', r1, r2, r3, r4⟩ := ih (k + 1) N (zd_mv B n k x) (by omega) (zdMb_f hb (fun a b ha => h1 a b (by omega) (by omega) (by omega))) h2 h3
      refine ⟨N', ?_, r2, r3, fun a b q1 q2 q3 => (r4 a b q1 q2 q3).trans (h1 a b q1 q2 q3)⟩
      rw [zq_X10_minute_M_55, zp_o1 (by omega)]
      exact r1
    rw [zq_X10_minute_M_2, if_neg (by decide), c6, hb.1.2.2.1, if_neg hnk, zq_X10_minute_M_13, i2, if_neg (zp_in (by omega) (by omega)), zp_cl (by omega), b2]
    by_cases c1 : B.2.2.2.2.2.1 k = n
    · obtain ⟨N, q1, q2, q3⟩ := zdm_moves hv hb hx a4 a5
      rw [if_pos (by rw [c1]), zq_X10_minute_M_27, i1, i0, if_neg (zp_in (by omega) (by omega)), if_neg (zp_in (by omega) (by omega)), zp_cl (by omega), zp_cl (by omega), b0, b1, zc_X10_minute_M_51 _ _ _ _ _ _ _ q1, zq_X10_minute_M_54, if_neg (zp_in (by omega) (by omega)), zp_cl (by omega)]
      have hnew : x.2 k = false := by
        by_cases z : x.2 k = true
        · rcases hh.2 k z with w | w <;> omega
        · simpa using z
      have e : zd_mv B n k x = if -1 ≤ x.1 (B.2.2.2.1 k) ∧ zd_free B.1.1 x.1 (B.2.2.2.2.1 k) = true then (zd_up x.1 (B.2.2.2.1 k) (B.2.2.2.2.1 k), fun q => if q = k then true else x.2 q) else x := by
        unfold zd_mv
        by_cases c2 : -1 ≤ x.1 (B.2.2.2.1 k) ∧ zd_free B.1.1 x.1 (B.2.2.2.2.1 k) = true
        · rw [if_pos ⟨c1, c2⟩, if_pos c2]
        · rw [if_neg (fun z => c2 z.2), if_neg c2]
      have nar : vp_nar .boolean (if -1 ≤ x.1 (B.2.2.2.1 k) ∧ zd_free B.1.1 x.1 (B.2.2.2.2.1 k) = true then 1 else 0) = if -1 ≤ x.1 (B.2.2.2.1 k) ∧ zd_free B.1.1 x.1 (B.2.2.2.2.1 k) = true then 1 else 0 := by
        by_cases c2 : -1 ≤ x.1 (B.2.2.2.1 k) ∧ zd_free B.1.1 x.1 (B.2.2.2.2.1 k) = true
        · rw [if_pos c2]
          decide
        · rw [if_neg c2]
          decide
      rw [nar]
      refine go _ (fun a b h1 h2 h3 => by rw [ze_wo h1, q3 a b h2 h3]) ?_ ?_
      · have hm : zdM B N J (zd_mv B n k x).1 := by
          rw [e]
          by_cases c2 : -1 ≤ x.1 (B.2.2.2.1 k) ∧ zd_free B.1.1 x.1 (B.2.2.2.2.1 k) = true
          · rw [if_pos c2] at q2 ⊢
            exact q2
          · rw [if_neg c2] at q2 ⊢
            exact q2
        refine ⟨fun c hc => ?_, hm.2.1, hm.2.2.1, zd_gw hm.2.2.2 zd_r20 ?_ ?_⟩
        · rw [ze_wo (by decide), ze_wo (by decide)]
          exact hm.1 c hc
        · show (0 : Int) ≤ _
          split <;> decide
        · show _ ≤ (1 : Int)
          split <;> decide
      · refine ⟨fun q hq hlt => ?_, fun q hq => ?_⟩
        · by_cases c3 : q = k
          · subst c3
            rw [ze_wi, e]
            by_cases c2 : -1 ≤ x.1 (B.2.2.2.1 q) ∧ zd_free B.1.1 x.1 (B.2.2.2.2.1 q) = true
            · rw [if_pos c2, if_pos c2, if_pos (show (if q = q then true else x.2 q) = true from if_pos rfl)]
            · rw [if_neg c2, if_neg c2, hnew, if_neg (by decide)]
          · rw [ze_wj c3, q3 20 q (by decide) (by decide), hh.1 q hq (by omega), e]
            by_cases c2 : -1 ≤ x.1 (B.2.2.2.1 k) ∧ zd_free B.1.1 x.1 (B.2.2.2.2.1 k) = true
            · rw [if_pos c2]
              show _ = if (if q = k then true else x.2 q) = true then _ else _
              rw [if_neg c3]
            · rw [if_neg c2]
        · rw [e] at hq
          by_cases c2 : -1 ≤ x.1 (B.2.2.2.1 k) ∧ zd_free B.1.1 x.1 (B.2.2.2.2.1 k) = true
          · rw [if_pos c2] at hq
            have hq : (if q = k then true else x.2 q) = true := hq
            by_cases c3 : q = k
            · rw [c3]
              exact Or.inr ⟨c1, by omega⟩
            · rw [if_neg c3] at hq
              rcases hh.2 q hq with w | w
              · exact Or.inl w
              · exact Or.inr ⟨w.1, by omega⟩
          · rw [if_neg c2] at hq
            rcases hh.2 q hq with w | w
            · exact Or.inl w
            · exact Or.inr ⟨w.1, by omega⟩
    · have e : zd_mv B n k x = x := by
        unfold zd_mv
        rw [if_neg (fun z => c1 z.1)]
      rw [if_neg (zp_ne (by omega) (by omega) c1)]
      refine go I (fun _ _ _ _ _ => rfl) (by rw [e]; exact hx) ?_
      rw [e]
      refine ⟨fun q hq hlt => hh.1 q hq ?_, fun q hq => ?_⟩
      · rcases hlt with w | w
        · exact Or.inl w
        · refine Or.inr ⟨w.1, ?_⟩
          by_cases c3 : q = k
          · rw [c3] at w
            exact absurd w.1 c1
          · omega
      · rcases hh.2 q hq with w | w
        · exact Or.inl w
        · exact Or.inr ⟨w.1, by omega⟩
theorem zdm_sds (hv : zdMv B) (n : Int32) : ∀ (d c : Nat) (I : Nat → Nat → Int32) (p : Nat → Int), c + d = B.1.1 → zdMb B I → zdM B I J p → ∃ N, zv_X10_minute_M_92 I J n (Int32.ofNat c) = zv_X10_minute_M_132 N J n (Int32.ofNat 0) ∧ zdM B N J (zd_for (zd_sd B) d c p) ∧ zdMf I N := by
  obtain ⟨⟨⟨hC, hS, hst, hac, hsa⟩, hA, hE, hcm, ham⟩, hA4, hsc⟩ := id hv
  intro d
  induction d with
  | zero =>
    intro c I p h hb hx
    refine ⟨I, ?_, hx, zdMf_r⟩
    rw [zc_X10_minute_M_92 _ _ _ _ zdm_callers, zq_X10_minute_M_97, hb.1.1, if_pos ((zp_le (by omega) (by omega)).mpr (by omega)), zq_X10_minute_M_130]
    rfl
  | succ d ih =>
    intro c I p h hb hx
    have hn : ¬ (Int32.ofNat B.1.1 : Int32) ≤ Int32.ofNat c := fun z => by have := (zp_le (by omega) (by omega)).mp z; omega
    rw [zc_X10_minute_M_92 _ _ _ _ zdm_callers, zq_X10_minute_M_97, hb.1.1, if_neg hn, zq_X10_minute_M_100, if_neg (zp_in (by omega) (by omega)), zp_cl (by omega)]
    show ∃ N, _ ∧ zdM B N J (zd_for (zd_sd B) d (c + 1) (zd_sd B c p)) ∧ _
    have stay : p c ≠ -1 → ∃ N, zv_X10_minute_M_124 I J n (Int32.ofNat c) = zv_X10_minute_M_132 N J n (Int32.ofNat 0) ∧ zdM B N J (zd_for (zd_sd B) d (c + 1) (zd_sd B c p)) ∧ zdMf I N := by
      intro c1
      have es : zd_sd B c p = p := if_neg c1
      obtain ⟨K, r1, r2, r3⟩ := ih (c + 1) I (zd_sd B c p) (by omega) hb (by rw [es]; exact hx)
      refine ⟨K, ?_, r2, r3⟩
      rw [zq_X10_minute_M_124, zp_o1 (by omega)]
      exact r1
    rcases hx.1 c (by omega) with ⟨z1, z2, z3⟩ | ⟨z1, z2⟩
    · rw [z2, if_neg (by decide), zq_X10_minute_M_109, if_neg (zp_in (by omega) (by omega)), zp_cl (by omega)]
      by_cases c1 : p c = -1
      · obtain ⟨N, q1, q2, q3⟩ := zdm_sit hv hb hx (show c < B.1.1 by omega) c1
        have es : zd_sd B c p = zd_sit B.1.1 B.1.2.1 p c B.1.2.1 (B.2.2.1 c) := if_pos c1
        obtain ⟨K, r1, r2, r3⟩ := ih (c + 1) N (zd_sd B c p) (by omega) (zdMb_f hb (fun a b ha => q3 a b (by omega) (by omega))) (by rw [es]; exact q2)
        refine ⟨K, ?_, r2, zdMf_t q3 r3⟩
        rw [if_pos (Int32.toInt_inj.mp (by rw [z3, zh_m1]; exact c1)), zc_X10_minute_M_119 _ _ _ _ q1, zq_X10_minute_M_124, zp_o1 (by omega)]
        exact r1
      · rw [if_neg (fun z => c1 (by rw [← z3, z, zh_m1]))]
        exact stay c1
    · rw [z2, if_pos rfl]
      exact stay (by omega)
theorem zd_bit0 : ∀ c, c < 5 → (if (((0 : Int32) >>> (Int32.ofNat c &&& 31)) &&& 1) = 1 then (1 : Int32) else 0) = 0 := by decide +kernel
theorem zdm_cms (hv : zdMv B) {n : Nat} (hn : n ≤ 60) : ∀ (d c : Nat) (I : Nat → Nat → Int32) (p : Nat → Int), c + d = B.1.1 → zdMb B I → zdM B I J p → ∃ N, zv_X10_minute_M_132 I J (Int32.ofNat n) (Int32.ofNat c) = zv_X10_minute_M_203 N J (Int32.ofNat n) (Int32.ofNat 0) ∧ zdM B N J (zd_for (zd_cm B n) d c p) ∧ ∀ a b, (a < 21 ∨ 24 < a) → N a b = I a b := by
  obtain ⟨⟨⟨hC, hS, hst, hac, hsa⟩, hA, hE, hcm, ham⟩, hA4, hsc⟩ := id hv
  have nar1 : vp_nar .boolean 1 = 1 := by decide
  intro d
  induction d with
  | zero =>
    intro c I p h hb hx
    refine ⟨I, ?_, hx, fun _ _ _ => rfl⟩
    rw [zc_X10_minute_M_132 _ _ _ _ zdm_callers, zq_X10_minute_M_137, hb.1.1, if_pos ((zp_le (by omega) (by omega)).mpr (by omega)), zq_X10_minute_M_201]
    rfl
  | succ d ih =>
    intro c I p h hb hx
    have c61 := hcm c
    have hnc : ¬ (Int32.ofNat B.1.1 : Int32) ≤ Int32.ofNat c := fun z => by have := (zp_le (by omega) (by omega)).mp z; omega
    have hbit : zF_X10_isBit zW_M [.int (I 0 24), .int (Int32.ofNat c)] (I, J) = some (some (.int 0), (I, J)) := by rw [zh_isBitV, hb.1.2.2.2.2.1, zd_bit0 c (by omega)]
    rw [zc_X10_minute_M_132 _ _ _ _ zdm_callers, zq_X10_minute_M_137, hb.1.1, if_neg hnc, zc_X10_minute_M_140 _ _ _ _ hbit, zq_X10_minute_M_148, if_pos rfl, zq_X10_minute_M_151, if_neg (zp_in (by omega) (by omega)), zp_cl (by omega), (hb.2.1 c (by omega)).1]
    show ∃ N, _ ∧ zdM B N J (zd_for (zd_cm B n) d (c + 1) (zd_cm B n c p)) ∧ _
    by_cases c1 : B.2.1 c = n
    · rw [if_pos (by rw [c1]), zq_X10_minute_M_164, if_neg (zp_in (by omega) (by omega)), if_neg (zp_in (by omega) (by omega)), if_neg (zp_in (by omega) (by omega)), if_neg (zp_in (by omega) (by omega)), zp_cl (by omega), nar1]
      have k13 : zm_w I 24 c 1 13 c = I 13 c := ze_wo (by decide)
      rw [k13]
      have g13 := zh_ga hx.2.2.2 zd_r13 c
      have x0 : zdM B (zm_w (zm_w (zm_w I 24 c 1) 21 c (I 13 c)) 22 c (-1)) J (zd_up p c (-1)) := by
        refine ⟨fun q hq => ?_, fun q hq => ?_, fun q => ?_, zd_gw (zd_gw (zd_gw hx.2.2.2 zd_r24 (by decide) (by decide)) zd_r21 g13.1 g13.2) zd_r22 (by decide) (by decide)⟩
        · rw [ze_wo (by decide), ze_wo (by decide)]
          by_cases e : q = c
          · subst e
            rw [ze_wi, ze_wi, zd_up_i]
            exact Or.inl ⟨by decide, rfl, zh_m1⟩
          · rw [ze_wj e, ze_wj e, ze_wo (by decide), ze_wo (by decide), zd_up_o e]
            exact hx.1 q hq
        · rw [zd_up_o (by omega)]
          exact hx.2.1 q hq
        · by_cases e : q = c
          · rw [e, zd_up_i]
            decide
          · rw [zd_up_o e]
            exact hx.2.2.1 q
      have f0 : ∀ a b, (a < 21 ∨ 24 < a) → zm_w (zm_w (zm_w I 24 c 1) 21 c (I 13 c)) 22 c (-1) a b = I a b := fun a b ha => by rw [ze_wo (by omega), ze_wo (by omega), ze_wo (by omega)]
      have b0 := zdMb_f hb (fun a b ha => f0 a b (by omega))
      generalize zm_w (zm_w (zm_w I 24 c 1) 21 c (I 13 c)) 22 c (-1) = I0 at x0 f0 b0
      obtain ⟨N, q1, q2, q3⟩ := zdm_sit hv b0 x0 (show c < B.1.1 by omega) zd_up_i
      have es : zd_cm B n c p = zd_sit B.1.1 B.1.2.1 (zd_up p c (-1)) c B.1.2.1 (B.2.2.1 c) := if_pos c1
      obtain ⟨K, r1, r2, r3⟩ := ih (c + 1) N (zd_cm B n c p) (by omega) (zdMb_f b0 (fun a b ha => q3 a b (by omega) (by omega))) (by rw [es]; exact q2)
      refine ⟨K, ?_, r2, fun a b ha => (r3 a b ha).trans ((q3 a b (by omega) (by omega)).trans (f0 a b ha))⟩
      rw [zc_X10_minute_M_190 _ _ _ _ q1, zq_X10_minute_M_195, zp_o1 (by omega)]
      exact r1
    · have es : zd_cm B n c p = p := if_neg c1
      obtain ⟨K, r1, r2, r3⟩ := ih (c + 1) I (zd_cm B n c p) (by omega) hb (by rw [es]; exact hx)
      refine ⟨K, ?_, r2, r3⟩
      rw [if_neg (zp_ne (by omega) (by omega) c1), zq_X10_minute_M_161, zq_X10_minute_M_195, zp_o1 (by omega)]
      exact r1
end ZDD
end
section
/-! A DAY OF THE REFERENCE: what it writes down, a minute's call, ages, a day run -/
theorem zd_61 : ∀ c, c < 5 → ∀ m, m < 61 → (61 * Int32.ofNat c + Int32.ofNat m : Int32) = Int32.ofNat (61 * c + m) := by decide +kernel
theorem zd_remE : ∀ n, n < 61 → ∀ E, E < 31 → 1 ≤ E → ((Int32.ofNat n - Int32.ofNat n / Int32.ofNat E * Int32.ofNat E : Int32) = 0 ↔ n % E = 0) := by decide +kernel
theorem zd_shs : ∀ m, m < 61 → ((Int32.toInt64 (Int32.ofNat m) &&& 63).toBitVec.smod (64 : BitVec 64)).toNat = m := by decide +kernel
theorem zd_tests (x : Int64) {m : Nat} (hm : m < 61) : (lg_cmp ((x >>> (Int32.toInt64 (Int32.ofNat m) &&& 63)) &&& 1) 0 = 0) ↔ zd_bit x m = false := by
  rw [lg_cmp_eq, ← Int64.toBitVec_inj, Int64.toBitVec_and, Int64.toBitVec_shiftRight]
  have := zd_and1 (x.toBitVec.sshiftRight' ((Int32.toInt64 (Int32.ofNat m) &&& 63).toBitVec.smod (64 : BitVec 64)))
  rw [BitVec.getLsbD_sshiftRight', zd_shs m hm, if_pos (by omega), Nat.add_zero, show (!decide (64 ≤ 0)) = true by decide, Bool.true_and] at this
  exact this
section ZDE
variable {B : zdB} {I N : Nat → Nat → Int32} {J : Nat → Nat → Int64} {p : Nat → Int}
theorem zdM_f (h : zdM B I J p) (h24 : ∀ c, c < 5 → N 24 c = I 24 c) (h22 : ∀ c, c < 5 → N 22 c = I 22 c) (hG : zt_Gs zo_g22 (N, J)) : zdM B N J p := by
  refine ⟨fun c hc => ?_, h.2.1, h.2.2.1, hG⟩
  rw [h24 c hc, h22 c hc]
  exact h.1 c hc
/-- what is written down of minute m -/
def zdK (p : Nat → Int) (a s : Int32) (c : Nat) : Prop := s.toInt = (if 0 ≤ p c then p c else -1) ∧ (a.toInt = -1 ↔ p c < -1)
theorem zdm_note (hv : zdMv B) {n : Nat} (hn : n ≤ 60) : ∀ (d c : Nat) (I : Nat → Nat → Int32), c + d = B.1.1 → zdMb B I → zdM B I J p → ∃ N, zv_X10_minute_M_203 I J (Int32.ofNat n) (Int32.ofNat c) = zv_X10_minute_M_277 N J (Int32.ofNat n) (Int32.ofNat B.1.1) ∧ zdM B N J p ∧ (∀ q, c ≤ q → q < B.1.1 → zdK p (N 16 (61 * q + n)) (N 17 (61 * q + n)) q) ∧ (∀ q m, q < 5 → m ≤ 60 → (m ≠ n ∨ q < c) → N 16 (61 * q + m) = I 16 (61 * q + m) ∧ N 17 (61 * q + m) = I 17 (61 * q + m)) ∧ ∀ a b, a ≠ 16 → a ≠ 17 → N a b = I a b := by
  have hC := hv.1.1.1
  intro d
  induction d with
  | zero =>
    intro c I h hb hx
    have ec : c = B.1.1 := by omega
    refine ⟨I, ?_, hx, fun q h1 h2 => by omega, fun _ _ _ _ _ => ⟨rfl, rfl⟩, fun _ _ _ _ => rfl⟩
    rw [zc_X10_minute_M_203 _ _ _ _ zdm_callers, zq_X10_minute_M_208, hb.1.1, if_pos ((zp_le (by omega) (by omega)).mpr (by omega)), ec]
  | succ d ih =>
    intro c I h hb hx
    have hnc : ¬ (Int32.ofNat B.1.1 : Int32) ≤ Int32.ofNat c := fun z => by have := (zp_le (by omega) (by omega)).mp z; omega
    have ix := zd_61 c (by omega) n (by omega)
    have g21 := zh_ga hx.2.2.2 zd_r21 c
    have g21 : 0 ≤ (I 21 c).toInt ∧ (I 21 c).toInt ≤ 99 := g21
    have r := hx.2.2.1 c
    have go : ∀ (a s : Int32), zdK p a s c → (-1 ≤ a.toInt ∧ a.toInt ≤ 99) → (-1 ≤ s.toInt ∧ s.toInt ≤ 5) → ∃ N, zv_X10_minute_M_203 (zm_w (zm_w I 16 (61 * c + n) a) 17 (61 * c + n) s) J (Int32.ofNat n) (Int32.ofNat (c + 1)) = zv_X10_minute_M_277 N J (Int32.ofNat n) (Int32.ofNat B.1.1) ∧ zdM B N J p ∧ (∀ q, c ≤ q → q < B.1.1 → zdK p (N 16 (61 * q + n)) (N 17 (61 * q + n)) q) ∧ (∀ q m, q < 5 → m ≤ 60 → (m ≠ n ∨ q < c) → N 16 (61 * q + m) = I 16 (61 * q + m) ∧ N 17 (61 * q + m) = I 17 (61 * q + m)) ∧ ∀ a b, a ≠ 16 → a ≠ 17 → N a b = I a b := by
      intro a s hk ha hs
      have f0 : ∀ x y, x ≠ 16 → x ≠ 17 → zm_w (zm_w I 16 (61 * c + n) a) 17 (61 * c + n) s x y = I x y := fun x y h1 h2 => by rw [ze_wo h2, ze_wo h1]
      obtain ⟨N, q1, q2, q3, q4, q5⟩ := ih (c + 1) (zm_w (zm_w I 16 (61 * c + n) a) 17 (61 * c + n) s) (by omega) (zdMb_f hb (fun x y hxy => f0 x y (by omega) (by omega))) (zdM_f hx (fun q _ => f0 24 q (by decide) (by decide)) (fun q _ => f0 22 q (by decide) (by decide)) (zd_gw (zd_gw hx.2.2.2 zd_r16 ha.1 ha.2) zd_r17 hs.1 hs.2))
      refine ⟨N, q1, q2, fun q h1 h2 => ?_, fun q m hq hm hne => ?_, fun x y h1 h2 => (q5 x y h1 h2).trans (f0 x y h1 h2)⟩
      · by_cases e : q = c
        · have w := q4 q n (by omega) hn (Or.inr (by omega))
          rw [w.1, w.2, e, ze_wo (by decide), ze_wi, ze_wi]
          exact hk
        · exact q3 q (by omega) h2
      · have w := q4 q m hq hm (by omega)
        rw [w.1, w.2, ze_wo (by decide), ze_wj (by omega), ze_wj (by omega), ze_wo (by decide)]
        exact ⟨rfl, rfl⟩
    rw [zc_X10_minute_M_203 _ _ _ _ zdm_callers, zq_X10_minute_M_208, hb.1.1, if_neg hnc, zq_X10_minute_M_211, if_neg (zp_in (by omega) (by omega)), zp_cl (by omega), ix]
    rcases hx.1 c (by omega) with ⟨z1, z2, z3⟩ | ⟨z1, z2⟩
    · have k24 : ∀ v, zm_w I 16 (61 * c + n) v 24 c = 1 := fun v => (ze_wo (by decide)).trans z2
      have k22 : ∀ v, zm_w I 16 (61 * c + n) v 22 c = I 22 c := fun v => ze_wo (by decide)
      rw [z2, if_neg (by decide), zq_X10_minute_M_230, if_neg (zp_in (by omega) (by omega)), zp_cl (by omega), zq_X10_minute_M_240, if_neg (zp_in (by omega) (by omega)), if_neg (zp_in (by omega) (by omega)), zp_cl (by omega), zp_cl (by omega), k24, if_neg (by decide), ix, zq_X10_minute_M_260, if_neg (zp_in (by omega) (by omega)), zp_cl (by omega), k22, zq_X10_minute_M_270, if_neg (zp_in (by omega) (by omega)), zp_cl (by omega), zp_o1 (by omega)]
      refine go (I 21 c) (I 22 c) ⟨?_, ?_⟩ ⟨by omega, by omega⟩ ⟨by omega, by omega⟩
      · rw [z3]
        by_cases e : 0 ≤ p c
        · rw [if_pos e]
        · rw [if_neg e]
          omega
      · constructor
        · intro z
          omega
        · intro z
          omega
    · have k24 : ∀ v, zm_w I 16 (61 * c + n) v 24 c = 0 := fun v => (ze_wo (by decide)).trans z2
      rw [z2, if_pos rfl, zq_X10_minute_M_239, zq_X10_minute_M_240, if_neg (zp_in (by omega) (by omega)), if_neg (zp_in (by omega) (by omega)), zp_cl (by omega), zp_cl (by omega), k24, if_pos rfl, ix, zq_X10_minute_M_269, zq_X10_minute_M_270, if_neg (zp_in (by omega) (by omega)), zp_cl (by omega), zp_o1 (by omega)]
      refine go (-1) (-1) ⟨?_, ?_⟩ (by decide) (by decide)
      · rw [if_neg (by omega)]
        decide
      · rw [zh_m1]
        exact ⟨fun _ => z1, fun _ => rfl⟩
/-- a minute's call -/
theorem zdm_call (hv : zdMv B) {n : Nat} (hn : n ≤ 60) (l2 : Int32) (hb : zdMb B I) (hx : zdM B I J p) {w : Nat → Int} (hw : ∀ q, q < 5 → (I 18 q).toInt = w q) : ∃ N l2', zv_X10_minute_M_277 I J (Int32.ofNat n) l2 = zv_X10_minute_M_346 N J (Int32.ofNat n) l2' ∧ zdM B N J (zd_fin B (zd_bit (J 0 28)) n (p, w)).1 ∧ (∀ q, q < 5 → (N 18 q).toInt = (zd_fin B (zd_bit (J 0 28)) n (p, w)).2 q) ∧ ∀ a b, a ≠ 18 → a ≠ 19 → a ≠ 24 → N a b = I a b := by
  obtain ⟨⟨⟨hC, hS, hst, hac, hsa⟩, hA, hE, hcm, ham⟩, hA4, hsc⟩ := id hv
  obtain ⟨t0, t1, t2⟩ := zd_c0 n (by omega) B.2.2.2.2.2.2 (by omega) hE.1
  have stay : ¬ (0 < n ∧ n % B.2.2.2.2.2.2 = 0 ∧ zd_bit (J 0 28) (n / B.2.2.2.2.2.2 - 1) = false) → ∀ l2', ∃ N l3', zv_X10_minute_M_346 I J (Int32.ofNat n) l2' = zv_X10_minute_M_346 N J (Int32.ofNat n) l3' ∧ zdM B N J (zd_fin B (zd_bit (J 0 28)) n (p, w)).1 ∧ (∀ q, q < 5 → (N 18 q).toInt = (zd_fin B (zd_bit (J 0 28)) n (p, w)).2 q) ∧ ∀ a b, a ≠ 18 → a ≠ 19 → a ≠ 24 → N a b = I a b := fun hc l2' => by
    have e : zd_fin B (zd_bit (J 0 28)) n (p, w) = (p, w) := if_neg hc
    rw [e]
    exact ⟨I, l2', rfl, hx, hw, fun _ _ _ _ _ => rfl⟩
  have z0 : ¬ (Int32.ofNat B.2.2.2.2.2.2 : Int32) = 0 := fun z => by
    have : (Int32.ofNat B.2.2.2.2.2.2).toInt = 0 := by rw [z, ze_i0]
    rw [zp_o (by omega)] at this
    omega
  rw [zq_X10_minute_M_277]
  by_cases c0 : n = 0
  · rw [if_pos (by rw [c0]; decide)]
    exact stay (by omega) l2
  · have c9 : ¬ (Int32.ofNat n : Int32) ≤ 0 := fun q => by
      rw [ze_le, zp_o (by omega), ze_i0] at q
      omega
    rw [if_neg c9, zq_X10_minute_M_281, hb.1.2.2.2.1, if_neg z0]
    by_cases c1 : n % B.2.2.2.2.2.2 = 0
    · have hq1 : 1 ≤ n / B.2.2.2.2.2.2 := by
        by_cases q : n / B.2.2.2.2.2.2 = 0
        · exact absurd ⟨by omega, c1⟩ (t0 q)
        · exact Nat.pos_of_ne_zero q
      rw [if_pos ((zd_remE n (by omega) _ (by omega) hE.1).mpr c1), zq_X10_minute_M_290, hb.1.2.2.2.1, if_neg z0, zd_divE n (by omega) _ (by omega) hE.1, zd_pre _ (by omega) hq1]
      by_cases c2 : zd_bit (J 0 28) (n / B.2.2.2.2.2.2 - 1) = false
      · obtain ⟨r, q1, q2⟩ := zdm_ft hv hb hx
        have hc : 0 < n ∧ n % B.2.2.2.2.2.2 = 0 ∧ zd_bit (J 0 28) (n / B.2.2.2.2.2.2 - 1) = false := ⟨by omega, c1, c2⟩
        rw [if_pos ((zd_tests _ (by omega)).mpr c2), zc_X10_minute_M_310 _ _ _ _ q1, zq_X10_minute_M_314]
        by_cases c3 : zd_ft B p = -1
        · have er : r = -1 := Int32.toInt_inj.mp (by rw [q2, zh_m1]; exact c3)
          have e : zd_fin B (zd_bit (J 0 28)) n (p, w) = (p, w) := by
            unfold zd_fin
            rw [if_pos hc, if_pos c3]
          rw [if_pos er, e]
          exact ⟨I, r, rfl, hx, hw, fun _ _ _ _ _ => rfl⟩
        · rcases zd_ft_b B p with z | ⟨z1, z2, z3⟩
          · exact absurd z c3
          · generalize hf : (zd_ft B p).toNat = f at z3
            have hf5 : f < B.1.1 := by omega
            have er : r = Int32.ofNat f := Int32.toInt_inj.mp (by rw [q2, zp_o (by omega)]; omega)
            have hne : ¬ (Int32.ofNat f : Int32) = -1 := fun z => by
              have : (Int32.ofNat f).toInt = -1 := by rw [z, zh_m1]
              rw [zp_o (by omega)] at this
              omega
            have e : zd_fin B (zd_bit (J 0 28)) n (p, w) = (zd_up p f (-3), zd_up w f n) := by
              unfold zd_fin
              rw [if_pos hc, if_neg c3, hf]
            have nar0 : vp_nar .boolean 0 = 0 := by decide
            have g21 : 0 ≤ (I 21 f).toInt ∧ (I 21 f).toInt ≤ 99 := zh_ga hx.2.2.2 zd_r21 f
            have k21 : zm_w I 18 f (Int32.ofNat n) 21 f = I 21 f := ze_wo (by decide)
            rw [er, if_neg hne, zq_X10_minute_M_320, if_neg (zp_in (by omega) (by omega)), if_neg (zp_in (by omega) (by omega)), if_neg (zp_in (by omega) (by omega)), if_neg (zp_in (by omega) (by omega)), zp_cl (by omega), nar0, k21, e]
            refine ⟨_, Int32.ofNat f, rfl, ⟨fun q hq => ?_, fun q hq => ?_, fun q => ?_, ?_⟩, fun q hq => ?_, fun a b h1 h2 h3 => by rw [ze_wo h3, ze_wo h2, ze_wo h1]⟩
            · dsimp only
              by_cases e1 : q = f
              · rw [e1, ze_wi, zd_up_i]
                exact Or.inr ⟨by decide, rfl⟩
              · rw [ze_wj e1, ze_wo (by decide), ze_wo (by decide), ze_wo (by decide), ze_wo (by decide), ze_wo (by decide), zd_up_o e1]
                exact hx.1 q hq
            · show zd_up p f (-3) q = -2
              rw [zd_up_o (by omega)]
              exact hx.2.1 q hq
            · show -3 ≤ zd_up p f (-3) q ∧ zd_up p f (-3) q ≤ 5
              by_cases e1 : q = f
              · rw [e1, zd_up_i]
                decide
              · rw [zd_up_o e1]
                exact hx.2.2.1 q
            · exact zd_gw (zd_gw (zd_gw hx.2.2.2 zd_r18 (by rw [zp_o (by omega)]; show (-1 : Int) ≤ _; omega) (by rw [zp_o (by omega)]; show _ ≤ (60 : Int); omega)) zd_r19 g21.1 g21.2) zd_r24 (by decide) (by decide)
            · show _ = zd_up w f n q
              rw [ze_wo (by decide), ze_wo (by decide)]
              by_cases e1 : q = f
              · rw [e1, ze_wi, zd_up_i, zp_o (by omega)]
              · rw [ze_wj e1, zd_up_o e1]
                exact hw q hq
      · rw [if_neg (fun z => c2 ((zd_tests _ (by omega)).mp z))]
        exact stay (fun z => c2 z.2.2) l2
    · rw [if_neg (fun z => c1 ((zd_remE n (by omega) _ (by omega) hE.1).mp z))]
      exact stay (fun z => c1 z.2.1) l2
/-- older answers, and touches nothing -/
theorem zdm_older (hv : zdMv B) (hb : zdMb B I) (hx : zdM B I J p) {c : Nat} (hc : c < B.1.1) (hp : 0 ≤ p c) : ∃ r : Int32, zF_X10_older zW_M [.ref 0, .int (Int32.ofNat c)] (I, J) = some (some (.int r), (I, J)) ∧ 0 ≤ r.toInt ∧ r.toInt ≤ 99 := by
  have hC := hv.1.1.1
  have h22 : (I 22 c).toInt = p c := by
    rcases hx.1 c (by omega) with ⟨z1, z2, z3⟩ | ⟨z1, z2⟩
    · exact z3
    · omega
  have r5 := hx.2.2.1 c
  have h75 : (I 7 5).toInt = B.1.1 := by rw [hb.1.1, zp_o (by omega)]
  have hcl : Int32.toNatClampNeg (Int32.ofNat c) = c := zp_cl (by omega)
  obtain ⟨v, ⟨N, K⟩, q1, q2, q3, o, q4, q5⟩ := zp_get (w0 := zW_M) (G := zo_g22) (zi_437 0 zo_hd) rfl rfl (as := [.ref 0, .int (Int32.ofNat c)]) (M := (I, J)) (zq_s1 zq_r0 (zq_s1 (zd_i (by omega) (by show (0 : Int) ≤ _; omega) (by show _ ≤ (4 : Int); omega)) zq_s0)) (zq_ca ⟨by show (1 : Int) ≤ (I 7 5).toInt; omega, by show (I 7 5).toInt ≤ (5 : Int); omega⟩ (zq_ca ⟨Int32.ofNat c, rfl, by show (0 : Int) ≤ (I 22 (Int32.toNatClampNeg (Int32.ofNat c))).toInt; rw [hcl, h22]; exact hp, by show (I 22 (Int32.toNatClampNeg (Int32.ofNat c))).toInt ≤ (5 : Int); rw [hcl, h22]; exact r5.2⟩ zh_no)) hx.2.2.2
  have eN : N = I := by
    funext a b
    exact (q3 a b rfl).1
  have eK : K = J := by
    funext a b
    exact (q3 a b rfl).2
  subst eN
  subst eK
  have hm : o = (some (zj (.ofNat 0) (.ofNat 99)), [], [((1, 7, 5), .ofNat 1, .ofNat 5)], []) ∨ o = (some (zj (.ofNat 0) (.ofNat 0)), [], [((1, 7, 5), .ofNat 1, .ofNat 5)], []) := by
    rcases List.mem_cons.mp q4 with h | h
    · exact Or.inl h
    · exact Or.inr (List.mem_singleton.mp h)
  rcases hm with rfl | rfl
  · obtain ⟨u, rfl, x, rfl, hr, -⟩ := q5.1
    exact ⟨x, q1, hr.1, hr.2.1⟩
  · obtain ⟨u, rfl, x, rfl, hr, -⟩ := q5.1
    have h0 : x.toInt ≤ 0 := hr.2.1
    exact ⟨x, q1, hr.1, by omega⟩
theorem zdm_olds (hv : zdMv B) (n : Int32) : ∀ (d c : Nat) (I : Nat → Nat → Int32), c + d = B.1.1 → zdMb B I → zdM B I J p → ∃ N, zv_X10_minute_M_348 I J n (Int32.ofNat c) = zv_X10_minute_M_394 N J n (Int32.ofNat 0) ∧ zdM B N J p ∧ ∀ a b, a ≠ 25 → N a b = I a b := by
  have hC := hv.1.1.1
  intro d
  induction d with
  | zero =>
    intro c I h hb hx
    refine ⟨I, ?_, hx, fun _ _ _ => rfl⟩
    rw [zc_X10_minute_M_348 _ _ _ _ zdm_callers, zq_X10_minute_M_353, hb.1.1, if_pos ((zp_le (by omega) (by omega)).mpr (by omega)), zq_X10_minute_M_392]
    rfl
  | succ d ih =>
    intro c I h hb hx
    have hnc : ¬ (Int32.ofNat B.1.1 : Int32) ≤ Int32.ofNat c := fun z => by have := (zp_le (by omega) (by omega)).mp z; omega
    have next : ∃ N, zv_X10_minute_M_386 I J n (Int32.ofNat c) = zv_X10_minute_M_394 N J n (Int32.ofNat 0) ∧ zdM B N J p ∧ ∀ a b, a ≠ 25 → N a b = I a b := by
      obtain ⟨N, q1, q2, q3⟩ := ih (c + 1) I (by omega) hb hx
      refine ⟨N, ?_, q2, q3⟩
      rw [zq_X10_minute_M_386, zp_o1 (by omega)]
      exact q1
    rw [zc_X10_minute_M_348 _ _ _ _ zdm_callers, zq_X10_minute_M_353, hb.1.1, if_neg hnc, zq_X10_minute_M_356, if_neg (zp_in (by omega) (by omega)), zp_cl (by omega)]
    rcases hx.1 c (by omega) with ⟨z1, z2, z3⟩ | ⟨z1, z2⟩
    · rw [z2, if_neg (by decide), zq_X10_minute_M_365, if_neg (zp_in (by omega) (by omega)), zp_cl (by omega)]
      by_cases c1 : p c = -1
      · rw [if_pos (Int32.toInt_inj.mp (by rw [z3, zh_m1]; exact c1))]
        exact next
      · obtain ⟨r, r1, r2, r3⟩ := zdm_older hv hb hx (show c < B.1.1 by omega) (by omega)
        rw [if_neg (fun z => c1 (by rw [← z3, z, zh_m1])), zc_X10_minute_M_375 _ _ _ _ r1, zq_X10_minute_M_385, if_neg (zp_in (by omega) (by omega)), zp_cl (by omega), zq_X10_minute_M_386, zp_o1 (by omega)]
        have f0 : ∀ x y, x ≠ 25 → zm_w I 25 c r x y = I x y := fun x y h1 => ze_wo h1
        obtain ⟨N, q1, q2, q3⟩ := ih (c + 1) (zm_w I 25 c r) (by omega) (zdMb_f hb (fun x y hxy => f0 x y (by omega))) (zdM_f hx (fun q _ => f0 24 q (by decide)) (fun q _ => f0 22 q (by decide)) (zd_gw hx.2.2.2 zd_r25 r2 r3))
        exact ⟨N, q1, q2, fun a b ha => (q3 a b ha).trans (f0 a b ha)⟩
    · rw [z2, if_pos rfl]
      exact next
theorem zdm_ages (hv : zdMv B) (n : Int32) : ∀ (d c : Nat) (I : Nat → Nat → Int32), c + d = B.1.1 → zdMb B I → zdM B I J p → ∃ N, zv_X10_minute_M_394 I J n (Int32.ofNat c) = some (none, (N, J)) ∧ zdM B N J p ∧ ∀ a b, a ≠ 21 → a ≠ 23 → N a b = I a b := by
  have hC := hv.1.1.1
  intro d
  induction d with
  | zero =>
    intro c I h hb hx
    refine ⟨I, ?_, hx, fun _ _ _ _ => rfl⟩
    rw [zc_X10_minute_M_394 _ _ _ _ zdm_callers, zq_X10_minute_M_399, hb.1.1, if_pos ((zp_le (by omega) (by omega)).mpr (by omega)), zq_X10_minute_M_452]
  | succ d ih =>
    intro c I h hb hx
    have hnc : ¬ (Int32.ofNat B.1.1 : Int32) ≤ Int32.ofNat c := fun z => by have := (zp_le (by omega) (by omega)).mp z; omega
    have next : ∃ N, zv_X10_minute_M_446 I J n (Int32.ofNat c) = some (none, (N, J)) ∧ zdM B N J p ∧ ∀ a b, a ≠ 21 → a ≠ 23 → N a b = I a b := by
      obtain ⟨N, q1, q2, q3⟩ := ih (c + 1) I (by omega) hb hx
      refine ⟨N, ?_, q2, q3⟩
      rw [zq_X10_minute_M_446, zp_o1 (by omega)]
      exact q1
    rw [zc_X10_minute_M_394 _ _ _ _ zdm_callers, zq_X10_minute_M_399, hb.1.1, if_neg hnc, zq_X10_minute_M_402, if_neg (zp_in (by omega) (by omega)), zp_cl (by omega)]
    rcases hx.1 c (by omega) with ⟨z1, z2, z3⟩ | ⟨z1, z2⟩
    · rw [z2, if_neg (by decide), zq_X10_minute_M_411, if_neg (zp_in (by omega) (by omega)), zp_cl (by omega)]
      by_cases c1 : p c = -1
      · rw [if_pos (Int32.toInt_inj.mp (by rw [z3, zh_m1]; exact c1)), zq_X10_minute_M_421]
        exact next
      · have g25 : 0 ≤ (I 25 c).toInt ∧ (I 25 c).toInt ≤ 99 := zh_ga hx.2.2.2 zd_r25 c
        have w23 := zt_rgI ((zm_w I 21 c (I 25 c)) 23 c + 1)
        rw [if_neg (fun z => c1 (by rw [← z3, z, zh_m1])), zq_X10_minute_M_424, if_neg (zp_in (by omega) (by omega)), if_neg (zp_in (by omega) (by omega)), if_neg (zp_in (by omega) (by omega)), if_neg (zp_in (by omega) (by omega)), zp_cl (by omega), zq_X10_minute_M_446, zp_o1 (by omega)]
        generalize (zm_w I 21 c (I 25 c)) 23 c + 1 = y at w23
        have f0 : ∀ a b, a ≠ 21 → a ≠ 23 → zm_w (zm_w I 21 c (I 25 c)) 23 c y a b = I a b := fun a b h1 h2 => by rw [ze_wo h2, ze_wo h1]
        obtain ⟨N, q1, q2, q3⟩ := ih (c + 1) (zm_w (zm_w I 21 c (I 25 c)) 23 c y) (by omega) (zdMb_f hb (fun a b hab => f0 a b (by omega) (by omega))) (zdM_f hx (fun q _ => f0 24 q (by decide) (by decide)) (fun q _ => f0 22 q (by decide) (by decide)) (zd_gw (zd_gw hx.2.2.2 zd_r21 g25.1 g25.2) zd_r23 w23.1 w23.2))
        exact ⟨N, q1, q2, fun a b h1 h2 => (q3 a b h1 h2).trans (f0 a b h1 h2)⟩
    · rw [z2, if_pos rfl]
      exact next
/-- what holds of the reference's day before minute n -/
def zdT (B : zdB) (ms : Nat → Bool) (n : Nat) (I : Nat → Nat → Int32) (J : Nat → Nat → Int64) : Prop := zdMb B I ∧ zdM B I J (zd_st B ms n).1 ∧ (∀ q, q < 5 → (I 18 q).toInt = (zd_st B ms n).2.1 q) ∧ zdH B n 0 I (zd_st B ms n).2.2 ∧ ∀ m, m < n → ∀ q, q < B.1.1 → zdK (zd_pl B ms m) (I 16 (61 * q + m)) (I 17 (61 * q + m)) q
theorem zdT_min (hv : zdMv B) {n : Nat} (hn : n ≤ 60) (h : zdT B (zd_bit (J 0 28)) n I J) : ∃ N, zF_X10_minute zW_M [.ref 0, .int (Int32.ofNat n)] (I, J) = some (none, (N, J)) ∧ zdT B (zd_bit (J 0 28)) (n + 1) N J ∧ ∀ a b, (a < 16 ∨ 25 < a) → N a b = I a b := by
  have hC := hv.1.1.1
  obtain ⟨h1, h2, h3, h4, h5⟩ := h
  generalize hz : zd_st B (zd_bit (J 0 28)) n = z at h2 h3 h4
  obtain ⟨N1, a1, a2, a3, a4⟩ := zdm_mvs (J := J) hv hn B.1.2.2 0 I (z.1, z.2.2) (by omega) h1 h2 h4
  have b1 := zdMb_f h1 (fun a b hab => a4 a b (by omega) (by omega) (by omega))
  obtain ⟨N2, c1, c2, c3⟩ := zdm_sds (J := J) hv (Int32.ofNat n) B.1.1 0 N1 _ (by omega) b1 a2
  have b2 := zdMb_f b1 (fun a b hab => c3 a b (by omega) (by omega))
  obtain ⟨N3, d1, d2, d3⟩ := zdm_cms (J := J) hv hn B.1.1 0 N2 _ (by omega) b2 c2
  have b3 := zdMb_f b2 (fun a b hab => d3 a b (by omega))
  have hpl : zd_pl B (zd_bit (J 0 28)) n = (zd_at B n z).1 := by
    unfold zd_pl
    rw [hz]
  have d2 : zdM B N3 J (zd_at B n z).1 := d2
  have a3 : zdH B n B.1.2.2 N1 (zd_at B n z).2 := a3
  obtain ⟨N4, e1, e2, e3, e4, e5⟩ := zdm_note (J := J) hv hn B.1.1 0 N3 (by omega) b3 d2
  have b4 := zdMb_f b3 (fun a b hab => e5 a b (by omega) (by omega))
  have w4 : ∀ q, q < 5 → (N4 18 q).toInt = z.2.1 q := fun q hq => by
    rw [e5 18 q (by decide) (by decide), d3 18 q (by omega), c3 18 q (by decide) (by decide), a4 18 q (by decide) (by decide) (by decide)]
    exact h3 q hq
  obtain ⟨N5, l5, f1, f2, f3, f4⟩ := zdm_call (J := J) hv hn (Int32.ofNat B.1.1) b4 e2 w4
  have b5 := zdMb_f b4 (fun a b hab => f4 a b (by omega) (by omega) (by omega))
  obtain ⟨N6, g1, g2, g3⟩ := zdm_olds (J := J) hv (Int32.ofNat n) B.1.1 0 N5 (by omega) b5 f2
  have b6 := zdMb_f b5 (fun a b hab => g3 a b (by omega))
  obtain ⟨N7, k1, k2, k3⟩ := zdm_ages (J := J) hv (Int32.ofNat n) B.1.1 0 N6 (by omega) b6 g2
  have b7 := zdMb_f b6 (fun a b hab => k3 a b (by omega) (by omega))
  have es : zd_st B (zd_bit (J 0 28)) (n + 1) = zd_nx B (zd_bit (J 0 28)) n z := by
    show zd_nx B (zd_bit (J 0 28)) n (zd_st B (zd_bit (J 0 28)) n) = _
    rw [hz]
  have back : ∀ a b, (a = 16 ∨ a = 17) → N7 a b = N4 a b := fun a b ha => by rw [k3 a b (by omega) (by omega), g3 a b (by omega), f4 a b (by omega) (by omega) (by omega)]
  refine ⟨N7, ?_, ⟨b7, by rw [es]; exact k2, fun q hq => ?_, ⟨fun q hq hlt => ?_, fun q hq => ?_⟩, fun m hm q hq => ?_⟩, fun a b hab => ?_⟩
  · rw [zf_X10_minute_M, zq_X10_minute_M_0]
    refine Eq.trans a1 (c1.trans (d1.trans (e1.trans (f1.trans ?_))))
    rw [zq_X10_minute_M_346]
    exact g1.trans k1
  · rw [es, k3 18 q (by decide) (by decide), g3 18 q (by decide)]
    exact f3 q hq
  · rw [es, k3 20 q (by decide) (by decide), g3 20 q (by decide), f4 20 q (by decide) (by decide) (by decide), e5 20 q (by decide) (by decide), d3 20 q (by omega), c3 20 q (by decide) (by decide)]
    exact a3.1 q hq (by omega)
  · rw [es] at hq
    have := a3.2 q hq
    omega
  · rw [back 16 _ (Or.inl rfl), back 17 _ (Or.inr rfl)]
    by_cases c : m = n
    · rw [c, hpl]
      exact e3 q (Nat.zero_le q) hq
    · have w := e4 q m (by omega) (by omega) (Or.inl c)
      rw [w.1, w.2, d3 16 _ (by omega), d3 17 _ (by omega), c3 16 _ (by decide) (by decide), c3 17 _ (by decide) (by decide), a4 16 _ (by decide) (by decide) (by decide), a4 17 _ (by decide) (by decide) (by decide)]
      exact h5 m (by omega) q hq
  · rw [k3 a b (by omega) (by omega), g3 a b (by omega), f4 a b (by omega) (by omega) (by omega), e5 a b (by omega) (by omega), d3 a b (by omega), c3 a b (by omega) (by omega), a4 a b (by omega) (by omega) (by omega)]
theorem zdT_29 (hv : zdMv B) {to : Nat} (ht : to ≤ 60) : ∀ (d n : Nat) (I : Nat → Nat → Int32), n + d = to + 1 → zdT B (zd_bit (J 0 28)) n I J → ∃ N, zv_X10_runs_M_29 I J (Int32.ofNat to) (Int32.ofNat n) = some (none, (N, J)) ∧ zdT B (zd_bit (J 0 28)) (to + 1) N J ∧ ∀ a b, (a < 16 ∨ 25 < a) → N a b = I a b := by
  intro d
  induction d with
  | zero =>
    intro n I h hs
    have en : n = to + 1 := by omega
    subst en
    refine ⟨I, ?_, hs, fun _ _ _ => rfl⟩
    rw [zq_X10_runs_M_29, if_pos (by rw [ze_lt, zp_o (by omega), zp_o (by omega)]; omega), zq_X10_runs_M_45]
  | succ d ih =>
    intro n I h hs
    obtain ⟨N, q1, q2, q3⟩ := zdT_min hv (show n ≤ 60 by omega) hs
    obtain ⟨N2, r1, r2, r3⟩ := ih (n + 1) N (by omega) q2
    refine ⟨N2, ?_, r2, fun a b hab => (r3 a b hab).trans (q3 a b hab)⟩
    rw [zq_X10_runs_M_29, if_neg (fun z => by rw [ze_lt, zp_o (by omega), zp_o (by omega)] at z; omega), zc_X10_runs_M_34 _ _ _ _ q1, zq_X10_runs_M_39, zp_o1 (by omega)]
    exact r1
theorem zdT_2 (to : Int32) : ∀ (d c : Nat) (I : Nat → Nat → Int32), c + d = 5 → zt_Gs zo_g22 (I, J) → ∃ N, zv_X10_runs_M_2 I J to (Int32.ofNat c) = zv_X10_runs_M_29 N J to (Int32.ofNat 0) ∧ (∀ q, c ≤ q → q < 5 → N 24 q = 0 ∧ (N 18 q).toInt = -1) ∧ (∀ q, q < c → N 24 q = I 24 q ∧ N 18 q = I 18 q) ∧ (∀ a b, a ≠ 18 → a ≠ 24 → N a b = I a b) ∧ zt_Gs zo_g22 (N, J) := by
  have e5 : (5 : Int32) = Int32.ofNat 5 := rfl
  have nar0 : vp_nar .boolean 0 = 0 := by decide
  intro d
  induction d with
  | zero =>
    intro c I h hG
    refine ⟨I, ?_, fun q h1 h2 => by omega, fun q _ => ⟨rfl, rfl⟩, fun _ _ _ _ => rfl, hG⟩
    rw [zq_X10_runs_M_2, if_pos (by rw [e5]; exact (zp_le (by omega) (by omega)).mpr (by omega)), zq_X10_runs_M_27]
    rfl
  | succ d ih =>
    intro c I h hG
    have f0 : ∀ a b, a ≠ 18 → a ≠ 24 → zm_w (zm_w I 24 c 0) 18 c (-1) a b = I a b := fun a b h1 h2 => by rw [ze_wo h1, ze_wo h2]
    obtain ⟨N, q1, q2, q3, q4, q5⟩ := ih (c + 1) (zm_w (zm_w I 24 c 0) 18 c (-1)) (by omega) (zd_gw (zd_gw hG zd_r24 (by decide) (by decide)) zd_r18 (by decide) (by decide))
    refine ⟨N, ?_, fun q h1 h2 => ?_, fun q hq => ?_, fun a b h1 h2 => (q4 a b h1 h2).trans (f0 a b h1 h2), q5⟩
    · rw [zq_X10_runs_M_2, if_neg (fun z => by rw [e5] at z; have := (zp_le (by omega) (by omega)).mp z; omega), zq_X10_runs_M_7, if_neg (zp_in (by omega) (by omega)), if_neg (zp_in (by omega) (by omega)), zp_cl (by omega), nar0, zp_o1 (by omega)]
      exact q1
    · by_cases e : q = c
      · have w := q3 q (by omega)
        rw [w.1, w.2, e, ze_wo (by decide), ze_wi, ze_wi]
        exact ⟨rfl, zh_m1⟩
      · exact q2 q (by omega) h2
    · have w := q3 q (by omega)
      rw [w.1, w.2, ze_wo (by decide), ze_wj (by omega), ze_wj (by omega), ze_wo (by decide)]
      exact ⟨rfl, rfl⟩
/-- a day run to a minute -/
theorem zdT_run (hv : zdMv B) {to : Nat} (ht : to ≤ 60) (hb : zdMb B I) (hG : zt_Gs zo_g22 (I, J)) : ∃ N, zF_X10_runs zW_M [.ref 0, .int (Int32.ofNat to)] (I, J) = some (none, (N, J)) ∧ zdT B (zd_bit (J 0 28)) (to + 1) N J ∧ ∀ a b, (a < 16 ∨ 25 < a) → N a b = I a b := by
  obtain ⟨N1, q1, q2, q3, q4, q5⟩ := zdT_2 (J := J) (Int32.ofNat to) 5 0 I rfl hG
  have h0 : zdT B (zd_bit (J 0 28)) 0 N1 J := ⟨zdMb_f hb (fun a b hab => q4 a b (by omega) (by omega)), ⟨fun c hc => Or.inr ⟨by show (-2 : Int) < -1; decide, (q2 c (Nat.zero_le c) hc).1⟩, fun _ _ => rfl, fun _ => ⟨by show (-3 : Int) ≤ -2; decide, by show (-2 : Int) ≤ 5; decide⟩, q5⟩, fun q hq => (q2 q (Nat.zero_le q) hq).2, ⟨fun q hq hlt => by omega, fun q hq => by cases hq⟩, fun m hm => absurd hm (Nat.not_lt_zero m)⟩
  obtain ⟨N2, r1, r2, r3⟩ := zdT_29 hv ht (to + 1) 0 N1 (by omega) h0
  refine ⟨N2, ?_, r2, fun a b hab => (r3 a b hab).trans (q4 a b (by omega) (by omega))⟩
  rw [zf_X10_runs_M, zq_X10_runs_M_0]
  exact Eq.trans q1 r1
end ZDE
end
section
/-! A DAY OF THE REFERENCE: laid, and run -/
theorem zd_m5 : ∀ c, c < 5 → (5 * Int32.ofNat c : Int32) = Int32.ofNat (5 * c) ∧ (5 * Int32.ofNat c + 1 : Int32) = Int32.ofNat (5 * c + 1) ∧ (5 * Int32.ofNat c + 2 : Int32) = Int32.ofNat (5 * c + 2) := by decide +kernel
/-- the bench as the reference has it -/
def zdMa (B : zdB) (I : Nat → Nat → Int32) : Prop := (I 7 5 = Int32.ofNat B.1.1 ∧ I 7 4 = Int32.ofNat B.1.2.1 ∧ I 7 6 = Int32.ofNat B.1.2.2 ∧ I 7 2 = Int32.ofNat B.2.2.2.2.2.2) ∧ (∀ c, c < B.1.1 → I 9 (5 * c + 1) = Int32.ofNat (B.2.1 c) ∧ I 9 (5 * c + 2) = Int32.ofNat (B.2.2.1 c)) ∧ ∀ k, k < B.1.2.2 → I 10 (3 * k) = Int32.ofNat (B.2.2.2.1 k) ∧ I 10 (3 * k + 1) = Int32.ofNat (B.2.2.2.2.1 k) ∧ I 10 (3 * k + 2) = Int32.ofNat (B.2.2.2.2.2.1 k)
section ZDFF
variable {B : zdB} {I N : Nat → Nat → Int32} {J : Nat → Nat → Int64}
theorem zdm_lay37 {S : Nat} (hS : S ≤ 6) : ∀ (d s : Nat) (I : Nat → Nat → Int32), s + d = S → I 7 4 = Int32.ofNat S → ∃ N, zv_X10_lays_M_37 I J (Int32.ofNat s) = zv_X10_lays_M_65 N J (Int32.ofNat 0) ∧ ∀ a b, a ≠ 12 → N a b = I a b := by
  intro d
  induction d with
  | zero =>
    intro s I h h4
    refine ⟨I, ?_, fun _ _ _ => rfl⟩
    rw [zc_X10_lays_M_37 _ _ _ zdm_seats, zq_X10_lays_M_42, h4, if_pos ((zp_le (by omega) (by omega)).mpr (by omega)), zq_X10_lays_M_63]
    rfl
  | succ d ih =>
    intro s I h h4
    have hn : ¬ (Int32.ofNat S : Int32) ≤ Int32.ofNat s := fun z => by have := (zp_le (by omega) (by omega)).mp z; omega
    obtain ⟨N, q1, q2⟩ := ih (s + 1) (zm_w I 12 s (I 8 s)) (by omega) (by rw [ze_wo (by decide)]; exact h4)
    refine ⟨N, ?_, fun a b ha => (q2 a b ha).trans (ze_wo ha)⟩
    rw [zc_X10_lays_M_37 _ _ _ zdm_seats, zq_X10_lays_M_42, h4, if_neg hn, zq_X10_lays_M_45, if_neg (zp_in (by omega) (by omega)), if_neg (zp_in (by omega) (by omega)), zp_cl (by omega), zp_o1 (by omega)]
    exact q1
theorem zdm_lay65 {C : Nat} (hC : C ≤ 5) : ∀ (d c : Nat) (I : Nat → Nat → Int32), c + d = C → I 7 5 = Int32.ofNat C → ∃ N, zv_X10_lays_M_65 I J (Int32.ofNat c) = some (none, (N, J)) ∧ (∀ q, c ≤ q → q < C → N 14 q = I 9 (5 * q + 1) ∧ N 15 q = I 9 (5 * q + 2)) ∧ (∀ q, q < c → N 14 q = I 14 q ∧ N 15 q = I 15 q) ∧ ∀ a b, a ≠ 13 → a ≠ 14 → a ≠ 15 → N a b = I a b := by
  intro d
  induction d with
  | zero =>
    intro c I h h5
    refine ⟨I, ?_, fun q h1 h2 => by omega, fun _ _ => ⟨rfl, rfl⟩, fun _ _ _ _ _ => rfl⟩
    rw [zc_X10_lays_M_65 _ _ _ zdm_callers, zq_X10_lays_M_70, h5, if_pos ((zp_le (by omega) (by omega)).mpr (by omega)), zq_X10_lays_M_125]
  | succ d ih =>
    intro c I h h5
    have hn : ¬ (Int32.ofNat C : Int32) ≤ Int32.ofNat c := fun z => by have := (zp_le (by omega) (by omega)).mp z; omega
    obtain ⟨m0, m1, m2⟩ := zd_m5 c (by omega)
    generalize hK : (zm_w (zm_w (zm_w I 13 c (I 9 (5 * c))) 14 c ((zm_w I 13 c (I 9 (5 * c))) 9 (5 * c + 1))) 15 c ((zm_w (zm_w I 13 c (I 9 (5 * c))) 14 c ((zm_w I 13 c (I 9 (5 * c))) 9 (5 * c + 1))) 9 (5 * c + 2))) = K
    have f0 : ∀ a b, a ≠ 13 → a ≠ 14 → a ≠ 15 → K a b = I a b := fun a b h1 h2 h3 => by rw [← hK, ze_wo h3, ze_wo h2, ze_wo h1]
    have k14 : ∀ q, K 14 q = if q = c then I 9 (5 * c + 1) else I 14 q := fun q => by
      rw [← hK, ze_wo (by decide)]
      by_cases e : q = c
      · rw [if_pos e, e, ze_wi, ze_wo (by decide)]
      · rw [if_neg e, ze_wj e, ze_wo (by decide)]
    have k15 : ∀ q, K 15 q = if q = c then I 9 (5 * c + 2) else I 15 q := fun q => by
      rw [← hK]
      by_cases e : q = c
      · rw [if_pos e, e, ze_wi, ze_wo (by decide), ze_wo (by decide)]
      · rw [if_neg e, ze_wj e, ze_wo (by decide), ze_wo (by decide)]
    obtain ⟨N, q1, q2, q3, q4⟩ := ih (c + 1) K (by omega) (by rw [f0 7 5 (by decide) (by decide) (by decide)]; exact h5)
    refine ⟨N, ?_, fun q h1 h2 => ?_, fun q hq => ?_, fun a b h1 h2 h3 => (q4 a b h1 h2 h3).trans (f0 a b h1 h2 h3)⟩
    · rw [zc_X10_lays_M_65 _ _ _ zdm_callers, zq_X10_lays_M_70, h5, if_neg hn, zq_X10_lays_M_73, m1, m2, m0, if_neg (zp_in (by omega) (by omega)), if_neg (zp_in (by omega) (by omega)), if_neg (zp_in (by omega) (by omega)), if_neg (zp_in (by omega) (by omega)), if_neg (zp_in (by omega) (by omega)), if_neg (zp_in (by omega) (by omega)), zp_cl (by omega), zp_cl (by omega), zp_cl (by omega), zp_cl (by omega), hK, zp_o1 (by omega)]
      exact q1
    · by_cases e : q = c
      · have w := q3 q (by omega)
        rw [w.1, w.2, k14, k15, if_pos e, if_pos e, e]
        exact ⟨rfl, rfl⟩
      · have w := q2 q (by omega) h2
        rw [f0 9 _ (by decide) (by decide) (by decide), f0 9 _ (by decide) (by decide) (by decide)] at w
        exact w
    · have w := q3 q (by omega)
      rw [w.1, w.2, k14, k15, if_neg (by omega), if_neg (by omega)]
      exact ⟨rfl, rfl⟩
theorem zdm_lays (hv : zdMv B) (h : zdMa B I) (hG : zt_Gs zo_g22 (I, J)) : ∃ N K, zF_X10_lays zW_M [.ref 0] (I, J) = some (none, (N, K)) ∧ zdMb B N ∧ K 0 28 = 0 ∧ zt_Gs zo_g22 (N, K) ∧ (∀ a b, (a ≠ 0 ∧ (a < 12 ∨ 15 < a)) → N a b = I a b) ∧ zt_fr zi_450_K.2.2.1 (I, J) (N, K) := by
  obtain ⟨⟨⟨hC, hS, hst, hac, hsa⟩, hA, hE, hcm, ham⟩, hA4, hsc⟩ := id hv
  obtain ⟨⟨h5, h4, h6, h2⟩, hc, hk⟩ := h
  generalize hL : (zm_w (zm_w (zm_w (zm_w I 0 22 (I 7 0)) 0 23 ((zm_w I 0 22 (I 7 0)) 7 2)) 0 24 0) 0 25 (-1)) = L
  have f0 : ∀ a b, a ≠ 0 → L a b = I a b := fun a b ha => by rw [← hL, ze_wo ha, ze_wo ha, ze_wo ha, ze_wo ha]
  have l23 : L 0 23 = I 7 2 := by rw [← hL, ze_wj (by decide), ze_wj (by decide), ze_wi, ze_wo (by decide)]
  have l24 : L 0 24 = 0 := by rw [← hL, ze_wj (by decide), ze_wi]
  have l25 : L 0 25 = -1 := by rw [← hL, ze_wi]
  obtain ⟨N1, q1, q2⟩ := zdm_lay37 (J := zm_wl J 0 28 0) hS B.1.2.1 0 L (by omega) (by rw [f0 7 4 (by decide)]; exact h4)
  obtain ⟨N2, r1, r2, r3, r4⟩ := zdm_lay65 (J := zm_wl J 0 28 0) hC B.1.1 0 N1 (by omega) (by rw [q2 7 5 (by decide), f0 7 5 (by decide)]; exact h5)
  have hrun : zF_X10_lays zW_M [.ref 0] (I, J) = some (none, (N2, zm_wl J 0 28 0)) := by
    rw [zf_X10_lays_M, zq_X10_lays_M_0, if_neg (by decide), if_neg (by decide), show Int32.toNatClampNeg 0 = 0 by decide, show Int32.toNatClampNeg 2 = 2 by decide, hL]
    exact q1.trans r1
  have g72 : 1 ≤ (I 7 2).toInt ∧ (I 7 2).toInt ≤ 30 := by rw [h2, zp_o (by omega)]; omega
  obtain ⟨v, M2, s1, s2, s3, -⟩ := zp_get (w0 := zW_M) (G := zo_g22) (zi_450 0 zo_hd) rfl rfl (as := [.ref 0]) (M := (I, J)) (zq_s1 zq_r0 zq_s0) (zq_ca ⟨g72.1, g72.2⟩ zh_no) hG
  have e : some ((none : Option Value), (N2, zm_wl J 0 28 0)) = some (v, M2) := hrun.symm.trans s1
  cases e
  have fr : ∀ a b, a ≠ 0 → a ≠ 12 → a ≠ 13 → a ≠ 14 → a ≠ 15 → N2 a b = I a b := fun a b a0 a1 a2 a3 a4 => by rw [r4 a b a2 a3 a4, q2 a b a1, f0 a b a0]
  refine ⟨N2, zm_wl J 0 28 0, hrun, ⟨⟨?_, ?_, ?_, ?_, ?_, ?_⟩, fun c hcc => ?_, fun k hkk => ?_⟩, if_pos ⟨rfl, rfl⟩, s2, fun a b ha => fr a b ha.1 (by omega) (by omega) (by omega) (by omega), s3⟩
  · rw [fr 7 5 (by decide) (by decide) (by decide) (by decide) (by decide)]; exact h5
  · rw [fr 7 4 (by decide) (by decide) (by decide) (by decide) (by decide)]; exact h4
  · rw [fr 7 6 (by decide) (by decide) (by decide) (by decide) (by decide)]; exact h6
  · rw [r4 0 23 (by decide) (by decide) (by decide), q2 0 23 (by decide), l23]; exact h2
  · rw [r4 0 24 (by decide) (by decide) (by decide), q2 0 24 (by decide), l24]
  · rw [r4 0 25 (by decide) (by decide) (by decide), q2 0 25 (by decide), l25]
  · have w := r2 c (Nat.zero_le c) hcc
    rw [w.1, w.2, q2 9 _ (by decide), q2 9 _ (by decide), f0 9 _ (by decide), f0 9 _ (by decide)]
    exact hc c hcc
  · rw [fr 10 _ (by decide) (by decide) (by decide) (by decide) (by decide), fr 10 _ (by decide) (by decide) (by decide) (by decide) (by decide), fr 10 _ (by decide) (by decide) (by decide) (by decide) (by decide)]
    exact hk k hkk
/-- today's day of the reference -/
theorem zdT_now (hv : zdMv B) (h : zdMa B I) (hG : zt_Gs zo_g22 (I, J)) : ∃ N K, zF_X10_laysNow zW_M [.ref 0] (I, J) = some (none, (N, K)) ∧ zdT B (zd_bit 0) 61 N K ∧ (∀ a b, (a ≠ 0 ∧ (a < 12 ∨ 25 < a)) → N a b = I a b) := by
  obtain ⟨N1, K1, q1, q2, q3, q4, q5, -⟩ := zdm_lays hv h hG
  obtain ⟨N2, r1, r2, r3⟩ := zdT_run (to := 60) hv (by omega) q2 q4
  rw [q3] at r2
  refine ⟨N2, K1, ?_, r2, fun a b hab => (r3 a b (by omega)).trans (q5 a b (by omega))⟩
  have r1 : zF_X10_runs zW_M [.ref 0, .int 60] (N1, K1) = some (none, (N2, K1)) := r1
  rw [zf_X10_laysNow_M, zc_X10_laysNow_M_0 _ _ q1, zc_X10_laysNow_M_4 _ _ ((zf_X10_runs__M _ _).trans ((zc_X10_runs__M_0 _ _ r1).trans (zq_X10_runs__M_6 _ _))), zq_X10_laysNow_M_8]
end ZDFF
end
section
/-! A DAY OF THE CLASS, written down; today's day -/
def zd_fW : zm_L := [(.inr (.int, 305), [])]
section ZDG0
variable (I : Nat → Nat → Int32) (J : Nat → Nat → Int64)
noncomputable def zd_fV (pc : Nat) (ls : List (Option Value)) (M : zm_I) : zm_R := zm_V zT_J7_fill_53178 zd_fW (pc, ls, [], M)
theorem zd_f_0 (v : Int32) : zd_fV 0 [some (.ref 0), some (.int v), none, none] (I, J) = zd_fV 5 [some (.ref 0), some (.int v), some (.int 0), some (.int (Int32.ofNat 305))] (I, J) := zh_st (T := zT_J7_fill_53178) (wl := zd_fW) (S := (0, [some (.ref 0), some (.int v), none, none], [], (I, J))) (f := fun q => q (5, [some (.ref 0), some (.int v), some (.int 0), some (.int (Int32.ofNat 305))], [], (I, J))) (fun _ => rfl)
theorem zd_f_5 (v i n : Int32) : zd_fV 5 [some (.ref 0), some (.int v), some (.int i), some (.int n)] (I, J) = if n ≤ i then zd_fV 20 [some (.ref 0), some (.int v), some (.int i), some (.int n)] (I, J) else zd_fV 10 [some (.ref 0), some (.int v), some (.int i), some (.int n)] (I, J) := zh_st (T := zT_J7_fill_53178) (wl := zd_fW) (S := (5, [some (.ref 0), some (.int v), some (.int i), some (.int n)], [], (I, J))) (f := fun q => if n ≤ i then q (20, [some (.ref 0), some (.int v), some (.int i), some (.int n)], [], (I, J)) else q (10, [some (.ref 0), some (.int v), some (.int i), some (.int n)], [], (I, J))) (fun _ => rfl)
theorem zd_f_10 (v i n : Int32) : zd_fV 10 [some (.ref 0), some (.int v), some (.int i), some (.int n)] (I, J) = if i < 0 ∨ 305 ≤ i.toNatClampNeg then none else zd_fV 5 [some (.ref 0), some (.int v), some (.int (i + 1)), some (.int n)] (zm_w I 0 i.toNatClampNeg v, J) := zh_st (T := zT_J7_fill_53178) (wl := zd_fW) (S := (10, [some (.ref 0), some (.int v), some (.int i), some (.int n)], [], (I, J))) (f := fun q => if i < 0 ∨ 305 ≤ i.toNatClampNeg then none else q (5, [some (.ref 0), some (.int v), some (.int (i + 1)), some (.int n)], [], (zm_w I 0 i.toNatClampNeg v, J))) (fun _ => rfl)
theorem zd_f_20 (ls : List (Option Value)) : zd_fV 20 ls (I, J) = some (none, (I, J)) := zh_st (T := zT_J7_fill_53178) (wl := zd_fW) (S := (20, ls, [], (I, J))) (f := fun _ => some (none, (I, J))) (fun _ => rfl)
end ZDG0
theorem zd_fill5 (J : Nat → Nat → Int64) (v : Int32) : ∀ (d i : Nat) (I : Nat → Nat → Int32), i + d = 305 → ∃ N, zd_fV 5 [some (.ref 0), some (.int v), some (.int (Int32.ofNat i)), some (.int (Int32.ofNat 305))] (I, J) = some (none, (N, J)) ∧ (∀ q, i ≤ q → q < 305 → N 0 q = v) ∧ ∀ q, q < i → N 0 q = I 0 q := by
  intro d
  induction d with
  | zero =>
    intro i I h
    refine ⟨I, ?_, fun q h1 h2 => by omega, fun _ _ => rfl⟩
    rw [zd_f_5, if_pos ((zp_le (by omega) (by omega)).mpr (by omega)), zd_f_20]
  | succ d ih =>
    intro i I h
    obtain ⟨N, q1, q2, q3⟩ := ih (i + 1) (zm_w I 0 i v) (by omega)
    refine ⟨N, ?_, fun q h1 h2 => ?_, fun q hq => ?_⟩
    · rw [zd_f_5, if_neg (fun z => by have := (zp_le (by omega) (by omega)).mp z; omega), zd_f_10, if_neg (zp_in (by omega) (by omega)), zp_cl (by omega), zp_o1 (by omega)]
      exact q1
    · by_cases e : q = i
      · rw [q3 q (by omega), e, ze_wi]
      · exact q2 q (by omega) h2
    · rw [q3 q (by omega), ze_wj (by omega)]
theorem zd_fill (M : zm_I) : ∃ N, zF_J7_fill_53178 [(.inr (.int, 305), [])] [.ref 0, .int (-1)] M = some (none, (N, M.2)) ∧ ∀ q, q < 305 → N 0 q = -1 := by
  obtain ⟨N, q1, q2, -⟩ := zd_fill5 M.2 (-1) 305 0 M.1 rfl
  exact ⟨N, (zd_f_0 M.1 M.2 (-1)).trans q1, fun q hq => q2 q (Nat.zero_le q) hq⟩
theorem zd_i5 : ∀ m, m < 61 → ∀ c, c < 5 → (Int32.ofNat m * 5 + Int32.ofNat c : Int32) = Int32.ofNat (5 * m + c) := by decide +kernel
section ZDG
variable {B : zdB} {I N : Nat → Nat → Int32} {J : Nat → Nat → Int64} {p : Nat → Int}
theorem zdy_note2 (hC : B.1.1 ≤ 5) {m : Nat} (hm : m ≤ 60) (hp : ∀ c, -3 ≤ p c ∧ p c ≤ 5) : ∀ (d c : Nat) (I : Nat → Nat → Int32), c + d = B.1.1 → I 11 6 = Int32.ofNat B.1.1 → (∀ q, q < 5 → (I 2 q).toInt = p q) → (∀ q, 0 ≤ (I 3 q).toInt) → (∀ q, c ≤ q → q < 5 → I 9 (5 * m + q) = -1 ∧ I 10 (5 * m + q) = -1) → ∃ N, zv_X3_note_YB_2 I J (Int32.ofNat m) (Int32.ofNat c) = some (none, (N, J)) ∧ (∀ q, c ≤ q → q < B.1.1 → zdK p (N 9 (5 * m + q)) (N 10 (5 * m + q)) q) ∧ (∀ q r, q < 5 → (r ≠ m ∨ q < c) → N 9 (5 * r + q) = I 9 (5 * r + q) ∧ N 10 (5 * r + q) = I 10 (5 * r + q)) ∧ ∀ a b, a ≠ 9 → a ≠ 10 → N a b = I a b := by
  intro d
  induction d with
  | zero =>
    intro c I h hb hx hy hz
    refine ⟨I, ?_, fun q h1 h2 => by omega, fun _ _ _ _ => ⟨rfl, rfl⟩, fun _ _ _ _ => rfl⟩
    rw [zq_X3_note_YB_2, hb, if_pos ((zp_le (by omega) (by omega)).mpr (by omega)), zq_X3_note_YB_83]
  | succ d ih =>
    intro c I h hb hx hy hz
    have hnc : ¬ (Int32.ofNat B.1.1 : Int32) ≤ Int32.ofNat c := fun z => by have := (zp_le (by omega) (by omega)).mp z; omega
    have ix := zd_i5 m (by omega) c (by omega)
    have e2 : (I 2 c).toInt = p c := hx c (by omega)
    have r := hp c
    have y := hy c
    have go : ∀ (K : Nat → Nat → Int32), (∀ a b, a ≠ 9 → a ≠ 10 → K a b = I a b) → (∀ b, b ≠ 5 * m + c → K 9 b = I 9 b ∧ K 10 b = I 10 b) → zdK p (K 9 (5 * m + c)) (K 10 (5 * m + c)) c → ∃ N, zv_X3_note_YB_77 K J (Int32.ofNat m) (Int32.ofNat c) = some (none, (N, J)) ∧ (∀ q, c ≤ q → q < B.1.1 → zdK p (N 9 (5 * m + q)) (N 10 (5 * m + q)) q) ∧ (∀ q r, q < 5 → (r ≠ m ∨ q < c) → N 9 (5 * r + q) = I 9 (5 * r + q) ∧ N 10 (5 * r + q) = I 10 (5 * r + q)) ∧ ∀ a b, a ≠ 9 → a ≠ 10 → N a b = I a b := by
      intro K k1 k2 k3
      obtain ⟨N, q1, q2, q3, q4⟩ := ih (c + 1) K (by omega) (by rw [k1 11 6 (by decide) (by decide)]; exact hb) (fun q hq => by rw [k1 2 q (by decide) (by decide)]; exact hx q hq) (fun q => by rw [k1 3 q (by decide) (by decide)]; exact hy q) (fun q h1 h2 => by
        have w := k2 (5 * m + q) (by omega)
        rw [w.1, w.2]
        exact hz q (by omega) h2)
      refine ⟨N, ?_, fun q h1 h2 => ?_, fun q r hq hne => ?_, fun a b h1 h2 => (q4 a b h1 h2).trans (k1 a b h1 h2)⟩
      · rw [zq_X3_note_YB_77, zp_o1 (by omega)]
        exact q1
      · by_cases e : q = c
        · have w := q3 q m (by omega) (Or.inr (by omega))
          rw [w.1, w.2, e]
          exact k3
        · exact q2 q (by omega) h2
      · have w := q3 q r hq (by omega)
        have w2 := k2 (5 * r + q) (by omega)
        exact ⟨w.1.trans w2.1, w.2.trans w2.2⟩
    rw [zq_X3_note_YB_2, hb, if_neg hnc, zq_X3_note_YB_10, if_neg (zp_in (by omega) (by omega)), zp_cl (by omega)]
    by_cases c1 : p c < -1
    · rw [if_pos (by rw [ze_lt, e2, zh_m1]; exact c1)]
      have w := hz c (Nat.le_refl c) (by omega)
      refine go I (fun _ _ _ _ => rfl) (fun _ _ => ⟨rfl, rfl⟩) ⟨?_, ?_⟩
      · rw [w.2, if_neg (by omega)]
        exact zh_m1
      · rw [w.1]
        exact ⟨fun _ => c1, fun _ => zh_m1⟩
    · have k2 : ∀ v, zm_w I 9 (5 * m + c) v 2 c = I 2 c := fun v => ze_wo (by decide)
      rw [if_neg (by rw [ze_lt, e2, zh_m1]; exact c1), zq_X3_note_YB_23, if_neg (zp_in (by omega) (by omega)), ix, if_neg (zp_in (by omega) (by omega)), if_neg (zp_in (by omega) (by omega)), zp_cl (by omega), zp_cl (by omega), k2]
      have fin : ∀ s : Int32, s.toInt = (if 0 ≤ p c then p c else -1) → ∃ N, zv_X3_note_YB_76 (zm_w I 9 (5 * m + c) (I 3 c)) J (Int32.ofNat m) (Int32.ofNat c) s (Int32.ofNat (5 * m + c)) = some (none, (N, J)) ∧ (∀ q, c ≤ q → q < B.1.1 → zdK p (N 9 (5 * m + q)) (N 10 (5 * m + q)) q) ∧ (∀ q r, q < 5 → (r ≠ m ∨ q < c) → N 9 (5 * r + q) = I 9 (5 * r + q) ∧ N 10 (5 * r + q) = I 10 (5 * r + q)) ∧ ∀ a b, a ≠ 9 → a ≠ 10 → N a b = I a b := by
        intro s hs
        rw [zq_X3_note_YB_76, if_neg (zp_in (by omega) (by omega)), zp_cl (by omega)]
        refine go _ (fun a b h1 h2 => by rw [ze_wo h2, ze_wo h1]) (fun b hb2 => ⟨by rw [ze_wo (by decide), ze_wj hb2], by rw [ze_wj hb2, ze_wo (by decide)]⟩) ⟨?_, ?_⟩
        · rw [ze_wi]
          exact hs
        · rw [ze_wo (by decide), ze_wi]
          exact ⟨fun z => by omega, fun z => absurd z c1⟩
      by_cases c2 : p c < 0
      · rw [if_pos (by rw [ze_lt, e2, ze_i0]; exact c2), zq_X3_note_YB_75]
        exact fin (-1) (by rw [if_neg (by omega)]; exact zh_m1)
      · rw [if_neg (by rw [ze_lt, e2, ze_i0]; exact c2), zq_X3_note_YB_63, if_neg (zp_in (by omega) (by omega)), zp_cl (by omega), k2]
        exact fin (I 2 c) (by rw [if_pos (by omega)]; exact e2)
/-- the day in a diary's cells, and its bench -/
theorem zdy_s {n : Nat} (h : n < 18) (M N : zm_I) : (zm_sub2 [(1, 8), (11, 10)] (zm_mrg [(1, 8), (11, 10)] M N)).1 n = N.1 n ∧ (zm_sub2 [(1, 8), (11, 10)] (zm_mrg [(1, 8), (11, 10)] M N)).2 n = N.2 n := by
  match n, h with
  | 0, _ => exact ⟨rfl, rfl⟩
  | 1, _ => exact ⟨rfl, rfl⟩
  | 2, _ => exact ⟨rfl, rfl⟩
  | 3, _ => exact ⟨rfl, rfl⟩
  | 4, _ => exact ⟨rfl, rfl⟩
  | 5, _ => exact ⟨rfl, rfl⟩
  | 6, _ => exact ⟨rfl, rfl⟩
  | 7, _ => exact ⟨rfl, rfl⟩
  | 8, _ => exact ⟨rfl, rfl⟩
  | 9, _ => exact ⟨rfl, rfl⟩
  | 10, _ => exact ⟨rfl, rfl⟩
  | 11, _ => exact ⟨rfl, rfl⟩
  | 12, _ => exact ⟨rfl, rfl⟩
  | 13, _ => exact ⟨rfl, rfl⟩
  | 14, _ => exact ⟨rfl, rfl⟩
  | 15, _ => exact ⟨rfl, rfl⟩
  | 16, _ => exact ⟨rfl, rfl⟩
  | 17, _ => exact ⟨rfl, rfl⟩
  | n + 18, h => omega
theorem zdy_u {n : Nat} (h : n < 18) (M : zm_I) : (zm_sub2 [(1, 8), (11, 10)] M).1 n = M.1 (if n < 8 then 1 + n else 3 + n) ∧ (zm_sub2 [(1, 8), (11, 10)] M).2 n = M.2 (if n < 8 then 1 + n else 3 + n) := by
  match n, h with
  | 0, _ => exact ⟨rfl, rfl⟩
  | 1, _ => exact ⟨rfl, rfl⟩
  | 2, _ => exact ⟨rfl, rfl⟩
  | 3, _ => exact ⟨rfl, rfl⟩
  | 4, _ => exact ⟨rfl, rfl⟩
  | 5, _ => exact ⟨rfl, rfl⟩
  | 6, _ => exact ⟨rfl, rfl⟩
  | 7, _ => exact ⟨rfl, rfl⟩
  | 8, _ => exact ⟨rfl, rfl⟩
  | 9, _ => exact ⟨rfl, rfl⟩
  | 10, _ => exact ⟨rfl, rfl⟩
  | 11, _ => exact ⟨rfl, rfl⟩
  | 12, _ => exact ⟨rfl, rfl⟩
  | 13, _ => exact ⟨rfl, rfl⟩
  | 14, _ => exact ⟨rfl, rfl⟩
  | 15, _ => exact ⟨rfl, rfl⟩
  | 16, _ => exact ⟨rfl, rfl⟩
  | 17, _ => exact ⟨rfl, rfl⟩
  | n + 18, h => omega
theorem zo_l7 : zo_g7.length ≤ 18 := Nat.le_of_ble_eq_true (by decide +kernel)
theorem zdy_G {M N : zm_I} (h : ∀ n, n < 18 → M.1 n = N.1 n) (hG : zt_Gs zo_g7 N) : zt_Gs zo_g7 M := by
  intro n g hg i b hb
  have hn : n < 18 := Nat.lt_of_lt_of_le (List.getElem?_eq_some_iff.mp hg).1 zo_l7
  rw [h n hn]
  exact hG n g hg i b hb
theorem zdS_c {z : zdZ} {I N : Nat → Nat → Int32} {J K : Nat → Nat → Int64} (h : zdS B z I J) (h1 : ∀ n, n < 18 → N n = I n) (h2 : K 0 = J 0) : zdS B z N K := by
  obtain ⟨a, b, c, d, e, f, g⟩ := h
  refine ⟨?_, zdX_c b (fun q _ => by rw [h1 1 (by decide)]) (fun q _ => by rw [h1 7 (by decide)]), fun q hq => by rw [h1 5 (by decide)]; exact c q hq, fun q hq => by rw [h2]; exact d q hq, by rw [h1 0 (by decide)]; exact e, fun m hm hz k hk => f m hm (by rw [← h2]; exact hz) k hk, zdy_G (fun n hn => h1 n hn) g⟩
  obtain ⟨⟨a1, a2, a3, a4⟩, a5, a6, a7⟩ := a
  refine ⟨⟨by rw [h1 8 (by decide)]; exact a1, by rw [h1 8 (by decide)]; exact a2, by rw [h1 8 (by decide)]; exact a3, by rw [h1 8 (by decide)]; exact a4⟩, fun q hq => by rw [h1 11 (by decide)]; exact a5 q hq, fun q hq => by rw [h1 12 (by decide)]; exact a6 q hq, fun q hq => by rw [h1 15 (by decide), h1 16 (by decide), h1 17 (by decide)]; exact a7 q hq⟩
/-- what is written down up to minute n, and nothing behind -/
def zdL (B : zdB) (ms : Nat → Bool) (n : Nat) (I : Nat → Nat → Int32) : Prop := (∀ m, m < n → ∀ q, q < B.1.1 → zdK (zd_pl B ms m) (I 9 (5 * m + q)) (I 10 (5 * m + q)) q) ∧ ∀ m, n ≤ m → m ≤ 60 → ∀ q, q < 5 → I 9 (5 * m + q) = -1 ∧ I 10 (5 * m + q) = -1
theorem zdy_26 (hv : zdXv B) : ∀ (d n : Nat) (I : Nat → Nat → Int32) (J : Nat → Nat → Int64), n + d = 61 → zdS B (zd_st B (zd_bit 0) n) (zm_sub2 [(1, 8), (11, 10)] (I, J)).1 (zm_sub2 [(1, 8), (11, 10)] (I, J)).2 → zdL B (zd_bit 0) n I → ∃ N K, zv_X3_keep_YB_26 I J (Int32.ofNat n) = some (none, (N, K)) ∧ zdS B (zd_st B (zd_bit 0) 61) (zm_sub2 [(1, 8), (11, 10)] (N, K)).1 (zm_sub2 [(1, 8), (11, 10)] (N, K)).2 ∧ zdL B (zd_bit 0) 61 N ∧ N 0 1 = 1 ∧ ∀ a b, 11 ≤ a → N a b = I a b := by
  have e60 : (60 : Int32).toInt = 60 := by decide
  have hC := hv.1.1
  have stop : ∀ (I : Nat → Nat → Int32) (J : Nat → Nat → Int64) (l : Int32), zdS B (zd_st B (zd_bit 0) 61) (zm_sub2 [(1, 8), (11, 10)] (I, J)).1 (zm_sub2 [(1, 8), (11, 10)] (I, J)).2 → zdL B (zd_bit 0) 61 I → ∃ N K, zv_X3_keep_YB_77 I J l = some (none, (N, K)) ∧ zdS B (zd_st B (zd_bit 0) 61) (zm_sub2 [(1, 8), (11, 10)] (N, K)).1 (zm_sub2 [(1, 8), (11, 10)] (N, K)).2 ∧ zdL B (zd_bit 0) 61 N ∧ N 0 1 = 1 ∧ ∀ a b, 11 ≤ a → N a b = I a b := by
    intro I J l h1 h2
    refine ⟨zm_w I 0 1 1, J, zq_X3_keep_YB_77 _ _ _, zdS_c h1 (fun n hn => ?_) rfl, ⟨fun m hm q hq => ?_, fun m h1 h2 => by omega⟩, ze_wi, fun a b ha => ze_wo (by omega)⟩
    · rw [(zdy_u hn _).1, (zdy_u hn _).1]
      funext b
      exact ze_wo (by split <;> omega)
    · rw [ze_wo (by decide), ze_wo (by decide)]
      exact h2.1 m hm q hq
  intro d
  induction d with
  | zero =>
    intro n I J h hs hl
    have en : n = 61 := by omega
    subst en
    rw [zq_X3_keep_YB_26, if_pos (by rw [ze_lt, e60, zp_o (by omega)]; omega)]
    exact stop I J _ hs hl
  | succ d ih =>
    intro n I J h hs hl
    rw [zq_X3_keep_YB_26, if_neg (fun z => by rw [ze_lt, e60, zp_o (by omega)] at z; omega), zq_X3_keep_YB_32]
    by_cases c : I 11 6 ≤ I 1 7
    · obtain ⟨hd, hn1⟩ := zdS_dead hv (by omega) hs c
      have hd1 := (hd (61 - n)).1
      rw [show n + (61 - n) = 61 by omega] at hd1
      rw [if_pos c]
      refine stop I J _ (by rw [hd1]; exact hs) ⟨fun m hm q hq => ?_, fun m h1 h2 => by omega⟩
      by_cases e : m < n
      · exact hl.1 m e q hq
      · have w := hl.2 m (by omega) (by omega) q (by omega)
        have hp := (hd (m - n)).2
        rw [show n + (m - n) = m by omega] at hp
        have hlt := hn1 q
        rw [w.1, w.2, hp]
        refine ⟨?_, ?_⟩
        · rw [if_neg (by omega)]
          exact zh_m1
        · rw [zh_m1]
          exact ⟨fun _ => hlt, fun _ => rfl⟩
    · obtain ⟨N1, K1, q1, q2, q3⟩ := zdS_set hv (by omega) hs
      rw [if_neg c, zc_X3_keep_YB_46 _ _ _ q1]
      have o9 : ∀ a b, (a = 0 ∨ a = 9 ∨ a = 10) → (zm_mrg [(1, 8), (11, 10)] (I, J) (N1, K1)).1 a b = I a b := fun a b ha => by
        rcases ha with rfl | rfl | rfl <;> rfl
      have q3' : ∀ a b, 11 ≤ a → a ≤ 20 → (zm_mrg [(1, 8), (11, 10)] (I, J) (N1, K1)).1 a b = I a b := fun a b h1 h2 => by
        have u := fun n (hn : n < 18) => congrFun (zdy_u hn (I, J)).1 b
        have s := fun n (hn : n < 18) => congrFun (zdy_s hn (I, J) (N1, K1)).1 b
        have v := congrFun (zdy_u (n := a - 3) (by omega) (zm_mrg [(1, 8), (11, 10)] (I, J) (N1, K1))).1 b
        rw [if_neg (by omega), show 3 + (a - 3) = a by omega] at v
        have u2 := u (a - 3) (by omega)
        rw [if_neg (by omega), show 3 + (a - 3) = a by omega] at u2
        have w := q3 (a - 3) b (by omega) (by omega)
        rw [← v, s (a - 3) (by omega)]
        exact w.trans u2
      have q2' : zdS B ((zd_at B n (zd_st B (zd_bit 0) n)).1, (zd_st B (zd_bit 0) n).2.1, (zd_at B n (zd_st B (zd_bit 0) n)).2) (zm_sub2 [(1, 8), (11, 10)] (zm_mrg [(1, 8), (11, 10)] (I, J) (N1, K1))).1 (zm_sub2 [(1, 8), (11, 10)] (zm_mrg [(1, 8), (11, 10)] (I, J) (N1, K1))).2 := zdS_c q2 (fun n hn => (zdy_s hn (I, J) (N1, K1)).1) (zdy_s (n := 0) (by decide) (I, J) (N1, K1)).2
      have o21 : ∀ a b, 21 ≤ a → (zm_mrg [(1, 8), (11, 10)] (I, J) (N1, K1)).1 a b = I a b := fun a b ha => by
        have e : zm_in [(1, 8), (11, 10)] a = false := by
          simp only [zm_in, Bool.or_false, Bool.or_eq_false_iff, Bool.and_eq_false_iff]
          refine ⟨Or.inr ?_, Or.inr ?_⟩
          · cases z : Nat.ble (a + 1) (1 + 8) with
            | false => rfl
            | true => have := Nat.le_of_ble_eq_true z; omega
          · cases z : Nat.ble (a + 1) (11 + 10) with
            | false => rfl
            | true => have := Nat.le_of_ble_eq_true z; omega
        simp only [zm_mrg, e]
      generalize hM : zm_mrg [(1, 8), (11, 10)] (I, J) (N1, K1) = M1 at o9 q3' q2' o21
      have hpl : zd_pl B (zd_bit 0) n = (zd_at B n (zd_st B (zd_bit 0) n)).1 := rfl
      have hx := q2'.2.1
      have hC6 : M1.1 11 6 = Int32.ofNat B.1.1 := q2'.1.1.1
      obtain ⟨N2, r1, r2, r3, r4⟩ := zdy_note2 (J := M1.2) hC (show n ≤ 60 by omega) hx.2.2.1 B.1.1 0 M1.1 (by omega) hC6 hx.1 (fun q => by
        have g : (0 : Int) ≤ ((zm_sub2 [(1, 8), (11, 10)] M1).1 2 q).toInt ∧ ((zm_sub2 [(1, 8), (11, 10)] M1).1 2 q).toInt ≤ 99 := zh_ga (b := (.ofNat 0, .ofNat 99)) q2'.2.2.2.2.2.2 rfl q
        exact g.1) (fun q _ hq => by
        rw [o9 9 _ (by omega), o9 10 _ (by omega)]
        exact hl.2 n (Nat.le_refl n) (by omega) q hq)
      have q2'' : zdS B ((zd_at B n (zd_st B (zd_bit 0) n)).1, (zd_st B (zd_bit 0) n).2.1, (zd_at B n (zd_st B (zd_bit 0) n)).2) (zm_sub2 [(1, 8), (11, 10)] (N2, M1.2)).1 (zm_sub2 [(1, 8), (11, 10)] (N2, M1.2)).2 := zdS_c q2' (fun n hn => by
        rw [(zdy_u hn _).1, (zdy_u hn _).1]
        funext b
        exact r4 _ b (by split <;> omega) (by split <;> omega)) rfl
      obtain ⟨N3, K3, s1, s2, s3⟩ := zdS_fin hv (show n ≤ 60 by omega) q2''
      have f1 : zF_X3_note zW_YB [.ref 0, .ref 11, .int (Int32.ofNat n)] (M1.1, M1.2) = some (none, (N2, M1.2)) := (zf_X3_note_YB _ _ _).trans ((zq_X3_note_YB_0 _ _ _).trans r1)
      have t9 : ∀ a b, (a = 0 ∨ a = 9 ∨ a = 10) → (zm_mrg [(1, 8), (11, 10)] (N2, M1.2) (N3, K3)).1 a b = N2 a b := fun a b ha => by
        rcases ha with rfl | rfl | rfl <;> rfl
      have s2' : zdS B (zd_st B (zd_bit 0) (n + 1)) (zm_sub2 [(1, 8), (11, 10)] (zm_mrg [(1, 8), (11, 10)] (N2, M1.2) (N3, K3))).1 (zm_sub2 [(1, 8), (11, 10)] (zm_mrg [(1, 8), (11, 10)] (N2, M1.2) (N3, K3))).2 := zdS_c s2 (fun n hn => (zdy_s hn (N2, M1.2) (N3, K3)).1) (zdy_s (n := 0) (by decide) (N2, M1.2) (N3, K3)).2
      obtain ⟨N4, K4, t1, t2, t3, t4, t5⟩ := ih (n + 1) (zm_mrg [(1, 8), (11, 10)] (N2, M1.2) (N3, K3)).1 (zm_mrg [(1, 8), (11, 10)] (N2, M1.2) (N3, K3)).2 (by omega) s2' ⟨fun m hm q hq => by
        rw [t9 9 _ (by omega), t9 10 _ (by omega)]
        by_cases e : m = n
        · rw [e, hpl]
          exact r2 q (Nat.zero_le q) hq
        · have w := r3 q m (by omega) (Or.inl e)
          rw [w.1, w.2, o9 9 _ (by omega), o9 10 _ (by omega)]
          exact hl.1 m (by omega) q hq, fun m h1 h2 q hq => by
        have w := r3 q m hq (Or.inl (by omega))
        rw [t9 9 _ (by omega), t9 10 _ (by omega), w.1, w.2, o9 9 _ (by omega), o9 10 _ (by omega)]
        exact hl.2 m (by omega) h2 q hq⟩
      refine ⟨N4, K4, ?_, t2, t3, t4, fun a b ha => ?_⟩
      · rw [zc_X3_keep_YB_55 _ _ _ f1, zc_X3_keep_YB_61 _ _ _ s1, zq_X3_keep_YB_71, zp_o1 (by omega)]
        exact t1
      · rw [t5 a b ha]
        by_cases h20 : a ≤ 20
        · have v := congrFun (zdy_u (n := a - 3) (by omega) (zm_mrg [(1, 8), (11, 10)] (N2, M1.2) (N3, K3))).1 b
          rw [if_neg (by omega), show 3 + (a - 3) = a by omega] at v
          have u2 := congrFun (zdy_u (n := a - 3) (by omega) (N2, M1.2)).1 b
          rw [if_neg (by omega), show 3 + (a - 3) = a by omega] at u2
          have s := congrFun (zdy_s (n := a - 3) (by omega) (N2, M1.2) (N3, K3)).1 b
          have w := s3 (a - 3) b (by omega)
          rw [← v, s]
          show N3 (a - 3) b = _
          rw [w, u2]
          show N2 a b = _
          rw [r4 a b (by omega) (by omega), q3' a b ha h20]
        · have e : zm_in [(1, 8), (11, 10)] a = false := by
            simp only [zm_in, Bool.or_false, Bool.or_eq_false_iff, Bool.and_eq_false_iff]
            refine ⟨Or.inr ?_, Or.inr ?_⟩
            · cases z : Nat.ble (a + 1) (1 + 8) with
              | false => rfl
              | true => have := Nat.le_of_ble_eq_true z; omega
            · cases z : Nat.ble (a + 1) (11 + 10) with
              | false => rfl
              | true => have := Nat.le_of_ble_eq_true z; omega
          simp only [zm_mrg, e]
          show N2 a b = _
          rw [r4 a b (by omega) (by omega), o21 a b (by omega)]
end ZDG
end
section
/-! TODAY'S DAY, as it is kept: right for the bench as it stands, or not known -/
def zd_bx (M : zm_I) : zdB := (((M.1 1 6).toInt.toNat, (M.1 1 5).toInt.toNat, (M.1 1 7).toInt.toNat), (fun c => if c < 5 then (M.1 4 c).toInt.toNat else 0), (fun c => if c < 5 then (M.1 5 c).toInt.toNat else 0), (fun k => if k < 41 then (M.1 8 k).toInt.toNat else 0), (fun k => if k < 41 then (M.1 9 k).toInt.toNat else 0), (fun k => if k < 41 then (M.1 10 k).toInt.toNat else 0), (M.1 1 3).toInt.toNat)
def zd_right (M : zm_I) : Prop := (∀ m, m ≤ 60 → ∀ q, q < 5 → q < (zd_bx M).1.1 → zdK (zd_pl (zd_bx M) (zd_bit 0) m) (M.1 30 (5 * m + q)) (M.1 31 (5 * m + q)) q) ∧ (∀ q, q < 5 → (M.1 27 q).toInt = (zd_st (zd_bx M) (zd_bit 0) 61).2.1 q) ∧ ∀ q, q < 41 → zd_bit (M.2 22 9) q = (zd_st (zd_bx M) (zd_bit 0) 61).2.2 q
def zdF (M : zm_I) : Prop := M.1 21 1 = 0 ∨ (1 ≤ (M.1 1 3).toInt → zd_right M)
def zd_U : zt_W := [(1, 3, 3), (1, 5, 7), (4, 0, 4), (5, 0, 4), (8, 0, 40), (9, 0, 40), (10, 0, 40), (21, 1, 1), (22, 9, 9), (27, 0, 4), (30, 0, 304), (31, 0, 304)]
def zo_U2 : zt_U := fun f => if f = 11 then [(1, 3, 3), (1, 5, 7), (4, 0, 4), (5, 0, 4), (8, 0, 40), (9, 0, 40), (10, 0, 40), (21, 1, 1), (22, 9, 9), (27, 0, 4), (30, 0, 304), (31, 0, 304)] else zo_U f
def zo_Rel2 (v : Nat) : Nat → zm_I → Prop := fun f M => if f = 11 then zdF M else zo_Rel v f M
theorem zd_bx_c {M M' : zm_I} (h1 : ∀ b, (b = 3 ∨ b = 5 ∨ b = 6 ∨ b = 7) → M'.1 1 b = M.1 1 b) (h4 : ∀ c, c < 5 → M'.1 4 c = M.1 4 c ∧ M'.1 5 c = M.1 5 c) (h8 : ∀ k, k < 41 → M'.1 8 k = M.1 8 k ∧ M'.1 9 k = M.1 9 k ∧ M'.1 10 k = M.1 10 k) : zd_bx M' = zd_bx M := by
  have f4 : (fun c => if c < 5 then (M'.1 4 c).toInt.toNat else 0) = fun c => if c < 5 then (M.1 4 c).toInt.toNat else 0 := funext fun c => by
    by_cases e : c < 5
    · rw [if_pos e, if_pos e, (h4 c e).1]
    · rw [if_neg e, if_neg e]
  have f5 : (fun c => if c < 5 then (M'.1 5 c).toInt.toNat else 0) = fun c => if c < 5 then (M.1 5 c).toInt.toNat else 0 := funext fun c => by
    by_cases e : c < 5
    · rw [if_pos e, if_pos e, (h4 c e).2]
    · rw [if_neg e, if_neg e]
  have f8 : (fun c => if c < 41 then (M'.1 8 c).toInt.toNat else 0) = fun c => if c < 41 then (M.1 8 c).toInt.toNat else 0 := funext fun c => by
    by_cases e : c < 41
    · rw [if_pos e, if_pos e, (h8 c e).1]
    · rw [if_neg e, if_neg e]
  have f9 : (fun c => if c < 41 then (M'.1 9 c).toInt.toNat else 0) = fun c => if c < 41 then (M.1 9 c).toInt.toNat else 0 := funext fun c => by
    by_cases e : c < 41
    · rw [if_pos e, if_pos e, (h8 c e).2.1]
    · rw [if_neg e, if_neg e]
  have f10 : (fun c => if c < 41 then (M'.1 10 c).toInt.toNat else 0) = fun c => if c < 41 then (M.1 10 c).toInt.toNat else 0 := funext fun c => by
    by_cases e : c < 41
    · rw [if_pos e, if_pos e, (h8 c e).2.2]
    · rw [if_neg e, if_neg e]
  unfold zd_bx
  rw [h1 3 (by omega), h1 5 (by omega), h1 6 (by omega), h1 7 (by omega), f4, f5, f8, f9, f10]
theorem zd_right_c {M M' : zm_I} (h : zd_right M) (hb : zd_bx M' = zd_bx M) (h27 : ∀ q, q < 5 → M'.1 27 q = M.1 27 q) (h30 : ∀ q, q < 305 → M'.1 30 q = M.1 30 q ∧ M'.1 31 q = M.1 31 q) (h22 : M'.2 22 9 = M.2 22 9) : zd_right M' := by
  unfold zd_right
  rw [hb]
  refine ⟨fun m hm q hq hc => ?_, fun q hq => ?_, fun q hq => ?_⟩
  · have w := h30 (5 * m + q) (by omega)
    rw [w.1, w.2]
    exact h.1 m hm q hq hc
  · rw [h27 q hq]
    exact h.2.1 q hq
  · rw [h22]
    exact h.2.2 q hq
theorem zdF_c {M M' : zm_I} (h : zdF M) (hk : ∀ n i, zt_hit zd_U n i = true → M'.1 n i = M.1 n i ∧ M'.2 n i = M.2 n i) : zdF M' := by
  have one : ∀ b, (b = 3 ∨ b = 5 ∨ b = 6 ∨ b = 7) → M'.1 1 b = M.1 1 b := fun b hb => by rcases hb with rfl | rfl | rfl | rfl <;> exact (hk 1 _ rfl).1
  have row : ∀ (n a : Nat), (n, 0, a) ∈ zd_U → ∀ b, b ≤ a → M'.1 n b = M.1 n b := fun n a hn b hb => (hk n b (List.any_eq_true.mpr ⟨(n, 0, a), hn, by
    simp only [Nat.beq_refl, Bool.true_and, Bool.and_eq_true, Nat.ble_eq]
    exact ⟨Nat.zero_le b, hb⟩⟩)).1
  have hb := zd_bx_c one (fun c hc => ⟨row 4 4 (by decide) c (by omega), row 5 4 (by decide) c (by omega)⟩) (fun k hk => ⟨row 8 40 (by decide) k (by omega), row 9 40 (by decide) k (by omega), row 10 40 (by decide) k (by omega)⟩)
  have e21 : M'.1 21 1 = M.1 21 1 := (hk 21 1 rfl).1
  rcases h with h | h
  · exact Or.inl (e21.trans h)
  · refine Or.inr (fun hE => zd_right_c (h ?_) hb (fun q hq => row 27 4 (by decide) q (by omega)) (fun q hq => ⟨row 30 304 (by decide) q (by omega), row 31 304 (by decide) q (by omega)⟩) (hk 22 9 rfl).2)
    rw [one 3 (by omega)] at hE
    exact hE
theorem zo_UR2 (v : Nat) : zt_UR zo_U2 (zo_Rel2 v) := by
  intro f M M' h hk
  unfold zo_Rel2 at h ⊢
  unfold zo_U2 at hk
  by_cases e : f = 11
  · rw [if_pos e] at h hk ⊢
    exact zdF_c h hk
  · rw [if_neg e] at h hk ⊢
    exact zo_UR v f M M' h hk
theorem zo_R2n {v f : Nat} {M : zm_I} (h : Nat.beq f 11 = false) : zo_Rel2 v f M ↔ zo_Rel v f M := by
  unfold zo_Rel2
  rw [if_neg (Nat.ne_of_beq_eq_false h)]
theorem zd_lift {v : Nat} {K : zt_K} {F : zm_L → List Value → zm_I → zm_R} (h : zt_Con zo_Om (zo_Rel v) K F) (hf : (K.2.2.1.2.2.all (fun f => !Nat.beq f 11) && K.2.2.2.2.all (fun o => o.2.2.2.all (fun f => !Nat.beq f 11))) = true) : zt_Con zo_Om (zo_Rel2 v) K F := by
  intro w0 G hO wl as M hW hs hc hfl hG
  simp only [Bool.and_eq_true] at hf
  obtain ⟨r, N, q1, q2, q3, o, q4, q5⟩ := h w0 G hO wl as M hW hs hc (fun f hm => (zo_R2n (by have := List.all_eq_true.mp hf.1 f hm; rw [Bool.not_eq_true'] at this; exact this)).mp (hfl f hm)) hG
  exact ⟨r, N, q1, q2, q3, o, q4, q5.1, q5.2.1, q5.2.2.1, fun f hm => (zo_R2n (by have := List.all_eq_true.mp (List.all_eq_true.mp hf.2 o q4) f hm; rw [Bool.not_eq_true'] at this; exact this)).mpr (q5.2.2.2 f hm)⟩
theorem zd_g71 : (List.range 18).all (fun n => decide (zo_g7[n]? = zo_g1[if n < 8 then 22 + n else n - 7]?)) = true := by decide +kernel
section ZDH
variable {I : Nat → Nat → Int32} {J : Nat → Nat → Int64}
/-- the bench's numbers, out of the bounds that the cells keep to -/
theorem zd_bxV {M : zm_I} (hG : zt_Gs zo_g1 M) (hE : 1 ≤ (M.1 1 3).toInt) : zdXv (zd_bx M) := by
  have g6 : (0 : Int) ≤ (M.1 1 6).toInt ∧ (M.1 1 6).toInt ≤ 5 := hG 1 _ rfl 6 _ rfl
  have g5 : (0 : Int) ≤ (M.1 1 5).toInt ∧ (M.1 1 5).toInt ≤ 6 := hG 1 _ rfl 5 _ rfl
  have g7 : (0 : Int) ≤ (M.1 1 7).toInt ∧ (M.1 1 7).toInt ≤ 41 := hG 1 _ rfl 7 _ rfl
  have g3 : (0 : Int) ≤ (M.1 1 3).toInt ∧ (M.1 1 3).toInt ≤ 30 := hG 1 _ rfl 3 _ rfl
  have r4 : ∀ c, (0 : Int) ≤ (M.1 4 c).toInt ∧ (M.1 4 c).toInt ≤ 61 := fun c => zh_ga (b := (.ofNat 0, .ofNat 61)) hG rfl c
  have r5 : ∀ c, (0 : Int) ≤ (M.1 5 c).toInt ∧ (M.1 5 c).toInt ≤ 5 := fun c => zh_ga (b := (.ofNat 0, .ofNat 5)) hG rfl c
  have r8 : ∀ c, (0 : Int) ≤ (M.1 8 c).toInt ∧ (M.1 8 c).toInt ≤ 4 := fun c => zh_ga (b := (.ofNat 0, .ofNat 4)) hG rfl c
  have r9 : ∀ c, (0 : Int) ≤ (M.1 9 c).toInt ∧ (M.1 9 c).toInt ≤ 5 := fun c => zh_ga (b := (.ofNat 0, .ofNat 5)) hG rfl c
  have r10 : ∀ c, (0 : Int) ≤ (M.1 10 c).toInt ∧ (M.1 10 c).toInt ≤ 60 := fun c => zh_ga (b := (.ofNat 0, .ofNat 60)) hG rfl c
  refine ⟨⟨?_, ?_, fun c => ?_, fun k => ?_, fun k => ?_⟩, ?_, ⟨?_, ?_⟩, fun c => ?_, fun k => ?_⟩
  · show (M.1 1 6).toInt.toNat ≤ 5
    omega
  · show (M.1 1 5).toInt.toNat ≤ 6
    omega
  · show (if c < 5 then (M.1 5 c).toInt.toNat else 0) ≤ 5
    have := r5 c
    split <;> omega
  · show (if k < 41 then (M.1 8 k).toInt.toNat else 0) ≤ 4
    have := r8 k
    split <;> omega
  · show (if k < 41 then (M.1 9 k).toInt.toNat else 0) ≤ 5
    have := r9 k
    split <;> omega
  · show (M.1 1 7).toInt.toNat ≤ 41
    omega
  · show 1 ≤ (M.1 1 3).toInt.toNat
    omega
  · show (M.1 1 3).toInt.toNat ≤ 30
    omega
  · show (if c < 5 then (M.1 4 c).toInt.toNat else 0) ≤ 61
    have := r4 c
    split <;> omega
  · show (if k < 41 then (M.1 10 k).toInt.toNat else 0) ≤ 60
    have := r10 k
    split <;> omega
theorem zd_of {x : Int32} (h : 0 ≤ x.toInt) : x = Int32.ofNat x.toInt.toNat := zh_ofZ h
theorem zd_bxB {M : zm_I} (hG : zt_Gs zo_g1 M) {K : Nat → Nat → Int32} (h : ∀ n b, n < 10 → K (8 + n) b = M.1 (1 + n) b) : zdXb (zd_bx M) K := by
  have g6 : (0 : Int) ≤ (M.1 1 6).toInt ∧ (M.1 1 6).toInt ≤ 5 := hG 1 _ rfl 6 _ rfl
  have g5 : (0 : Int) ≤ (M.1 1 5).toInt ∧ (M.1 1 5).toInt ≤ 6 := hG 1 _ rfl 5 _ rfl
  have g7 : (0 : Int) ≤ (M.1 1 7).toInt ∧ (M.1 1 7).toInt ≤ 41 := hG 1 _ rfl 7 _ rfl
  have g3 : (0 : Int) ≤ (M.1 1 3).toInt ∧ (M.1 1 3).toInt ≤ 30 := hG 1 _ rfl 3 _ rfl
  have r4 : ∀ c, (0 : Int) ≤ (M.1 4 c).toInt ∧ (M.1 4 c).toInt ≤ 61 := fun c => zh_ga (b := (.ofNat 0, .ofNat 61)) hG rfl c
  have r5 : ∀ c, (0 : Int) ≤ (M.1 5 c).toInt ∧ (M.1 5 c).toInt ≤ 5 := fun c => zh_ga (b := (.ofNat 0, .ofNat 5)) hG rfl c
  have r8 : ∀ c, (0 : Int) ≤ (M.1 8 c).toInt ∧ (M.1 8 c).toInt ≤ 4 := fun c => zh_ga (b := (.ofNat 0, .ofNat 4)) hG rfl c
  have r9 : ∀ c, (0 : Int) ≤ (M.1 9 c).toInt ∧ (M.1 9 c).toInt ≤ 5 := fun c => zh_ga (b := (.ofNat 0, .ofNat 5)) hG rfl c
  have r10 : ∀ c, (0 : Int) ≤ (M.1 10 c).toInt ∧ (M.1 10 c).toInt ≤ 60 := fun c => zh_ga (b := (.ofNat 0, .ofNat 60)) hG rfl c
  refine ⟨⟨(h 0 6 (by decide)).trans (zd_of g6.1), (h 0 5 (by decide)).trans (zd_of g5.1), (h 0 7 (by decide)).trans (zd_of g7.1), (h 0 3 (by decide)).trans (zd_of g3.1)⟩, fun c hc => ?_, fun c hc => ?_, fun k hk => ⟨?_, ?_, ?_⟩⟩
  · show K 11 c = Int32.ofNat (if c < 5 then (M.1 4 c).toInt.toNat else 0)
    rw [if_pos hc]
    exact (h 3 c (by decide)).trans (zd_of (r4 c).1)
  · show K 12 c = Int32.ofNat (if c < 5 then (M.1 5 c).toInt.toNat else 0)
    rw [if_pos hc]
    exact (h 4 c (by decide)).trans (zd_of (r5 c).1)
  · show K 15 k = Int32.ofNat (if k < 41 then (M.1 8 k).toInt.toNat else 0)
    rw [if_pos hk]
    exact (h 7 k (by decide)).trans (zd_of (r8 k).1)
  · show K 16 k = Int32.ofNat (if k < 41 then (M.1 9 k).toInt.toNat else 0)
    rw [if_pos hk]
    exact (h 8 k (by decide)).trans (zd_of (r9 k).1)
  · show K 17 k = Int32.ofNat (if k < 41 then (M.1 10 k).toInt.toNat else 0)
    rw [if_pos hk]
    exact (h 9 k (by decide)).trans (zd_of (r10 k).1)
theorem zdy_keep (hG : zt_Gs zo_g1 (I, J)) (hE : 1 ≤ (I 1 3).toInt) : ∃ N, zF_X3_keep zW_YB [.ref 0, .ref 11] (zm_sub2 [(21, 11), (1, 10)] (I, J)) = some (none, N) ∧ zdS (zd_bx (I, J)) (zd_st (zd_bx (I, J)) (zd_bit 0) 61) (zm_sub2 [(1, 8), (11, 10)] N).1 (zm_sub2 [(1, 8), (11, 10)] N).2 ∧ zdL (zd_bx (I, J)) (zd_bit 0) 61 N.1 ∧ ∀ n b, n < 10 → N.1 (11 + n) b = I (1 + n) b := by
  have hv := zd_bxV hG hE
  have y0 : ∀ n b, n < 10 → (zm_sub2 [(21, 11), (1, 10)] (I, J)).1 (11 + n) b = I (1 + n) b := fun n b hn => by
    match n, hn with
    | 0, _ => rfl
    | 1, _ => rfl
    | 2, _ => rfl
    | 3, _ => rfl
    | 4, _ => rfl
    | 5, _ => rfl
    | 6, _ => rfl
    | 7, _ => rfl
    | 8, _ => rfl
    | 9, _ => rfl
    | n + 10, h => omega
  have y1 : ∀ n b, n < 8 → (zm_sub2 [(21, 11), (1, 10)] (I, J)).1 (1 + n) b = I (22 + n) b := fun n b hn => by
    match n, hn with
    | 0, _ => rfl
    | 1, _ => rfl
    | 2, _ => rfl
    | 3, _ => rfl
    | 4, _ => rfl
    | 5, _ => rfl
    | 6, _ => rfl
    | 7, _ => rfl
    | n + 8, h => omega
  generalize zm_sub2 [(21, 11), (1, 10)] (I, J) = Y at y0 y1
  obtain ⟨F1, f1, g1⟩ := zd_fill (zm_sub2 [(9, 1)] Y)
  have m1 : ∀ a, a ≠ 9 → (zm_mrg [(9, 1)] Y (F1, (zm_sub2 [(9, 1)] Y).2)).1 a = Y.1 a := fun a ha => (zy_m0 (a := 9) (z := 1) (n := a) (by omega) _ _).1
  have n1 : (zm_mrg [(9, 1)] Y (F1, (zm_sub2 [(9, 1)] Y).2)).1 9 = F1 0 := (zy_m1 (a := 9) (z := 1) (n := 9) (by omega) (by omega) _ _).1
  have e1 : zF_X3_keep zW_YB [.ref 0, .ref 11] Y = _ := (zf_X3_keep_YB Y.1 Y.2).trans (zc_X3_keep_YB_0 Y.1 Y.2 f1)
  have e1 : zF_X3_keep zW_YB [.ref 0, .ref 11] Y = zv_X3_keep_YB_8 (zm_mrg [(9, 1)] Y (F1, (zm_sub2 [(9, 1)] Y).2)).1 (zm_mrg [(9, 1)] Y (F1, (zm_sub2 [(9, 1)] Y).2)).2 := e1
  generalize zm_mrg [(9, 1)] Y (F1, (zm_sub2 [(9, 1)] Y).2) = Y1 at m1 n1 e1
  obtain ⟨F2, f2, g2⟩ := zd_fill (zm_sub2 [(10, 1)] Y1)
  have m2 : ∀ a, a ≠ 10 → (zm_mrg [(10, 1)] Y1 (F2, (zm_sub2 [(10, 1)] Y1).2)).1 a = Y1.1 a := fun a ha => (zy_m0 (a := 10) (z := 1) (n := a) (by omega) _ _).1
  have n2 : (zm_mrg [(10, 1)] Y1 (F2, (zm_sub2 [(10, 1)] Y1).2)).1 10 = F2 0 := (zy_m1 (a := 10) (z := 1) (n := 10) (by omega) (by omega) _ _).1
  have e2 : zv_X3_keep_YB_8 Y1.1 Y1.2 = zv_X3_keep_YB_16 (zm_mrg [(10, 1)] Y1 (F2, (zm_sub2 [(10, 1)] Y1).2)).1 (zm_mrg [(10, 1)] Y1 (F2, (zm_sub2 [(10, 1)] Y1).2)).2 := zc_X3_keep_YB_8 Y1.1 Y1.2 f2
  generalize zm_mrg [(10, 1)] Y1 (F2, (zm_sub2 [(10, 1)] Y1).2) = Y2 at m2 n2 e2
  have z0 : ∀ n b, n < 10 → Y2.1 (11 + n) b = I (1 + n) b := fun n b hn => by rw [m2 _ (by omega), m1 _ (by omega), y0 n b hn]
  have z1 : ∀ n b, n < 8 → Y2.1 (1 + n) b = I (22 + n) b := fun n b hn => by rw [m2 _ (by omega), m1 _ (by omega), y1 n b hn]
  have u : ∀ n b, n < 18 → (zm_sub2 [(1, 8), (11, 10)] Y2).1 n b = I (if n < 8 then 22 + n else n - 7) b := fun n b hn => by
    rw [(zdy_u hn Y2).1]
    by_cases c : n < 8
    · rw [if_pos c, if_pos c, z1 n b c]
    · rw [if_neg c, if_neg c]
      have := z0 (n - 8) b (by omega)
      rw [show 11 + (n - 8) = 3 + n by omega, show 1 + (n - 8) = n - 7 by omega] at this
      exact this
  have hb : zdXb (zd_bx (I, J)) (zm_sub2 [(1, 8), (11, 10)] Y2).1 := zd_bxB hG (fun n b hn => by
    rw [u (8 + n) b (by omega), if_neg (by omega), show 8 + n - 7 = 1 + n by omega])
  have hG7 : zt_Gs zo_g7 (zm_sub2 [(1, 8), (11, 10)] Y2) := by
    intro n g hg i b hbb
    have hn : n < 18 := Nat.lt_of_lt_of_le (List.getElem?_eq_some_iff.mp hg).1 zo_l7
    have w := of_decide_eq_true (List.all_eq_true.mp zd_g71 n (List.mem_range.mpr hn))
    rw [w] at hg
    rw [u n i hn]
    exact hG _ g hg i b hbb
  obtain ⟨D, L, d1, d2, d3⟩ := zdS_0 (I := (zm_sub2 [(1, 8), (11, 10)] Y2).1) (J := (zm_sub2 [(1, 8), (11, 10)] Y2).2) (ms := zd_bit 0) hv hb hG7
  have e3 : zv_X3_keep_YB_16 Y2.1 Y2.2 = zv_X3_keep_YB_24 (zm_mrg [(1, 8), (11, 10)] Y2 (D, L)).1 (zm_mrg [(1, 8), (11, 10)] Y2 (D, L)).2 := zc_X3_keep_YB_16 Y2.1 Y2.2 d1
  have d2' : zdS (zd_bx (I, J)) (zd_st (zd_bx (I, J)) (zd_bit 0) 0) (zm_sub2 [(1, 8), (11, 10)] (zm_mrg [(1, 8), (11, 10)] Y2 (D, L))).1 (zm_sub2 [(1, 8), (11, 10)] (zm_mrg [(1, 8), (11, 10)] Y2 (D, L))).2 := zdS_c d2 (fun n hn => (zdy_s hn Y2 (D, L)).1) (zdy_s (n := 0) (by decide) Y2 (D, L)).2
  have o9 : ∀ b, (zm_mrg [(1, 8), (11, 10)] Y2 (D, L)).1 9 b = Y2.1 9 b ∧ (zm_mrg [(1, 8), (11, 10)] Y2 (D, L)).1 10 b = Y2.1 10 b := fun b => ⟨rfl, rfl⟩
  have ob : ∀ n b, n < 10 → (zm_mrg [(1, 8), (11, 10)] Y2 (D, L)).1 (11 + n) b = I (1 + n) b := fun n b hn => by
    have v := congrFun (zdy_u (n := 8 + n) (by omega) (zm_mrg [(1, 8), (11, 10)] Y2 (D, L))).1 b
    rw [if_neg (by omega), show 3 + (8 + n) = 11 + n by omega] at v
    rw [← v, (zdy_s (n := 8 + n) (by omega) Y2 (D, L)).1]
    show D (8 + n) b = _
    rw [d3 (8 + n) b (by omega), u (8 + n) b (by omega), if_neg (by omega), show 8 + n - 7 = 1 + n by omega]
  generalize zm_mrg [(1, 8), (11, 10)] Y2 (D, L) = Y3 at e3 d2' o9 ob
  obtain ⟨N, K, k1, k2, k3, k4, k5⟩ := zdy_26 hv 61 0 Y3.1 Y3.2 rfl d2' ⟨fun m hm => absurd hm (Nat.not_lt_zero m), fun m _ hm q hq => by
    rw [(o9 _).1, (o9 _).2, m2 9 (by decide), n1, n2, g1 _ (by omega), g2 _ (by omega)]
    exact ⟨rfl, rfl⟩⟩
  refine ⟨(N, K), ?_, k2, k3, fun n b hn => ?_⟩
  · rw [e1, e2, e3, zq_X3_keep_YB_24]
    exact k1
  · show N (11 + n) b = _
    rw [k5 _ b (by omega), ob n b hn]
end ZDH
/-- today's day, asked for, is right -/
theorem zd_lt {M N : zm_I} (hG : zt_Gs zo_g1 M) (hF : zdF M) (h : zF_X9_livedToday zW_X [.ref 0] M = some (some (.ref 21), N)) : (1 ≤ (M.1 1 3).toInt → zd_right N) ∧ ∀ n b, n < 11 → N.1 n b = M.1 n b := by
  obtain ⟨I, J⟩ := M
  rw [zf_X9_livedToday_X, zq_X9_livedToday_X_0] at h
  by_cases c : I 21 1 = 0
  · rw [if_pos c] at h
    obtain ⟨w, K, w1, -, -, -⟩ := zp_get (w0 := zW_X) (G := zo_g1) (zi_78 0 zo_hd) rfl rfl (as := [.ref 0]) (M := (I, J)) (zq_s1 zq_r0 zq_s0) zh_no hG
    have fr := (zp_get (w0 := zW_X) (G := zo_g1) (zi_78 0 zo_hd) rfl rfl (as := [.ref 0]) (M := (I, J)) (zq_s1 zq_r0 zq_s0) zh_no hG)
    obtain ⟨w, K, w1, -, w3, -⟩ := fr
    have e0 : zF_X9_livedToday zW_X [.ref 0] (I, J) = some (some (.ref 21), N) := by
      rw [zf_X9_livedToday_X, zq_X9_livedToday_X_0, if_pos c]
      exact h
    have e9 : some (some (Value.ref 21), N) = some (w, K) := e0.symm.trans w1
    cases e9
    have frm : ∀ n b, n < 11 → N.1 n b = I n b := fun n b hn => (w3 n b (by
      match n, hn with
      | 0, _ => rfl
      | 1, _ => rfl
      | 2, _ => rfl
      | 3, _ => rfl
      | 4, _ => rfl
      | 5, _ => rfl
      | 6, _ => rfl
      | 7, _ => rfl
      | 8, _ => rfl
      | 9, _ => rfl
      | 10, _ => rfl
      | n + 11, h => omega)).1
    refine ⟨fun hE => ?_, frm⟩
    obtain ⟨P, p1, p2, p3, p4⟩ := zdy_keep hG hE
    rw [zc_X9_livedToday_X_10 _ _ p1, zq_X9_livedToday_X_21] at h
    have hN : N = zm_mrg [(21, 11), (1, 10)] (I, J) P := by
      have h : some (some (Value.ref 21), zm_mrg [(21, 11), (1, 10)] (I, J) P) = some (some (Value.ref 21), N) := h
      cases h
      rfl
    have hb : zd_bx N = zd_bx (I, J) := zd_bx_c (fun b _ => frm 1 b (by decide)) (fun c _ => ⟨frm 4 c (by decide), frm 5 c (by decide)⟩) (fun k _ => ⟨frm 8 k (by decide), frm 9 k (by decide), frm 10 k (by decide)⟩)
    have n30 : ∀ b, N.1 30 b = P.1 9 b ∧ N.1 31 b = P.1 10 b := fun b => by
      rw [hN]
      exact ⟨rfl, rfl⟩
    have n27 : ∀ b, N.1 27 b = P.1 6 b := fun b => by
      rw [hN]
      rfl
    have n22 : N.2 22 9 = P.2 1 9 := by
      rw [hN]
      rfl
    unfold zd_right
    rw [hb]
    refine ⟨fun m hm q hq hc => ?_, fun q hq => ?_, fun q hq => ?_⟩
    · rw [(n30 _).1, (n30 _).2]
      exact p3.1 m (by omega) q hc
    · rw [n27]
      exact p2.2.2.1 q hq
    · rw [n22]
      exact p2.2.2.2.1 q hq
  · rw [if_neg c, zq_X9_livedToday_X_21] at h
    cases h
    rcases hF with hF | hF
    · exact absurd hF c
    · exact ⟨hF, fun _ _ _ => rfl⟩
theorem zd_ltC (v : Nat) (hd : Nat × Option Nat × Bool × List (Nat × Nat)) {pre : List zt_C} : zt_Con zo_Om (zo_Rel2 v) (hd, (1, ([zjr 0], pre, [11]), [(21, 1, 1), (22, 7, 9), (23, 0, 4), (24, 0, 4), (25, 0, 4), (26, 0, 4), (27, 0, 4), (28, 0, 4), (29, 0, 5), (30, 0, 304), (31, 0, 304)], [(some (zjr 21), [], [], [11])])) zF_X9_livedToday := by
  intro w1 G1 h1 wl as M hW hs hc hf hG
  have h1 : some (zW_X, zo_g1) = some (w1, G1) := h1
  cases h1
  obtain rfl := zh_wd hW (by decide +kernel)
  obtain ⟨vs, rfl, h2⟩ := zh_ref hs
  obtain rfl := zh_nil h2
  have hF : zdF M := by
    have := hf 11 (List.mem_singleton.mpr rfl)
    unfold zo_Rel2 at this
    rw [if_pos rfl] at this
    exact this
  obtain ⟨r, N, q1, q2, q3, o, q4, q5⟩ := zp_get (w0 := zW_X) (G := zo_g1) (zi_78 0 zo_hd) rfl rfl (as := [.ref 0]) (M := M) (zq_s1 zq_r0 zq_s0) zh_no hG
  have q4 : o = (some (zjr 21), [], [], []) := List.mem_singleton.mp q4
  subst q4
  obtain ⟨u, rfl, hu⟩ := q5.1
  have hu : u = .ref 21 := hu
  subst hu
  obtain ⟨t1, t2⟩ := zd_lt hG hF q1
  refine ⟨_, N, q1, q2, q3, _, List.mem_singleton.mpr rfl, ⟨.ref 21, rfl, rfl⟩, zh_no, zh_no, fun f hm => ?_⟩
  have hm : f = 11 := List.mem_singleton.mp hm
  subst hm
  unfold zo_Rel2
  rw [if_pos rfl]
  refine Or.inr (fun hE => t1 ?_)
  rw [t2 1 3 (by decide)] at hE
  exact hE
theorem zd_fgC (v : Nat) (hd : Nat × Option Nat × Bool × List (Nat × Nat)) {pre : List zt_C} : zt_Con zo_Om (zo_Rel2 v) (hd, (1, ([zjr 0], pre, []), [(21, 1, 1), (68, 0, 0), (72, 0, 0)], [(none, [], [], [11])])) zF_X9_forgetAnswers := by
  intro w1 G1 h1 wl as M hW hs hc hf hG
  have h1 : some (zW_X, zo_g1) = some (w1, G1) := h1
  cases h1
  obtain rfl := zh_wd hW (by decide +kernel)
  obtain ⟨vs, rfl, h2⟩ := zh_ref hs
  obtain rfl := zh_nil h2
  obtain ⟨N, q1, q2, q3⟩ := zd_get (w0 := zW_X) (G := zo_g1) (zi_54 0 zo_hd) rfl rfl rfl rfl (as := [.ref 0]) (M := M) (zq_s1 zq_r0 zq_s0) hG
  have e : zF_X9_forgetAnswers zW_X [.ref 0] M = _ := (zf_X9_forgetAnswers_X M.1 M.2).trans (zq_X9_forgetAnswers_X_0 _ _)
  rw [e] at q1
  refine ⟨none, N, e.trans q1, q2, q3, _, List.mem_singleton.mpr rfl, rfl, zh_no, zh_no, fun f hm => ?_⟩
  have hm : f = 11 := List.mem_singleton.mp hm
  subst hm
  unfold zo_Rel2
  rw [if_pos rfl]
  refine Or.inl ?_
  cases q1
  show zm_w (zm_w (zm_w M.1 21 1 0) 68 0 0) 72 0 0 21 1 = 0
  rw [ze_wo (by decide), ze_wo (by decide), ze_wi]
end
section
/-! TODAY'S DAY IS KEPT RIGHT, call by call (printed by program, wip/abs/regday.py) -/
-- X9_forgetAnswers
def zi_4000_K : Nat × (List zt_A × List zt_C × List Nat) × zt_W × List zt_O := (1, ([zjr 0], [], []), [(21, 1, 1), (68, 0, 0), (72, 0, 0)], [(none, [], [], [11])])
theorem zi_4000 (v : Nat) (hd : Nat × Option Nat × Bool × List (Nat × Nat)) : zt_Con zo_Om (zo_Rel2 v) (hd, zi_4000_K) zF_X9_forgetAnswers := zd_fgC v hd
-- X9_bench X
def zi_4001_K : Nat × (List zt_A × List zt_C × List Nat) × zt_W × List zt_O := (1, ([zjr 0], [], [11]), [(1, 0, 7), (2, 0, 5), (3, 0, 4), (4, 0, 4), (5, 0, 4), (6, 0, 4), (7, 0, 4), (8, 0, 40), (9, 0, 40), (10, 0, 40), (11, 0, 7), (12, 0, 5), (13, 0, 4), (14, 0, 4), (15, 0, 4), (16, 0, 4), (17, 0, 4), (21, 1, 1), (51, 1, 6), (68, 0, 0), (72, 0, 0)], [(some (zt_top), [], [], [11])])
def zi_4001_A : zt_An := [(0, [(([some (zjr 0), none], [], [], [11]), .ofNat 0, [])])]
def zi_4001_Ks : List (Nat × List zt_K) := [(98, [((2, some 8, false, [(0, 2), (1, 10)]), zi_52_K)]), (102, [((2, some 0, false, [(0, 10), (1, 10)]), zi_53_K)]), (106, [((1, some 9, true, []), zi_4000_K)])]
def zi_4001_H : zt_H := ((zo_w1, 1, zo_Sg), (zo_g1, zi_4001_K.2.2.1, [0], zo_U2), [], ((some .int), zi_4001_K.2.2.2, zi_4001_K.2.1.1), zi_4001_Ks)
theorem zi_4001_c : zt_chk zi_4001_H (zB_X9_bench, [], []) 6 zi_4001_A 2 (zo_hd, zi_4001_K) = true := by decide +kernel
theorem zi_4001 (v : Nat) (hd : Nat × Option Nat × Bool × List (Nat × Nat)) : zt_Con zo_Om (zo_Rel2 v) (hd, zi_4001_K) zF_X9_bench := zt_con (K := (zo_hd, zi_4001_K)) (T := zT_X9_bench) (w0 := zo_w1) (G := zo_g1) (zo_UR2 v) rfl zo_sg rfl rfl rfl (zt_ksok_of (Ks := zi_4001_Ks) (zt_k1 rfl (zt_k2 rfl (zd_lift (zi_52 v _) (by decide)) zt_k3) (zt_k1 rfl (zt_k2 rfl (zd_lift (zi_53 v _) (by decide)) zt_k3) (zt_k1 rfl (zt_k2 rfl (zi_4000 v _) zt_k3) zt_k0)))) zi_4001_c
-- X9_livedToday
def zi_4002_K : Nat × (List zt_A × List zt_C × List Nat) × zt_W × List zt_O := (1, ([zjr 0], [], [11]), [(21, 1, 1), (22, 7, 9), (23, 0, 4), (24, 0, 4), (25, 0, 4), (26, 0, 4), (27, 0, 4), (28, 0, 4), (29, 0, 5), (30, 0, 304), (31, 0, 304)], [(some (zjr 21), [], [], [11])])
theorem zi_4002 (v : Nat) (hd : Nat × Option Nat × Bool × List (Nat × Nat)) : zt_Con zo_Om (zo_Rel2 v) (hd, zi_4002_K) zF_X9_livedToday := zd_ltC v hd
-- X9_age X
def zi_4003_K : Nat × (List zt_A × List zt_C × List Nat) × zt_W × List zt_O := (1, ([zjr 0, zt_top, zt_top], [], [11]), [(21, 1, 1), (22, 7, 9), (23, 0, 4), (24, 0, 4), (25, 0, 4), (26, 0, 4), (27, 0, 4), (28, 0, 4), (29, 0, 5), (30, 0, 304), (31, 0, 304)], [(some (zj (.negSucc 1) (.ofNat 99)), [], [], [11])])
def zi_4003_A : zt_An := [(0, [(([some (zjr 0), some zt_top, some zt_top], [], [], [11]), .ofNat 1, [])]), (18, [(([some (zjr 0), some zt_top, some zt_top], [], [], [11]), .ofNat 0, [])])]
def zi_4003_Ks : List (Nat × List zt_K) := [(124, [((2, some 0, false, [(0, 10)]), zi_59_K)]), (142, [((1, none, true, []), zi_61_K)]), (145, [((1, some 9, true, []), zi_4002_K)]), (149, [((3, some 3, false, [(0, 11)]), zi_79_K)])]
def zi_4003_H : zt_H := ((zo_w1, 1, zo_Sg), (zo_g1, zi_4003_K.2.2.1, [0, 1, 2], zo_U2), [], ((some .int), zi_4003_K.2.2.2, zi_4003_K.2.1.1), zi_4003_Ks)
theorem zi_4003_c : zt_chk zi_4003_H (zB_X9_age, [], [18]) 8 zi_4003_A 3 (zo_hd, zi_4003_K) = true := by decide +kernel
theorem zi_4003 (v : Nat) (hd : Nat × Option Nat × Bool × List (Nat × Nat)) : zt_Con zo_Om (zo_Rel2 v) (hd, zi_4003_K) zF_X9_age := zt_con (K := (zo_hd, zi_4003_K)) (T := zT_X9_age) (w0 := zo_w1) (G := zo_g1) (zo_UR2 v) rfl zo_sg rfl rfl rfl (zt_ksok_of (Ks := zi_4003_Ks) (zt_k1 rfl (zt_k2 rfl (zd_lift (zi_59 v _) (by decide)) zt_k3) (zt_k1 rfl (zt_k2 rfl (zd_lift (zi_61 v _) (by decide)) zt_k3) (zt_k1 rfl (zt_k2 rfl (zi_4002 v _) zt_k3) (zt_k1 rfl (zt_k2 rfl (zd_lift (zi_79 v _) (by decide)) zt_k3) zt_k0))))) zi_4003_c
-- X9_sits X
def zi_4004_K : Nat × (List zt_A × List zt_C × List Nat) × zt_W × List zt_O := (1, ([zjr 0, zt_top, zt_top], [], [11]), [(21, 1, 1), (22, 7, 9), (23, 0, 4), (24, 0, 4), (25, 0, 4), (26, 0, 4), (27, 0, 4), (28, 0, 4), (29, 0, 5), (30, 0, 304), (31, 0, 304)], [(some (zj (.negSucc 1) (.ofNat 5)), [], [], [11])])
def zi_4004_A : zt_An := [(0, [(([some (zjr 0), some zt_top, some zt_top], [], [], [11]), .ofNat 1, [])]), (18, [(([some (zjr 0), some zt_top, some zt_top], [], [], [11]), .ofNat 0, [])])]
def zi_4004_Ks : List (Nat × List zt_K) := [(124, [((2, some 0, false, [(0, 10)]), zi_59_K)]), (142, [((1, none, true, []), zi_61_K)]), (145, [((1, some 9, true, []), zi_4002_K)]), (153, [((3, some 3, false, [(0, 11)]), zi_81_K)])]
def zi_4004_H : zt_H := ((zo_w1, 1, zo_Sg), (zo_g1, zi_4004_K.2.2.1, [0, 1, 2], zo_U2), [], ((some .int), zi_4004_K.2.2.2, zi_4004_K.2.1.1), zi_4004_Ks)
theorem zi_4004_c : zt_chk zi_4004_H (zB_X9_sits, [], [18]) 8 zi_4004_A 3 (zo_hd, zi_4004_K) = true := by decide +kernel
theorem zi_4004 (v : Nat) (hd : Nat × Option Nat × Bool × List (Nat × Nat)) : zt_Con zo_Om (zo_Rel2 v) (hd, zi_4004_K) zF_X9_sits := zt_con (K := (zo_hd, zi_4004_K)) (T := zT_X9_sits) (w0 := zo_w1) (G := zo_g1) (zo_UR2 v) rfl zo_sg rfl rfl rfl (zt_ksok_of (Ks := zi_4004_Ks) (zt_k1 rfl (zt_k2 rfl (zd_lift (zi_59 v _) (by decide)) zt_k3) (zt_k1 rfl (zt_k2 rfl (zd_lift (zi_61 v _) (by decide)) zt_k3) (zt_k1 rfl (zt_k2 rfl (zi_4002 v _) zt_k3) (zt_k1 rfl (zt_k2 rfl (zd_lift (zi_81 v _) (by decide)) zt_k3) zt_k0))))) zi_4004_c
-- X9_livedToday
def zi_4005_K : Nat × (List zt_A × List zt_C × List Nat) × zt_W × List zt_O := (1, ([zjr 0], [((1, 1, 0), .ofNat 1, .ofNat 2147483647)], [11]), [(21, 1, 1), (22, 7, 9), (23, 0, 4), (24, 0, 4), (25, 0, 4), (26, 0, 4), (27, 0, 4), (28, 0, 4), (29, 0, 5), (30, 0, 304), (31, 0, 304)], [(some (zjr 21), [], [], [11])])
theorem zi_4005 (v : Nat) (hd : Nat × Option Nat × Bool × List (Nat × Nat)) : zt_Con zo_Om (zo_Rel2 v) (hd, zi_4005_K) zF_X9_livedToday := zd_ltC v hd
-- X9_stands X
def zi_4006_K : Nat × (List zt_A × List zt_C × List Nat) × zt_W × List zt_O := (1, ([zjr 0, zt_top], [], [11]), [(21, 1, 1), (22, 7, 9), (23, 0, 4), (24, 0, 4), (25, 0, 4), (26, 0, 4), (27, 0, 4), (28, 0, 4), (29, 0, 5), (30, 0, 304), (31, 0, 304)], [(some (zt_top), [], [], [11])])
def zi_4006_A : zt_An := [(0, [(([some (zjr 0), some zt_top, none, none, none], [], [], [11]), .ofNat 12, [])]), (14, [(([some (zjr 0), some zt_top, none, none, none], [], [((1, 1, 0), .negSucc 2147483647, .ofNat 2147483647)], [11]), .ofNat 0, [])]), (27, [(([some (zjr 0), some (zj (.ofNat 0) (.ofNat 60)), some (zjr 21), some zt_top, some (zj (.ofNat 0) (.ofNat 5))], [], [((1, 1, 0), .ofNat 1, .ofNat 2147483647)], [11]), .ofNat 11, [(.negSucc 1, 4)])]), (67, [(([some (zjr 0), some (zj (.ofNat 0) (.ofNat 60)), some (zjr 21), some zt_top, some (zj (.ofNat 0) (.ofNat 4))], [], [((1, 1, 0), .ofNat 1, .ofNat 2147483647), ((1, 1, 6), .ofNat 1, .ofNat 5)], [11]), .ofNat 10, [(.negSucc 1, 4)])])]
def zi_4006_Ks : List (Nat × List zt_K) := [(142, [((1, none, true, []), zi_84_K)]), (145, [((1, some 9, true, []), zi_4005_K)]), (153, [((3, some 3, false, [(0, 11)]), zi_81_K)]), (156, [((1, some 9, true, []), zi_83_K)]), (163, [((3, some 3, false, [(0, 11)]), zi_86_K)])]
def zi_4006_H : zt_H := ((zo_w1, 1, zo_Sg), (zo_g1, zi_4006_K.2.2.1, [0, 1], zo_U2), [], ((some .int), zi_4006_K.2.2.2, zi_4006_K.2.1.1), zi_4006_Ks)
theorem zi_4006_c : zt_chk zi_4006_H (zB_X9_stands, [], [14, 27, 67]) 7 zi_4006_A 5 (zo_hd, zi_4006_K) = true := by decide +kernel
theorem zi_4006 (v : Nat) (hd : Nat × Option Nat × Bool × List (Nat × Nat)) : zt_Con zo_Om (zo_Rel2 v) (hd, zi_4006_K) zF_X9_stands := zt_con (K := (zo_hd, zi_4006_K)) (T := zT_X9_stands) (w0 := zo_w1) (G := zo_g1) (zo_UR2 v) rfl zo_sg rfl rfl rfl (zt_ksok_of (Ks := zi_4006_Ks) (zt_k1 rfl (zt_k2 rfl (zd_lift (zi_84 v _) (by decide)) zt_k3) (zt_k1 rfl (zt_k2 rfl (zi_4005 v _) zt_k3) (zt_k1 rfl (zt_k2 rfl (zd_lift (zi_81 v _) (by decide)) zt_k3) (zt_k1 rfl (zt_k2 rfl (zd_lift (zi_83 v _) (by decide)) zt_k3) (zt_k1 rfl (zt_k2 rfl (zd_lift (zi_86 v _) (by decide)) zt_k3) zt_k0)))))) zi_4006_c
-- X9_free X
def zi_4007_K : Nat × (List zt_A × List zt_C × List Nat) × zt_W × List zt_O := (1, ([zjr 0, zt_top], [], [11]), [(21, 1, 1), (22, 7, 9), (23, 0, 4), (24, 0, 4), (25, 0, 4), (26, 0, 4), (27, 0, 4), (28, 0, 4), (29, 0, 5), (30, 0, 304), (31, 0, 304)], [(some (zj (.negSucc 1) (.ofNat 63)), [], [], [11])])
def zi_4007_A : zt_An := [(0, [(([some (zjr 0), some zt_top, none, none, none, none], [], [], [11]), .ofNat 12, [])]), (14, [(([some (zjr 0), some zt_top, none, none, none, none], [], [((1, 1, 0), .negSucc 2147483647, .ofNat 2147483647)], [11]), .ofNat 0, [])]), (37, [(([some (zjr 0), some (zj (.ofNat 0) (.ofNat 60)), some (zjr 21), some (zj (.ofNat 0) (.ofNat 63)), some (zj (.ofNat 0) (.ofNat 5)), none], [], [((1, 1, 0), .ofNat 1, .ofNat 2147483647)], [11]), .ofNat 11, [(.negSucc 1, 4)])]), (73, [(([some (zjr 0), some (zj (.ofNat 0) (.ofNat 60)), some (zjr 21), some (zj (.ofNat 0) (.ofNat 63)), some (zj (.ofNat 0) (.ofNat 4)), some (zj (.negSucc 0) (.ofNat 5))], [], [((1, 1, 0), .ofNat 1, .ofNat 2147483647), ((1, 1, 6), .ofNat 1, .ofNat 5)], [11]), .ofNat 10, [(.negSucc 1, 4)])])]
def zi_4007_Ks : List (Nat × List zt_K) := [(142, [((1, none, true, []), zi_84_K)]), (145, [((1, some 9, true, []), zi_4005_K)]), (153, [((3, some 3, false, [(0, 11)]), zi_81_K)]), (156, [((1, some 9, true, []), zi_83_K)])]
def zi_4007_H : zt_H := ((zo_w1, 1, zo_Sg), (zo_g1, zi_4007_K.2.2.1, [0, 1], zo_U2), [], ((some .int), zi_4007_K.2.2.2, zi_4007_K.2.1.1), zi_4007_Ks)
theorem zi_4007_c : zt_chk zi_4007_H (zB_X9_free, [], [14, 37, 73]) 7 zi_4007_A 6 (zo_hd, zi_4007_K) = true := by decide +kernel
theorem zi_4007 (v : Nat) (hd : Nat × Option Nat × Bool × List (Nat × Nat)) : zt_Con zo_Om (zo_Rel2 v) (hd, zi_4007_K) zF_X9_free := zt_con (K := (zo_hd, zi_4007_K)) (T := zT_X9_free) (w0 := zo_w1) (G := zo_g1) (zo_UR2 v) rfl zo_sg rfl rfl rfl (zt_ksok_of (Ks := zi_4007_Ks) (zt_k1 rfl (zt_k2 rfl (zd_lift (zi_84 v _) (by decide)) zt_k3) (zt_k1 rfl (zt_k2 rfl (zi_4005 v _) zt_k3) (zt_k1 rfl (zt_k2 rfl (zd_lift (zi_81 v _) (by decide)) zt_k3) (zt_k1 rfl (zt_k2 rfl (zd_lift (zi_83 v _) (by decide)) zt_k3) zt_k0))))) zi_4007_c
-- X9_goes X
def zi_4008_K : Nat × (List zt_A × List zt_C × List Nat) × zt_W × List zt_O := (1, ([zjr 0, zt_top], [], [11]), [(21, 1, 1), (22, 7, 9), (23, 0, 4), (24, 0, 4), (25, 0, 4), (26, 0, 4), (27, 0, 4), (28, 0, 4), (29, 0, 5), (30, 0, 304), (31, 0, 304)], [(some (zj (.negSucc 1) (.ofNat 4)), [], [], [11])])
def zi_4008_A : zt_An := [(0, [(([some (zjr 0), some zt_top, none, none], [], [], [11]), .ofNat 6, [])]), (14, [(([some (zjr 0), some zt_top, none, none], [], [((1, 1, 0), .negSucc 2147483647, .ofNat 2147483647)], [11]), .ofNat 0, [])]), (27, [(([some (zjr 0), some (zj (.ofNat 0) (.ofNat 60)), some (zjr 22), some (zj (.ofNat 0) (.ofNat 5))], [], [((1, 1, 0), .ofNat 1, .ofNat 2147483647)], [11]), .ofNat 5, [(.negSucc 0, 3)])])]
def zi_4008_Ks : List (Nat × List zt_K) := [(142, [((1, none, true, []), zi_84_K)]), (145, [((1, some 9, true, []), zi_4005_K)]), (156, [((1, some 9, true, []), zi_83_K)])]
def zi_4008_H : zt_H := ((zo_w1, 1, zo_Sg), (zo_g1, zi_4008_K.2.2.1, [0, 1], zo_U2), [], ((some .int), zi_4008_K.2.2.2, zi_4008_K.2.1.1), zi_4008_Ks)
theorem zi_4008_c : zt_chk zi_4008_H (zB_X9_goes, [], [14, 27]) 7 zi_4008_A 4 (zo_hd, zi_4008_K) = true := by decide +kernel
theorem zi_4008 (v : Nat) (hd : Nat × Option Nat × Bool × List (Nat × Nat)) : zt_Con zo_Om (zo_Rel2 v) (hd, zi_4008_K) zF_X9_goes := zt_con (K := (zo_hd, zi_4008_K)) (T := zT_X9_goes) (w0 := zo_w1) (G := zo_g1) (zo_UR2 v) rfl zo_sg rfl rfl rfl (zt_ksok_of (Ks := zi_4008_Ks) (zt_k1 rfl (zt_k2 rfl (zd_lift (zi_84 v _) (by decide)) zt_k3) (zt_k1 rfl (zt_k2 rfl (zi_4005 v _) zt_k3) (zt_k1 rfl (zt_k2 rfl (zd_lift (zi_83 v _) (by decide)) zt_k3) zt_k0)))) zi_4008_c
-- X9_called X
def zi_4009_K : Nat × (List zt_A × List zt_C × List Nat) × zt_W × List zt_O := (1, ([zjr 0, zt_top], [], [11]), [(21, 1, 1), (22, 7, 9), (23, 0, 4), (24, 0, 4), (25, 0, 4), (26, 0, 4), (27, 0, 4), (28, 0, 4), (29, 0, 5), (30, 0, 304), (31, 0, 304)], [(some (zt_top), [], [], [11])])
def zi_4009_A : zt_An := [(0, [(([some (zjr 0), some zt_top], [], [], [11]), .ofNat 1, [])]), (28, [(([some (zjr 0), some zt_top], [zt_top], [], [11]), .ofNat 0, [])])]
def zi_4009_Ks : List (Nat × List zt_K) := [(124, [((2, some 0, false, [(0, 10)]), zi_59_K)]), (145, [((1, some 9, true, []), zi_4002_K)])]
def zi_4009_H : zt_H := ((zo_w1, 1, zo_Sg), (zo_g1, zi_4009_K.2.2.1, [0, 1], zo_U2), [], ((some .int), zi_4009_K.2.2.2, zi_4009_K.2.1.1), zi_4009_Ks)
theorem zi_4009_c : zt_chk zi_4009_H (zB_X9_called, [], [28]) 5 zi_4009_A 2 (zo_hd, zi_4009_K) = true := by decide +kernel
theorem zi_4009 (v : Nat) (hd : Nat × Option Nat × Bool × List (Nat × Nat)) : zt_Con zo_Om (zo_Rel2 v) (hd, zi_4009_K) zF_X9_called := zt_con (K := (zo_hd, zi_4009_K)) (T := zT_X9_called) (w0 := zo_w1) (G := zo_g1) (zo_UR2 v) rfl zo_sg rfl rfl rfl (zt_ksok_of (Ks := zi_4009_Ks) (zt_k1 rfl (zt_k2 rfl (zd_lift (zi_59 v _) (by decide)) zt_k3) (zt_k1 rfl (zt_k2 rfl (zi_4002 v _) zt_k3) zt_k0))) zi_4009_c
-- X9_ends X
def zi_4010_K : Nat × (List zt_A × List zt_C × List Nat) × zt_W × List zt_O := (1, ([zjr 0, zt_top], [], [11]), [(21, 1, 1), (22, 7, 9), (23, 0, 4), (24, 0, 4), (25, 0, 4), (26, 0, 4), (27, 0, 4), (28, 0, 4), (29, 0, 5), (30, 0, 304), (31, 0, 304)], [(some ((0, .ofNat 1, .ofNat 1, 0, [])), [(1, .ofNat 0, .ofNat 4)], [], [11]), (some (zj (.negSucc 1) (.ofNat 3)), [], [], [11]), (some ((0, .ofNat 0, .ofNat 0, 0, [])), [(1, .ofNat 0, .ofNat 4)], [], [11])])
def zi_4010_A : zt_An := [(0, [(([some (zjr 0), some zt_top], [], [], [11]), .ofNat 1, [])]), (31, [(([some (zjr 0), some (zj (.ofNat 0) (.ofNat 4))], [(0, .ofNat 1, .ofNat 1, 0, [])], [], [11]), .ofNat 0, []), (([some (zjr 0), some zt_top], [zj (.negSucc 1) (.ofNat 3)], [], [11]), .ofNat 0, []), (([some (zjr 0), some (zj (.ofNat 0) (.ofNat 4))], [(0, .ofNat 0, .ofNat 0, 0, [])], [], [11]), .ofNat 0, [])])]
def zi_4010_Ks : List (Nat × List zt_K) := [(124, [((2, some 0, false, [(0, 10)]), zi_59_K)]), (145, [((1, some 9, true, []), zi_4002_K)]), (176, [((3, some 2, false, [(0, 8), (1, 10)]), zi_91_K)])]
def zi_4010_H : zt_H := ((zo_w1, 1, zo_Sg), (zo_g1, zi_4010_K.2.2.1, [0, 1], zo_U2), [], ((some .int), zi_4010_K.2.2.2, zi_4010_K.2.1.1), zi_4010_Ks)
theorem zi_4010_c : zt_chk zi_4010_H (zB_X9_ends, [], [31]) 6 zi_4010_A 2 (zo_hd, zi_4010_K) = true := by decide +kernel
theorem zi_4010 (v : Nat) (hd : Nat × Option Nat × Bool × List (Nat × Nat)) : zt_Con zo_Om (zo_Rel2 v) (hd, zi_4010_K) zF_X9_ends := zt_con (K := (zo_hd, zi_4010_K)) (T := zT_X9_ends) (w0 := zo_w1) (G := zo_g1) (zo_UR2 v) rfl zo_sg rfl rfl rfl (zt_ksok_of (Ks := zi_4010_Ks) (zt_k1 rfl (zt_k2 rfl (zd_lift (zi_59 v _) (by decide)) zt_k3) (zt_k1 rfl (zt_k2 rfl (zi_4002 v _) zt_k3) (zt_k1 rfl (zt_k2 rfl (zd_lift (zi_91 v _) (by decide)) zt_k3) zt_k0)))) zi_4010_c
-- X9_told X
def zi_4011_K : Nat × (List zt_A × List zt_C × List Nat) × zt_W × List zt_O := (1, ([zjr 0], [], [11]), [(21, 1, 1), (22, 7, 9), (23, 0, 4), (24, 0, 4), (25, 0, 4), (26, 0, 4), (27, 0, 4), (28, 0, 4), (29, 0, 5), (30, 0, 304), (31, 0, 304)], [(some (zt_top), [], [], [11])])
def zi_4011_A : zt_An := [(0, [(([some (zjr 0)], [], [], [11]), .ofNat 1, [])]), (26, [(([some (zjr 0)], [zt_top], [((1, 1, 0), .negSucc 2147483647, .ofNat 2147483647)], [11]), .ofNat 0, [])])]
def zi_4011_Ks : List (Nat × List zt_K) := [(145, [((1, some 9, true, []), zi_4005_K)]), (156, [((1, some 9, true, []), zi_83_K)]), (180, [((2, some 2, false, [(0, 8), (1, 10)]), zi_93_K)])]
def zi_4011_H : zt_H := ((zo_w1, 1, zo_Sg), (zo_g1, zi_4011_K.2.2.1, [0], zo_U2), [], ((some .int), zi_4011_K.2.2.2, zi_4011_K.2.1.1), zi_4011_Ks)
theorem zi_4011_c : zt_chk zi_4011_H (zB_X9_told, [], [26]) 6 zi_4011_A 1 (zo_hd, zi_4011_K) = true := by decide +kernel
theorem zi_4011 (v : Nat) (hd : Nat × Option Nat × Bool × List (Nat × Nat)) : zt_Con zo_Om (zo_Rel2 v) (hd, zi_4011_K) zF_X9_told := zt_con (K := (zo_hd, zi_4011_K)) (T := zT_X9_told) (w0 := zo_w1) (G := zo_g1) (zo_UR2 v) rfl zo_sg rfl rfl rfl (zt_ksok_of (Ks := zi_4011_Ks) (zt_k1 rfl (zt_k2 rfl (zi_4005 v _) zt_k3) (zt_k1 rfl (zt_k2 rfl (zd_lift (zi_83 v _) (by decide)) zt_k3) (zt_k1 rfl (zt_k2 rfl (zd_lift (zi_93 v _) (by decide)) zt_k3) zt_k0)))) zi_4011_c
-- X9_forgotten X
def zi_4012_K : Nat × (List zt_A × List zt_C × List Nat) × zt_W × List zt_O := (1, ([zjr 0], [], [11]), [(21, 1, 1), (22, 7, 9), (23, 0, 4), (24, 0, 4), (25, 0, 4), (26, 0, 4), (27, 0, 4), (28, 0, 4), (29, 0, 5), (30, 0, 304), (31, 0, 304)], [(some (zt_top), [], [], [11])])
def zi_4012_A : zt_An := [(0, [(([some (zjr 0)], [], [], [11]), .ofNat 1, [])]), (26, [(([some (zjr 0)], [zt_top], [((1, 1, 0), .negSucc 2147483647, .ofNat 2147483647)], [11]), .ofNat 0, [])])]
def zi_4012_Ks : List (Nat × List zt_K) := [(145, [((1, some 9, true, []), zi_4005_K)]), (156, [((1, some 9, true, []), zi_83_K)]), (184, [((2, some 2, false, [(0, 8), (1, 10)]), zi_95_K)])]
def zi_4012_H : zt_H := ((zo_w1, 1, zo_Sg), (zo_g1, zi_4012_K.2.2.1, [0], zo_U2), [], ((some .int), zi_4012_K.2.2.2, zi_4012_K.2.1.1), zi_4012_Ks)
theorem zi_4012_c : zt_chk zi_4012_H (zB_X9_forgotten, [], [26]) 6 zi_4012_A 1 (zo_hd, zi_4012_K) = true := by decide +kernel
theorem zi_4012 (v : Nat) (hd : Nat × Option Nat × Bool × List (Nat × Nat)) : zt_Con zo_Om (zo_Rel2 v) (hd, zi_4012_K) zF_X9_forgotten := zt_con (K := (zo_hd, zi_4012_K)) (T := zT_X9_forgotten) (w0 := zo_w1) (G := zo_g1) (zo_UR2 v) rfl zo_sg rfl rfl rfl (zt_ksok_of (Ks := zi_4012_Ks) (zt_k1 rfl (zt_k2 rfl (zi_4005 v _) zt_k3) (zt_k1 rfl (zt_k2 rfl (zd_lift (zi_83 v _) (by decide)) zt_k3) (zt_k1 rfl (zt_k2 rfl (zd_lift (zi_95 v _) (by decide)) zt_k3) zt_k0)))) zi_4012_c
-- X9_gun X
def zi_4013_K : Nat × (List zt_A × List zt_C × List Nat) × zt_W × List zt_O := (1, ([zjr 0], [], [11]), [(21, 1, 1), (22, 7, 9), (23, 0, 4), (24, 0, 4), (25, 0, 4), (26, 0, 4), (27, 0, 4), (28, 0, 4), (29, 0, 5), (30, 0, 304), (31, 0, 304)], [(some (zt_top), [], [], [11])])
def zi_4013_A : zt_An := [(0, [(([some (zjr 0), none, none, none, none], [], [], [11]), .ofNat 24, [])]), (22, [(([some (zjr 0), some (zjr 22), some zt_top, some (zj (.ofNat 0) (.ofNat 5)), none], [], [((1, 1, 0), .ofNat 1, .ofNat 2147483647)], [11]), .ofNat 23, [(.negSucc 3, 3)])]), (51, [(([some (zjr 0), some (zjr 22), some zt_top, some (zj (.ofNat 0) (.ofNat 4)), none], [(0, .ofNat 1, .ofNat 1, 0, [])], [((1, 1, 0), .ofNat 1, .ofNat 2147483647), ((1, 1, 6), .ofNat 1, .ofNat 5)], [11]), .ofNat 22, [(.negSucc 3, 3)]), (([some (zjr 0), some (zjr 22), some zt_top, some (zj (.ofNat 0) (.ofNat 4)), none], [(0, .ofNat 0, .ofNat 0, 0, [])], [((1, 1, 0), .ofNat 1, .ofNat 2147483647), ((1, 1, 6), .ofNat 1, .ofNat 5)], [11]), .ofNat 21, [(.negSucc 3, 3)])]), (73, [(([some (zjr 0), some (zjr 22), some (zj (.negSucc 2147483646) (.ofNat 2147483647)), some (zj (.ofNat 0) (.ofNat 4)), some (0, .ofNat 1, .ofNat 1, 0, [])], [], [((1, 1, 0), .ofNat 1, .ofNat 2147483647), ((1, 1, 6), .ofNat 1, .ofNat 5)], [11]), .ofNat 21, [(.negSucc 3, 3)])]), (80, [(([some (zjr 0), some (zjr 22), some zt_top, some (zj (.ofNat 0) (.ofNat 4)), some (zj (.ofNat 0) (.ofNat 1))], [], [((1, 1, 0), .ofNat 1, .ofNat 2147483647), ((1, 1, 6), .ofNat 1, .ofNat 5)], [11]), .ofNat 20, [(.negSucc 3, 3)])])]
def zi_4013_Ks : List (Nat × List zt_K) := [(145, [((1, some 9, true, []), zi_4005_K)]), (156, [((1, some 9, true, []), zi_83_K)]), (176, [((3, some 2, false, [(0, 8), (1, 10)]), zi_91_K)])]
def zi_4013_H : zt_H := ((zo_w1, 1, zo_Sg), (zo_g1, zi_4013_K.2.2.1, [0], zo_U2), [], ((some .int), zi_4013_K.2.2.2, zi_4013_K.2.1.1), zi_4013_Ks)
theorem zi_4013_c : zt_chk zi_4013_H (zB_X9_gun, [], [22, 51, 73, 80]) 5 zi_4013_A 5 (zo_hd, zi_4013_K) = true := by decide +kernel
theorem zi_4013 (v : Nat) (hd : Nat × Option Nat × Bool × List (Nat × Nat)) : zt_Con zo_Om (zo_Rel2 v) (hd, zi_4013_K) zF_X9_gun := zt_con (K := (zo_hd, zi_4013_K)) (T := zT_X9_gun) (w0 := zo_w1) (G := zo_g1) (zo_UR2 v) rfl zo_sg rfl rfl rfl (zt_ksok_of (Ks := zi_4013_Ks) (zt_k1 rfl (zt_k2 rfl (zi_4005 v _) zt_k3) (zt_k1 rfl (zt_k2 rfl (zd_lift (zi_83 v _) (by decide)) zt_k3) (zt_k1 rfl (zt_k2 rfl (zd_lift (zi_91 v _) (by decide)) zt_k3) zt_k0)))) zi_4013_c
-- X9_waits X
def zi_4014_K : Nat × (List zt_A × List zt_C × List Nat) × zt_W × List zt_O := (1, ([zjr 0, zt_top], [], [11]), [(21, 1, 1), (22, 7, 9), (23, 0, 4), (24, 0, 4), (25, 0, 4), (26, 0, 4), (27, 0, 4), (28, 0, 4), (29, 0, 5), (30, 0, 304), (31, 0, 304)], [(some (zt_top), [], [], [11])])
def zi_4014_A : zt_An := [(0, [(([some (zjr 0), some zt_top, none], [], [], [11]), .ofNat 1, [])]), (38, [(([some (zjr 0), some (zj (.ofNat 0) (.ofNat 4)), some (0, .negSucc 2147483647, .ofNat 2147483647, 1, [(2, 27, 1, .ofNat 0)])], [zt_top], [((2, 27, 1), .negSucc 2147483647, .ofNat 2147483647)], [11]), .ofNat 0, [])])]
def zi_4014_Ks : List (Nat × List zt_K) := [(124, [((2, some 0, false, [(0, 10)]), zi_59_K)]), (145, [((1, some 9, true, []), zi_4002_K)])]
def zi_4014_H : zt_H := ((zo_w1, 1, zo_Sg), (zo_g1, zi_4014_K.2.2.1, [0, 1], zo_U2), [], ((some .int), zi_4014_K.2.2.2, zi_4014_K.2.1.1), zi_4014_Ks)
theorem zi_4014_c : zt_chk zi_4014_H (zB_X9_waits, [], [38]) 6 zi_4014_A 3 (zo_hd, zi_4014_K) = true := by decide +kernel
theorem zi_4014 (v : Nat) (hd : Nat × Option Nat × Bool × List (Nat × Nat)) : zt_Con zo_Om (zo_Rel2 v) (hd, zi_4014_K) zF_X9_waits := zt_con (K := (zo_hd, zi_4014_K)) (T := zT_X9_waits) (w0 := zo_w1) (G := zo_g1) (zo_UR2 v) rfl zo_sg rfl rfl rfl (zt_ksok_of (Ks := zi_4014_Ks) (zt_k1 rfl (zt_k2 rfl (zd_lift (zi_59 v _) (by decide)) zt_k3) (zt_k1 rfl (zt_k2 rfl (zi_4002 v _) zt_k3) zt_k0))) zi_4014_c
-- X9_worn X
def zi_4015_K : Nat × (List zt_A × List zt_C × List Nat) × zt_W × List zt_O := (1, ([zjr 0, zt_top, zt_top], [], [11]), [(21, 1, 1), (22, 7, 9), (23, 0, 4), (24, 0, 4), (25, 0, 4), (26, 0, 4), (27, 0, 4), (28, 0, 4), (29, 0, 5), (30, 0, 304), (31, 0, 304)], [(some (zt_top), [], [], [11])])
def zi_4015_A : zt_An := [(0, [(([some (zjr 0), some zt_top, some zt_top], [], [], [11]), .ofNat 1, [])]), (22, [(([some (zjr 0), some zt_top, some zt_top], [], [], [11]), .ofNat 0, [])])]
def zi_4015_Ks : List (Nat × List zt_K) := [(118, [((2, some 0, false, [(0, 10)]), zi_57_K)]), (124, [((2, some 0, false, [(0, 10)]), zi_59_K)]), (145, [((1, some 9, true, []), zi_4002_K)]), (187, [((3, some 3, false, [(0, 11)]), zi_99_K)])]
def zi_4015_H : zt_H := ((zo_w1, 1, zo_Sg), (zo_g1, zi_4015_K.2.2.1, [0, 1, 2], zo_U2), [], ((some .int), zi_4015_K.2.2.2, zi_4015_K.2.1.1), zi_4015_Ks)
theorem zi_4015_c : zt_chk zi_4015_H (zB_X9_worn, [], [22]) 8 zi_4015_A 3 (zo_hd, zi_4015_K) = true := by decide +kernel
theorem zi_4015 (v : Nat) (hd : Nat × Option Nat × Bool × List (Nat × Nat)) : zt_Con zo_Om (zo_Rel2 v) (hd, zi_4015_K) zF_X9_worn := zt_con (K := (zo_hd, zi_4015_K)) (T := zT_X9_worn) (w0 := zo_w1) (G := zo_g1) (zo_UR2 v) rfl zo_sg rfl rfl rfl (zt_ksok_of (Ks := zi_4015_Ks) (zt_k1 rfl (zt_k2 rfl (zd_lift (zi_57 v _) (by decide)) zt_k3) (zt_k1 rfl (zt_k2 rfl (zd_lift (zi_59 v _) (by decide)) zt_k3) (zt_k1 rfl (zt_k2 rfl (zi_4002 v _) zt_k3) (zt_k1 rfl (zt_k2 rfl (zd_lift (zi_99 v _) (by decide)) zt_k3) zt_k0))))) zi_4015_c
-- X9_dip X
def zi_4016_K : Nat × (List zt_A × List zt_C × List Nat) × zt_W × List zt_O := (1, ([zjr 0, zt_top], [], [11]), [(21, 1, 1), (22, 7, 9), (23, 0, 4), (24, 0, 4), (25, 0, 4), (26, 0, 4), (27, 0, 4), (28, 0, 4), (29, 0, 5), (30, 0, 304), (31, 0, 304)], [(some (zt_top), [], [], [11])])
def zi_4016_A : zt_An := [(0, [(([some (zjr 0), some zt_top], [], [], [11]), .ofNat 1, [])]), (25, [(([some (zjr 0), some zt_top], [zt_top], [], [11]), .ofNat 0, [])])]
def zi_4016_Ks : List (Nat × List zt_K) := [(118, [((2, some 0, false, [(0, 10)]), zi_57_K)]), (145, [((1, some 9, true, []), zi_4002_K)]), (190, [((3, some 9, true, []), zi_101_K)])]
def zi_4016_H : zt_H := ((zo_w1, 1, zo_Sg), (zo_g1, zi_4016_K.2.2.1, [0, 1], zo_U2), [], ((some .int), zi_4016_K.2.2.2, zi_4016_K.2.1.1), zi_4016_Ks)
theorem zi_4016_c : zt_chk zi_4016_H (zB_X9_dip, [], [25]) 6 zi_4016_A 2 (zo_hd, zi_4016_K) = true := by decide +kernel
theorem zi_4016 (v : Nat) (hd : Nat × Option Nat × Bool × List (Nat × Nat)) : zt_Con zo_Om (zo_Rel2 v) (hd, zi_4016_K) zF_X9_dip := zt_con (K := (zo_hd, zi_4016_K)) (T := zT_X9_dip) (w0 := zo_w1) (G := zo_g1) (zo_UR2 v) rfl zo_sg rfl rfl rfl (zt_ksok_of (Ks := zi_4016_Ks) (zt_k1 rfl (zt_k2 rfl (zd_lift (zi_57 v _) (by decide)) zt_k3) (zt_k1 rfl (zt_k2 rfl (zi_4002 v _) zt_k3) (zt_k1 rfl (zt_k2 rfl (zd_lift (zi_101 v _) (by decide)) zt_k3) zt_k0)))) zi_4016_c
-- X9_deepest X
def zi_4017_K : Nat × (List zt_A × List zt_C × List Nat) × zt_W × List zt_O := (1, ([zjr 0], [], [11]), [(21, 1, 1), (22, 7, 9), (23, 0, 4), (24, 0, 4), (25, 0, 4), (26, 0, 4), (27, 0, 4), (28, 0, 4), (29, 0, 5), (30, 0, 304), (31, 0, 304)], [(some (zj (.negSucc 1) (.ofNat 5)), [], [], [11])])
def zi_4017_A : zt_An := [(0, [(([some (zjr 0), none, none, none, none, none], [], [], [11]), .ofNat 14, [])]), (22, [(([some (zjr 0), some (zjr 21), some (zj (.negSucc 0) (.ofNat 5)), some (zj (.ofNat 0) (.ofNat 2147483647)), some (zj (.ofNat 0) (.ofNat 6)), none], [], [((1, 1, 0), .ofNat 1, .ofNat 2147483647)], [11]), .ofNat 13, [(.negSucc 1, 4)])]), (55, [(([some (zjr 0), some (zjr 21), some (zj (.negSucc 0) (.ofNat 5)), some (zj (.ofNat 0) (.ofNat 2147483647)), some (zj (.ofNat 0) (.ofNat 5)), some zt_top], [], [((1, 1, 0), .ofNat 1, .ofNat 2147483647), ((1, 1, 5), .ofNat 1, .ofNat 6)], [11]), .ofNat 12, [(.negSucc 1, 4)])])]
def zi_4017_Ks : List (Nat × List zt_K) := [(145, [((1, some 9, true, []), zi_4005_K)]), (156, [((1, some 9, true, []), zi_83_K)]), (190, [((3, some 9, true, []), zi_103_K)])]
def zi_4017_H : zt_H := ((zo_w1, 1, zo_Sg), (zo_g1, zi_4017_K.2.2.1, [0], zo_U2), [], ((some .int), zi_4017_K.2.2.2, zi_4017_K.2.1.1), zi_4017_Ks)
theorem zi_4017_c : zt_chk zi_4017_H (zB_X9_deepest, [], [22, 55]) 5 zi_4017_A 6 (zo_hd, zi_4017_K) = true := by decide +kernel
theorem zi_4017 (v : Nat) (hd : Nat × Option Nat × Bool × List (Nat × Nat)) : zt_Con zo_Om (zo_Rel2 v) (hd, zi_4017_K) zF_X9_deepest := zt_con (K := (zo_hd, zi_4017_K)) (T := zT_X9_deepest) (w0 := zo_w1) (G := zo_g1) (zo_UR2 v) rfl zo_sg rfl rfl rfl (zt_ksok_of (Ks := zi_4017_Ks) (zt_k1 rfl (zt_k2 rfl (zi_4005 v _) zt_k3) (zt_k1 rfl (zt_k2 rfl (zd_lift (zi_83 v _) (by decide)) zt_k3) (zt_k1 rfl (zt_k2 rfl (zd_lift (zi_103 v _) (by decide)) zt_k3) zt_k0)))) zi_4017_c
-- X9_youngest X
def zi_4018_K : Nat × (List zt_A × List zt_C × List Nat) × zt_W × List zt_O := (1, ([zjr 0, zt_top], [], [11]), [(21, 1, 1), (22, 7, 9), (23, 0, 4), (24, 0, 4), (25, 0, 4), (26, 0, 4), (27, 0, 4), (28, 0, 4), (29, 0, 5), (30, 0, 304), (31, 0, 304)], [(some (zj (.negSucc 1) (.ofNat 4)), [], [], [11])])
def zi_4018_A : zt_An := [(0, [(([some (zjr 0), some zt_top], [], [], [11]), .ofNat 1, [])]), (14, [(([some (zjr 0), some zt_top], [], [((1, 1, 0), .negSucc 2147483647, .ofNat 2147483647)], [11]), .ofNat 0, [])])]
def zi_4018_Ks : List (Nat × List zt_K) := [(142, [((1, none, true, []), zi_84_K)]), (145, [((1, some 9, true, []), zi_4005_K)]), (156, [((1, some 9, true, []), zi_83_K)]), (194, [((4, some 9, true, []), zi_105_K)])]
def zi_4018_H : zt_H := ((zo_w1, 1, zo_Sg), (zo_g1, zi_4018_K.2.2.1, [0, 1], zo_U2), [], ((some .int), zi_4018_K.2.2.2, zi_4018_K.2.1.1), zi_4018_Ks)
theorem zi_4018_c : zt_chk zi_4018_H (zB_X9_youngest, [], [14]) 8 zi_4018_A 2 (zo_hd, zi_4018_K) = true := by decide +kernel
theorem zi_4018 (v : Nat) (hd : Nat × Option Nat × Bool × List (Nat × Nat)) : zt_Con zo_Om (zo_Rel2 v) (hd, zi_4018_K) zF_X9_youngest := zt_con (K := (zo_hd, zi_4018_K)) (T := zT_X9_youngest) (w0 := zo_w1) (G := zo_g1) (zo_UR2 v) rfl zo_sg rfl rfl rfl (zt_ksok_of (Ks := zi_4018_Ks) (zt_k1 rfl (zt_k2 rfl (zd_lift (zi_84 v _) (by decide)) zt_k3) (zt_k1 rfl (zt_k2 rfl (zi_4005 v _) zt_k3) (zt_k1 rfl (zt_k2 rfl (zd_lift (zi_83 v _) (by decide)) zt_k3) (zt_k1 rfl (zt_k2 rfl (zd_lift (zi_105 v _) (by decide)) zt_k3) zt_k0))))) zi_4018_c
-- X9_oldest X
def zi_4019_K : Nat × (List zt_A × List zt_C × List Nat) × zt_W × List zt_O := (1, ([zjr 0, zt_top], [], [11]), [(21, 1, 1), (22, 7, 9), (23, 0, 4), (24, 0, 4), (25, 0, 4), (26, 0, 4), (27, 0, 4), (28, 0, 4), (29, 0, 5), (30, 0, 304), (31, 0, 304)], [(some (zj (.negSucc 1) (.ofNat 4)), [], [], [11])])
def zi_4019_A : zt_An := [(0, [(([some (zjr 0), some zt_top], [], [], [11]), .ofNat 1, [])]), (14, [(([some (zjr 0), some zt_top], [], [((1, 1, 0), .negSucc 2147483647, .ofNat 2147483647)], [11]), .ofNat 0, [])])]
def zi_4019_Ks : List (Nat × List zt_K) := [(142, [((1, none, true, []), zi_84_K)]), (145, [((1, some 9, true, []), zi_4005_K)]), (156, [((1, some 9, true, []), zi_83_K)]), (194, [((4, some 9, true, []), zi_105_K)])]
def zi_4019_H : zt_H := ((zo_w1, 1, zo_Sg), (zo_g1, zi_4019_K.2.2.1, [0, 1], zo_U2), [], ((some .int), zi_4019_K.2.2.2, zi_4019_K.2.1.1), zi_4019_Ks)
theorem zi_4019_c : zt_chk zi_4019_H (zB_X9_oldest, [], [14]) 8 zi_4019_A 2 (zo_hd, zi_4019_K) = true := by decide +kernel
theorem zi_4019 (v : Nat) (hd : Nat × Option Nat × Bool × List (Nat × Nat)) : zt_Con zo_Om (zo_Rel2 v) (hd, zi_4019_K) zF_X9_oldest := zt_con (K := (zo_hd, zi_4019_K)) (T := zT_X9_oldest) (w0 := zo_w1) (G := zo_g1) (zo_UR2 v) rfl zo_sg rfl rfl rfl (zt_ksok_of (Ks := zi_4019_Ks) (zt_k1 rfl (zt_k2 rfl (zd_lift (zi_84 v _) (by decide)) zt_k3) (zt_k1 rfl (zt_k2 rfl (zi_4005 v _) zt_k3) (zt_k1 rfl (zt_k2 rfl (zd_lift (zi_83 v _) (by decide)) zt_k3) (zt_k1 rfl (zt_k2 rfl (zd_lift (zi_105 v _) (by decide)) zt_k3) zt_k0))))) zi_4019_c
-- X9_meets X
def zi_4020_K : Nat × (List zt_A × List zt_C × List Nat) × zt_W × List zt_O := (1, ([zjr 0, zt_top, zt_top], [], [11]), [(21, 1, 1), (22, 7, 9), (23, 0, 4), (24, 0, 4), (25, 0, 4), (26, 0, 4), (27, 0, 4), (28, 0, 4), (29, 0, 5), (30, 0, 304), (31, 0, 304)], [(some (zj (.negSucc 1) (.ofNat 60)), [], [], [11])])
def zi_4020_A : zt_An := [(0, [(([some (zjr 0), some zt_top, some zt_top, none, none], [], [], [11]), .ofNat 62, [])]), (22, [(([some (zjr 0), some zt_top, some zt_top, none, none], [], [], [11]), .ofNat 0, [])]), (33, [(([some (zjr 0), some (zj (.ofNat 0) (.ofNat 4)), some (zj (.ofNat 0) (.ofNat 4)), some (zjr 21), some (zj (.ofNat 0) (.ofNat 61))], [], [], [11]), .ofNat 61, [(.negSucc 0, 4)])])]
def zi_4020_Ks : List (Nat × List zt_K) := [(124, [((2, some 0, false, [(0, 10)]), zi_59_K)]), (145, [((1, some 9, true, []), zi_4002_K)]), (198, [((4, some 3, false, [(0, 11)]), zi_108_K)])]
def zi_4020_H : zt_H := ((zo_w1, 1, zo_Sg), (zo_g1, zi_4020_K.2.2.1, [0, 1, 2], zo_U2), [], ((some .int), zi_4020_K.2.2.2, zi_4020_K.2.1.1), zi_4020_Ks)
theorem zi_4020_c : zt_chk zi_4020_H (zB_X9_meets, [], [22, 33]) 7 zi_4020_A 5 (zo_hd, zi_4020_K) = true := by decide +kernel
theorem zi_4020 (v : Nat) (hd : Nat × Option Nat × Bool × List (Nat × Nat)) : zt_Con zo_Om (zo_Rel2 v) (hd, zi_4020_K) zF_X9_meets := zt_con (K := (zo_hd, zi_4020_K)) (T := zT_X9_meets) (w0 := zo_w1) (G := zo_g1) (zo_UR2 v) rfl zo_sg rfl rfl rfl (zt_ksok_of (Ks := zi_4020_Ks) (zt_k1 rfl (zt_k2 rfl (zd_lift (zi_59 v _) (by decide)) zt_k3) (zt_k1 rfl (zt_k2 rfl (zi_4002 v _) zt_k3) (zt_k1 rfl (zt_k2 rfl (zd_lift (zi_108 v _) (by decide)) zt_k3) zt_k0)))) zi_4020_c
-- X9_ripe X
def zi_4021_K : Nat × (List zt_A × List zt_C × List Nat) × zt_W × List zt_O := (1, ([zjr 0, zt_top], [], [11]), [(21, 1, 1), (22, 7, 9), (23, 0, 4), (24, 0, 4), (25, 0, 4), (26, 0, 4), (27, 0, 4), (28, 0, 4), (29, 0, 5), (30, 0, 304), (31, 0, 304)], [(some (zj (.negSucc 1) (.ofNat 60)), [], [], [11])])
def zi_4021_A : zt_An := [(0, [(([some (zjr 0), some zt_top, none, none], [], [], [11]), .ofNat 62, [])]), (21, [(([some (zjr 0), some (zj (.ofNat 0) (.ofNat 4)), some (zjr 21), some (zj (.ofNat 0) (.ofNat 61))], [], [], [11]), .ofNat 61, [(.negSucc 0, 3)])])]
def zi_4021_Ks : List (Nat × List zt_K) := [(124, [((2, some 0, false, [(0, 10)]), zi_59_K)]), (145, [((1, some 9, true, []), zi_4002_K)]), (202, [((4, some 9, true, []), zi_111_K)])]
def zi_4021_H : zt_H := ((zo_w1, 1, zo_Sg), (zo_g1, zi_4021_K.2.2.1, [0, 1], zo_U2), [], ((some .int), zi_4021_K.2.2.2, zi_4021_K.2.1.1), zi_4021_Ks)
theorem zi_4021_c : zt_chk zi_4021_H (zB_X9_ripe, [], [21]) 5 zi_4021_A 4 (zo_hd, zi_4021_K) = true := by decide +kernel
theorem zi_4021 (v : Nat) (hd : Nat × Option Nat × Bool × List (Nat × Nat)) : zt_Con zo_Om (zo_Rel2 v) (hd, zi_4021_K) zF_X9_ripe := zt_con (K := (zo_hd, zi_4021_K)) (T := zT_X9_ripe) (w0 := zo_w1) (G := zo_g1) (zo_UR2 v) rfl zo_sg rfl rfl rfl (zt_ksok_of (Ks := zi_4021_Ks) (zt_k1 rfl (zt_k2 rfl (zd_lift (zi_59 v _) (by decide)) zt_k3) (zt_k1 rfl (zt_k2 rfl (zi_4002 v _) zt_k3) (zt_k1 rfl (zt_k2 rfl (zd_lift (zi_111 v _) (by decide)) zt_k3) zt_k0)))) zi_4021_c
-- X9_window X
def zi_4022_K : Nat × (List zt_A × List zt_C × List Nat) × zt_W × List zt_O := (1, ([zjr 0, zt_top], [], [11]), [(21, 1, 1), (22, 7, 9), (23, 0, 4), (24, 0, 4), (25, 0, 4), (26, 0, 4), (27, 0, 4), (28, 0, 4), (29, 0, 5), (30, 0, 304), (31, 0, 304)], [(some (zt_top), [], [], [11])])
def zi_4022_A : zt_An := [(0, [(([some (zjr 0), some zt_top, none, none, none], [], [], [11]), .ofNat 124, [])]), (24, [(([some (zjr 0), some (zj (.ofNat 0) (.ofNat 4)), some (zjr 21), some zt_top, some (zj (.ofNat 0) (.ofNat 61))], [], [], [11]), .ofNat 123, [(.negSucc 1, 4)])]), (45, [(([some (zjr 0), some (zj (.ofNat 0) (.ofNat 4)), some (zjr 21), some zt_top, some (zj (.ofNat 0) (.ofNat 60))], [], [], [11]), .ofNat 122, [(.negSucc 1, 4)])])]
def zi_4022_Ks : List (Nat × List zt_K) := [(124, [((2, some 0, false, [(0, 10)]), zi_59_K)]), (145, [((1, some 9, true, []), zi_4002_K)]), (202, [((4, some 9, true, []), zi_111_K)])]
def zi_4022_H : zt_H := ((zo_w1, 1, zo_Sg), (zo_g1, zi_4022_K.2.2.1, [0, 1], zo_U2), [], ((some .int), zi_4022_K.2.2.2, zi_4022_K.2.1.1), zi_4022_Ks)
theorem zi_4022_c : zt_chk zi_4022_H (zB_X9_window, [], [24, 45]) 5 zi_4022_A 5 (zo_hd, zi_4022_K) = true := by decide +kernel
theorem zi_4022 (v : Nat) (hd : Nat × Option Nat × Bool × List (Nat × Nat)) : zt_Con zo_Om (zo_Rel2 v) (hd, zi_4022_K) zF_X9_window := zt_con (K := (zo_hd, zi_4022_K)) (T := zT_X9_window) (w0 := zo_w1) (G := zo_g1) (zo_UR2 v) rfl zo_sg rfl rfl rfl (zt_ksok_of (Ks := zi_4022_Ks) (zt_k1 rfl (zt_k2 rfl (zd_lift (zi_59 v _) (by decide)) zt_k3) (zt_k1 rfl (zt_k2 rfl (zi_4002 v _) zt_k3) (zt_k1 rfl (zt_k2 rfl (zd_lift (zi_111 v _) (by decide)) zt_k3) zt_k0)))) zi_4022_c
-- X9_misses X
def zi_4023_K : Nat × (List zt_A × List zt_C × List Nat) × zt_W × List zt_O := (1, ([zjr 0, zt_top], [], [11]), [(21, 1, 1), (22, 7, 9), (23, 0, 4), (24, 0, 4), (25, 0, 4), (26, 0, 4), (27, 0, 4), (28, 0, 4), (29, 0, 5), (30, 0, 304), (31, 0, 304)], [(some (zj (.negSucc 1) (.ofNat 99)), [], [], [11])])
def zi_4023_A : zt_An := [(0, [(([some (zjr 0), some zt_top, none, none], [], [], [11]), .ofNat 0, [])])]
def zi_4023_Ks : List (Nat × List zt_K) := [(124, [((2, some 0, false, [(0, 10)]), zi_59_K)]), (145, [((1, some 9, true, []), zi_4002_K)])]
def zi_4023_H : zt_H := ((zo_w1, 1, zo_Sg), (zo_g1, zi_4023_K.2.2.1, [0, 1], zo_U2), [], ((some .int), zi_4023_K.2.2.2, zi_4023_K.2.1.1), zi_4023_Ks)
theorem zi_4023_c : zt_chk zi_4023_H (zB_X9_misses, [], []) 6 zi_4023_A 4 (zo_hd, zi_4023_K) = true := by decide +kernel
theorem zi_4023 (v : Nat) (hd : Nat × Option Nat × Bool × List (Nat × Nat)) : zt_Con zo_Om (zo_Rel2 v) (hd, zi_4023_K) zF_X9_misses := zt_con (K := (zo_hd, zi_4023_K)) (T := zT_X9_misses) (w0 := zo_w1) (G := zo_g1) (zo_UR2 v) rfl zo_sg rfl rfl rfl (zt_ksok_of (Ks := zi_4023_Ks) (zt_k1 rfl (zt_k2 rfl (zd_lift (zi_59 v _) (by decide)) zt_k3) (zt_k1 rfl (zt_k2 rfl (zi_4002 v _) zt_k3) zt_k0))) zi_4023_c
-- X9_grown X
def zi_4024_K : Nat × (List zt_A × List zt_C × List Nat) × zt_W × List zt_O := (1, ([zjr 0, zt_top], [], [11]), [(21, 1, 1), (22, 7, 9), (23, 0, 4), (24, 0, 4), (25, 0, 4), (26, 0, 4), (27, 0, 4), (28, 0, 4), (29, 0, 5), (30, 0, 304), (31, 0, 304)], [(some (zj (.negSucc 99) (.ofNat 99)), [], [], [11])])
def zi_4024_A : zt_An := [(0, [(([some (zjr 0), some zt_top, none], [], [], [11]), .ofNat 1, [])]), (52, [(([some (zjr 0), some (zj (.ofNat 0) (.ofNat 4)), some (zjr 22)], [zj (.negSucc 98) (.ofNat 99)], [((2, 27, 1), .negSucc 2147483647, .ofNat 2147483647)], [11]), .ofNat 0, [])])]
def zi_4024_Ks : List (Nat × List zt_K) := [(124, [((2, some 0, false, [(0, 10)]), zi_59_K)]), (145, [((1, some 9, true, []), zi_4002_K)])]
def zi_4024_H : zt_H := ((zo_w1, 1, zo_Sg), (zo_g1, zi_4024_K.2.2.1, [0, 1], zo_U2), [], ((some .int), zi_4024_K.2.2.2, zi_4024_K.2.1.1), zi_4024_Ks)
theorem zi_4024_c : zt_chk zi_4024_H (zB_X9_grown, [], [52]) 6 zi_4024_A 3 (zo_hd, zi_4024_K) = true := by decide +kernel
theorem zi_4024 (v : Nat) (hd : Nat × Option Nat × Bool × List (Nat × Nat)) : zt_Con zo_Om (zo_Rel2 v) (hd, zi_4024_K) zF_X9_grown := zt_con (K := (zo_hd, zi_4024_K)) (T := zT_X9_grown) (w0 := zo_w1) (G := zo_g1) (zo_UR2 v) rfl zo_sg rfl rfl rfl (zt_ksok_of (Ks := zi_4024_Ks) (zt_k1 rfl (zt_k2 rfl (zd_lift (zi_59 v _) (by decide)) zt_k3) (zt_k1 rfl (zt_k2 rfl (zi_4002 v _) zt_k3) zt_k0))) zi_4024_c
-- X9_beside X
def zi_4025_K : Nat × (List zt_A × List zt_C × List Nat) × zt_W × List zt_O := (1, ([zjr 0, zt_top, zt_top], [], [11]), [(21, 1, 1), (22, 7, 9), (23, 0, 4), (24, 0, 4), (25, 0, 4), (26, 0, 4), (27, 0, 4), (28, 0, 4), (29, 0, 5), (30, 0, 304), (31, 0, 304)], [(some (zt_top), [], [], [11])])
def zi_4025_A : zt_An := [(0, [(([some (zjr 0), some zt_top, some zt_top, none, none, none, none, none], [], [], [11]), .ofNat 13, [])]), (18, [(([some (zjr 0), some zt_top, some zt_top, none, none, none, none, none], [], [], [11]), .ofNat 0, [])]), (40, [(([some (zjr 0), some (zj (.ofNat 0) (.ofNat 4)), some (zj (.ofNat 0) (.ofNat 60)), some (zjr 21), some (zj (.negSucc 0) (.ofNat 5)), some zt_top, some (zj (.ofNat 0) (.ofNat 5)), none], [], [], [11]), .ofNat 12, [(.negSucc 1, 6)])]), (94, [(([some (zjr 0), some (zj (.ofNat 0) (.ofNat 4)), some (zj (.ofNat 0) (.ofNat 60)), some (zjr 21), some (zj (.ofNat 0) (.ofNat 5)), some zt_top, some (zj (.ofNat 0) (.ofNat 4)), some (zj (.negSucc 0) (.ofNat 5))], [], [((1, 1, 6), .ofNat 1, .ofNat 5)], [11]), .ofNat 11, [(.negSucc 1, 6)])]), (100, [(([some (zjr 0), some (zj (.ofNat 0) (.ofNat 4)), some (zj (.ofNat 0) (.ofNat 60)), some (zjr 21), some (zj (.negSucc 0) (.ofNat 5)), some zt_top, some (zj (.ofNat 0) (.ofNat 5)), none], [], [], [11]), .ofNat 0, [])])]
def zi_4025_Ks : List (Nat × List zt_K) := [(124, [((2, some 0, false, [(0, 10)]), zi_59_K)]), (142, [((1, none, true, []), zi_61_K)]), (145, [((1, some 9, true, []), zi_4002_K)]), (153, [((3, some 3, false, [(0, 11)]), zi_81_K)])]
def zi_4025_H : zt_H := ((zo_w1, 1, zo_Sg), (zo_g1, zi_4025_K.2.2.1, [0, 1, 2], zo_U2), [], ((some .int), zi_4025_K.2.2.2, zi_4025_K.2.1.1), zi_4025_Ks)
theorem zi_4025_c : zt_chk zi_4025_H (zB_X9_beside, [], [18, 40, 94, 100]) 8 zi_4025_A 8 (zo_hd, zi_4025_K) = true := by decide +kernel
theorem zi_4025 (v : Nat) (hd : Nat × Option Nat × Bool × List (Nat × Nat)) : zt_Con zo_Om (zo_Rel2 v) (hd, zi_4025_K) zF_X9_beside := zt_con (K := (zo_hd, zi_4025_K)) (T := zT_X9_beside) (w0 := zo_w1) (G := zo_g1) (zo_UR2 v) rfl zo_sg rfl rfl rfl (zt_ksok_of (Ks := zi_4025_Ks) (zt_k1 rfl (zt_k2 rfl (zd_lift (zi_59 v _) (by decide)) zt_k3) (zt_k1 rfl (zt_k2 rfl (zd_lift (zi_61 v _) (by decide)) zt_k3) (zt_k1 rfl (zt_k2 rfl (zi_4002 v _) zt_k3) (zt_k1 rfl (zt_k2 rfl (zd_lift (zi_81 v _) (by decide)) zt_k3) zt_k0))))) zi_4025_c
-- X9_crowd X
def zi_4026_K : Nat × (List zt_A × List zt_C × List Nat) × zt_W × List zt_O := (1, ([zjr 0], [], [11]), [(21, 1, 1), (22, 7, 9), (23, 0, 4), (24, 0, 4), (25, 0, 4), (26, 0, 4), (27, 0, 4), (28, 0, 4), (29, 0, 5), (30, 0, 304), (31, 0, 304)], [(some (zj (.negSucc 1) (.ofNat 2147483647)), [], [], [11])])
def zi_4026_A : zt_An := [(0, [(([some (zjr 0), none, none, none, none, none], [], [], [11]), .ofNat 806, [])]), (19, [(([some (zjr 0), some (zjr 21), some (zj (.ofNat 0) (.ofNat 2147483647)), some (zj (.ofNat 0) (.ofNat 61)), none, none], [], [((1, 1, 0), .ofNat 1, .ofNat 2147483647)], [11]), .ofNat 805, [(.negSucc 12, 3)])]), (31, [(([some (zjr 0), some (zjr 21), some (zj (.ofNat 0) (.ofNat 2147483647)), some (zj (.ofNat 0) (.ofNat 60)), some zt_top, some (zj (.ofNat 0) (.ofNat 5))], [], [((1, 1, 0), .ofNat 1, .ofNat 2147483647)], [11]), .ofNat 804, [(.negSucc 12, 3), (.negSucc 1, 5)])]), (56, [(([some (zjr 0), some (zjr 21), some (zj (.ofNat 0) (.ofNat 2147483647)), some (zj (.ofNat 0) (.ofNat 60)), some zt_top, some (zj (.ofNat 0) (.ofNat 4))], [], [((1, 1, 0), .ofNat 1, .ofNat 2147483647), ((1, 1, 6), .ofNat 1, .ofNat 5)], [11]), .ofNat 803, [(.negSucc 12, 3), (.negSucc 1, 5)])])]
def zi_4026_Ks : List (Nat × List zt_K) := [(145, [((1, some 9, true, []), zi_4005_K)]), (156, [((1, some 9, true, []), zi_83_K)]), (163, [((3, some 3, false, [(0, 11)]), zi_86_K)])]
def zi_4026_H : zt_H := ((zo_w1, 1, zo_Sg), (zo_g1, zi_4026_K.2.2.1, [0], zo_U2), [], ((some .int), zi_4026_K.2.2.2, zi_4026_K.2.1.1), zi_4026_Ks)
theorem zi_4026_c : zt_chk zi_4026_H (zB_X9_crowd, [], [19, 31, 56]) 5 zi_4026_A 6 (zo_hd, zi_4026_K) = true := by decide +kernel
theorem zi_4026 (v : Nat) (hd : Nat × Option Nat × Bool × List (Nat × Nat)) : zt_Con zo_Om (zo_Rel2 v) (hd, zi_4026_K) zF_X9_crowd := zt_con (K := (zo_hd, zi_4026_K)) (T := zT_X9_crowd) (w0 := zo_w1) (G := zo_g1) (zo_UR2 v) rfl zo_sg rfl rfl rfl (zt_ksok_of (Ks := zi_4026_Ks) (zt_k1 rfl (zt_k2 rfl (zi_4005 v _) zt_k3) (zt_k1 rfl (zt_k2 rfl (zd_lift (zi_83 v _) (by decide)) zt_k3) (zt_k1 rfl (zt_k2 rfl (zd_lift (zi_86 v _) (by decide)) zt_k3) zt_k0)))) zi_4026_c
-- X9_next X
def zi_4027_K : Nat × (List zt_A × List zt_C × List Nat) × zt_W × List zt_O := (1, ([zjr 0, zt_top], [], [11]), [(21, 1, 1), (22, 7, 9), (23, 0, 4), (24, 0, 4), (25, 0, 4), (26, 0, 4), (27, 0, 4), (28, 0, 4), (29, 0, 5), (30, 0, 304), (31, 0, 304)], [(some (zj (.negSucc 1) (.ofNat 4)), [], [], [11])])
def zi_4027_A : zt_An := [(0, [(([some (zjr 0), some zt_top, none, none, none], [], [], [11]), .ofNat 18, [])]), (14, [(([some (zjr 0), some zt_top, none, none, none], [], [((1, 1, 0), .negSucc 2147483647, .ofNat 2147483647)], [11]), .ofNat 0, [])]), (27, [(([some (zjr 0), some (zj (.ofNat 0) (.ofNat 60)), some (zjr 21), some (zj (.negSucc 0) (.ofNat 4)), some (zj (.ofNat 0) (.ofNat 5))], [], [((1, 1, 0), .ofNat 1, .ofNat 2147483647)], [11]), .ofNat 17, [(.negSucc 2, 4)])]), (76, [(([some (zjr 0), some (zj (.ofNat 0) (.ofNat 60)), some (zjr 21), some (zj (.negSucc 0) (.ofNat 4)), some (zj (.ofNat 0) (.ofNat 4))], [], [((1, 1, 0), .ofNat 1, .ofNat 2147483647), ((1, 1, 6), .ofNat 1, .ofNat 5)], [11]), .ofNat 16, [(.negSucc 2, 4)])]), (79, [(([some (zjr 0), some (zj (.ofNat 0) (.ofNat 60)), some (zjr 21), some (zj (.negSucc 0) (.ofNat 4)), some (zj (.ofNat 0) (.ofNat 4))], [], [((1, 1, 0), .ofNat 1, .ofNat 2147483647), ((1, 1, 6), .ofNat 1, .ofNat 5)], [11]), .ofNat 15, [(.negSucc 2, 4)])])]
def zi_4027_Ks : List (Nat × List zt_K) := [(142, [((1, none, true, []), zi_84_K)]), (145, [((1, some 9, true, []), zi_4005_K)]), (156, [((1, some 9, true, []), zi_83_K)]), (163, [((3, some 3, false, [(0, 11)]), zi_86_K)])]
def zi_4027_H : zt_H := ((zo_w1, 1, zo_Sg), (zo_g1, zi_4027_K.2.2.1, [0, 1], zo_U2), [], ((some .int), zi_4027_K.2.2.2, zi_4027_K.2.1.1), zi_4027_Ks)
theorem zi_4027_c : zt_chk zi_4027_H (zB_X9_next, [], [14, 27, 76, 79]) 7 zi_4027_A 5 (zo_hd, zi_4027_K) = true := by decide +kernel
theorem zi_4027 (v : Nat) (hd : Nat × Option Nat × Bool × List (Nat × Nat)) : zt_Con zo_Om (zo_Rel2 v) (hd, zi_4027_K) zF_X9_next := zt_con (K := (zo_hd, zi_4027_K)) (T := zT_X9_next) (w0 := zo_w1) (G := zo_g1) (zo_UR2 v) rfl zo_sg rfl rfl rfl (zt_ksok_of (Ks := zi_4027_Ks) (zt_k1 rfl (zt_k2 rfl (zd_lift (zi_84 v _) (by decide)) zt_k3) (zt_k1 rfl (zt_k2 rfl (zi_4005 v _) zt_k3) (zt_k1 rfl (zt_k2 rfl (zd_lift (zi_83 v _) (by decide)) zt_k3) (zt_k1 rfl (zt_k2 rfl (zd_lift (zi_86 v _) (by decide)) zt_k3) zt_k0))))) zi_4027_c
-- X9_years X
def zi_4028_K : Nat × (List zt_A × List zt_C × List Nat) × zt_W × List zt_O := (1, ([zjr 0, zt_top], [], [11]), [(21, 1, 1), (22, 7, 9), (23, 0, 4), (24, 0, 4), (25, 0, 4), (26, 0, 4), (27, 0, 4), (28, 0, 4), (29, 0, 5), (30, 0, 304), (31, 0, 304)], [(some (zt_top), [], [], [11])])
def zi_4028_A : zt_An := [(0, [(([some (zjr 0), some zt_top, none, none, none], [], [], [11]), .ofNat 12, [])]), (14, [(([some (zjr 0), some zt_top, none, none, none], [], [((1, 1, 0), .negSucc 2147483647, .ofNat 2147483647)], [11]), .ofNat 0, [])]), (27, [(([some (zjr 0), some (zj (.ofNat 0) (.ofNat 60)), some (zjr 21), some zt_top, some (zj (.ofNat 0) (.ofNat 5))], [], [((1, 1, 0), .ofNat 1, .ofNat 2147483647)], [11]), .ofNat 11, [(.negSucc 1, 4)])]), (59, [(([some (zjr 0), some (zj (.ofNat 0) (.ofNat 60)), some (zjr 21), some zt_top, some (zj (.ofNat 0) (.ofNat 4))], [], [((1, 1, 0), .ofNat 1, .ofNat 2147483647), ((1, 1, 6), .ofNat 1, .ofNat 5)], [11]), .ofNat 10, [(.negSucc 1, 4)])])]
def zi_4028_Ks : List (Nat × List zt_K) := [(142, [((1, none, true, []), zi_84_K)]), (145, [((1, some 9, true, []), zi_4005_K)]), (149, [((3, some 3, false, [(0, 11)]), zi_79_K)]), (156, [((1, some 9, true, []), zi_83_K)]), (163, [((3, some 3, false, [(0, 11)]), zi_86_K)])]
def zi_4028_H : zt_H := ((zo_w1, 1, zo_Sg), (zo_g1, zi_4028_K.2.2.1, [0, 1], zo_U2), [], ((some .int), zi_4028_K.2.2.2, zi_4028_K.2.1.1), zi_4028_Ks)
theorem zi_4028_c : zt_chk zi_4028_H (zB_X9_years, [], [14, 27, 59]) 7 zi_4028_A 5 (zo_hd, zi_4028_K) = true := by decide +kernel
theorem zi_4028 (v : Nat) (hd : Nat × Option Nat × Bool × List (Nat × Nat)) : zt_Con zo_Om (zo_Rel2 v) (hd, zi_4028_K) zF_X9_years := zt_con (K := (zo_hd, zi_4028_K)) (T := zT_X9_years) (w0 := zo_w1) (G := zo_g1) (zo_UR2 v) rfl zo_sg rfl rfl rfl (zt_ksok_of (Ks := zi_4028_Ks) (zt_k1 rfl (zt_k2 rfl (zd_lift (zi_84 v _) (by decide)) zt_k3) (zt_k1 rfl (zt_k2 rfl (zi_4005 v _) zt_k3) (zt_k1 rfl (zt_k2 rfl (zd_lift (zi_79 v _) (by decide)) zt_k3) (zt_k1 rfl (zt_k2 rfl (zd_lift (zi_83 v _) (by decide)) zt_k3) (zt_k1 rfl (zt_k2 rfl (zd_lift (zi_86 v _) (by decide)) zt_k3) zt_k0)))))) zi_4028_c
-- X9_last X
def zi_4029_K : Nat × (List zt_A × List zt_C × List Nat) × zt_W × List zt_O := (1, ([zjr 0], [], [11]), [(21, 1, 1), (22, 7, 9), (23, 0, 4), (24, 0, 4), (25, 0, 4), (26, 0, 4), (27, 0, 4), (28, 0, 4), (29, 0, 5), (30, 0, 304), (31, 0, 304)], [(some (zj (.negSucc 1) (.ofNat 2147483647)), [], [], [11])])
def zi_4029_A : zt_An := [(0, [(([some (zjr 0), none, none, none], [], [], [11]), .ofNat 6, [])]), (22, [(([some (zjr 0), some (zjr 22), some (zj (.negSucc 0) (.ofNat 2147483647)), some (zj (.ofNat 0) (.ofNat 5))], [], [((1, 1, 0), .ofNat 1, .ofNat 2147483647)], [11]), .ofNat 5, [(.negSucc 0, 3)])])]
def zi_4029_Ks : List (Nat × List zt_K) := [(145, [((1, some 9, true, []), zi_4005_K)]), (156, [((1, some 9, true, []), zi_83_K)])]
def zi_4029_H : zt_H := ((zo_w1, 1, zo_Sg), (zo_g1, zi_4029_K.2.2.1, [0], zo_U2), [], ((some .int), zi_4029_K.2.2.2, zi_4029_K.2.1.1), zi_4029_Ks)
theorem zi_4029_c : zt_chk zi_4029_H (zB_X9_last, [], [22]) 5 zi_4029_A 4 (zo_hd, zi_4029_K) = true := by decide +kernel
theorem zi_4029 (v : Nat) (hd : Nat × Option Nat × Bool × List (Nat × Nat)) : zt_Con zo_Om (zo_Rel2 v) (hd, zi_4029_K) zF_X9_last := zt_con (K := (zo_hd, zi_4029_K)) (T := zT_X9_last) (w0 := zo_w1) (G := zo_g1) (zo_UR2 v) rfl zo_sg rfl rfl rfl (zt_ksok_of (Ks := zi_4029_Ks) (zt_k1 rfl (zt_k2 rfl (zi_4005 v _) zt_k3) (zt_k1 rfl (zt_k2 rfl (zd_lift (zi_83 v _) (by decide)) zt_k3) zt_k0))) zi_4029_c
-- X9_twins X
def zi_4030_K : Nat × (List zt_A × List zt_C × List Nat) × zt_W × List zt_O := (1, ([zjr 0, zt_top], [], [11]), [(21, 1, 1), (22, 7, 9), (23, 0, 4), (24, 0, 4), (25, 0, 4), (26, 0, 4), (27, 0, 4), (28, 0, 4), (29, 0, 5), (30, 0, 304), (31, 0, 304)], [(some (zt_top), [], [], [11])])
def zi_4030_A : zt_An := [(0, [(([some (zjr 0), some zt_top, none, none, none, none], [], [], [11]), .ofNat 66, [])]), (14, [(([some (zjr 0), some zt_top, none, none, none, none], [], [((1, 1, 0), .negSucc 2147483647, .ofNat 2147483647)], [11]), .ofNat 0, [])]), (27, [(([some (zjr 0), some (zj (.ofNat 0) (.ofNat 60)), some (zjr 21), some zt_top, some (zj (.ofNat 0) (.ofNat 5)), none], [], [((1, 1, 0), .ofNat 1, .ofNat 2147483647)], [11]), .ofNat 65, [(.negSucc 10, 4)])]), (45, [(([some (zjr 0), some (zj (.ofNat 0) (.ofNat 60)), some (zjr 21), some zt_top, some (zj (.ofNat 0) (.ofNat 4)), some (zj (.ofNat 1) (.ofNat 5))], [], [((1, 1, 0), .ofNat 1, .ofNat 2147483647), ((1, 1, 6), .ofNat 1, .ofNat 5)], [11]), .ofNat 66, [(.negSucc 10, 4), (.negSucc 1, 5)])]), (72, [(([some (zjr 0), some (zj (.ofNat 0) (.ofNat 60)), some (zjr 21), some zt_top, some (zj (.ofNat 0) (.ofNat 4)), some (zj (.ofNat 1) (.ofNat 4))], [], [((1, 1, 0), .ofNat 1, .ofNat 2147483647), ((1, 1, 6), .ofNat 2, .ofNat 5)], [11]), .ofNat 65, [(.negSucc 10, 4), (.negSucc 1, 5)])])]
def zi_4030_Ks : List (Nat × List zt_K) := [(142, [((1, none, true, []), zi_84_K)]), (145, [((1, some 9, true, []), zi_4005_K)]), (156, [((1, some 9, true, []), zi_83_K)]), (198, [((4, some 3, false, [(0, 11)]), zi_108_K)])]
def zi_4030_H : zt_H := ((zo_w1, 1, zo_Sg), (zo_g1, zi_4030_K.2.2.1, [0, 1], zo_U2), [], ((some .int), zi_4030_K.2.2.2, zi_4030_K.2.1.1), zi_4030_Ks)
theorem zi_4030_c : zt_chk zi_4030_H (zB_X9_twins, [], [14, 27, 45, 72]) 7 zi_4030_A 6 (zo_hd, zi_4030_K) = true := by decide +kernel
theorem zi_4030 (v : Nat) (hd : Nat × Option Nat × Bool × List (Nat × Nat)) : zt_Con zo_Om (zo_Rel2 v) (hd, zi_4030_K) zF_X9_twins := zt_con (K := (zo_hd, zi_4030_K)) (T := zT_X9_twins) (w0 := zo_w1) (G := zo_g1) (zo_UR2 v) rfl zo_sg rfl rfl rfl (zt_ksok_of (Ks := zi_4030_Ks) (zt_k1 rfl (zt_k2 rfl (zd_lift (zi_84 v _) (by decide)) zt_k3) (zt_k1 rfl (zt_k2 rfl (zi_4005 v _) zt_k3) (zt_k1 rfl (zt_k2 rfl (zd_lift (zi_83 v _) (by decide)) zt_k3) (zt_k1 rfl (zt_k2 rfl (zd_lift (zi_108 v _) (by decide)) zt_k3) zt_k0))))) zi_4030_c
-- X9_opens X
def zi_4031_K : Nat × (List zt_A × List zt_C × List Nat) × zt_W × List zt_O := (1, ([zjr 0, zt_top], [], [11]), [(21, 1, 1), (22, 7, 9), (23, 0, 4), (24, 0, 4), (25, 0, 4), (26, 0, 4), (27, 0, 4), (28, 0, 4), (29, 0, 5), (30, 0, 304), (31, 0, 304)], [(some (zj (.negSucc 1) (.ofNat 4)), [], [], [11])])
def zi_4031_A : zt_An := [(0, [(([some (zjr 0), some zt_top, none, none, none], [], [], [11]), .ofNat 434, [])]), (21, [(([some (zjr 0), some (zj (.ofNat 0) (.ofNat 5)), some (zjr 21), some (zj (.ofNat 0) (.ofNat 61)), none], [], [], [11]), .ofNat 433, [(.negSucc 6, 3)])]), (30, [(([some (zjr 0), some (zj (.ofNat 0) (.ofNat 5)), some (zjr 21), some (zj (.ofNat 0) (.ofNat 60)), some (zj (.ofNat 0) (.ofNat 5))], [], [], [11]), .ofNat 432, [(.negSucc 6, 3), (.negSucc 0, 4)])])]
def zi_4031_Ks : List (Nat × List zt_K) := [(118, [((2, some 0, false, [(0, 10)]), zi_57_K)]), (145, [((1, some 9, true, []), zi_4002_K)]), (153, [((3, some 3, false, [(0, 11)]), zi_81_K)])]
def zi_4031_H : zt_H := ((zo_w1, 1, zo_Sg), (zo_g1, zi_4031_K.2.2.1, [0, 1], zo_U2), [], ((some .int), zi_4031_K.2.2.2, zi_4031_K.2.1.1), zi_4031_Ks)
theorem zi_4031_c : zt_chk zi_4031_H (zB_X9_opens, [], [21, 30]) 5 zi_4031_A 5 (zo_hd, zi_4031_K) = true := by decide +kernel
theorem zi_4031 (v : Nat) (hd : Nat × Option Nat × Bool × List (Nat × Nat)) : zt_Con zo_Om (zo_Rel2 v) (hd, zi_4031_K) zF_X9_opens := zt_con (K := (zo_hd, zi_4031_K)) (T := zT_X9_opens) (w0 := zo_w1) (G := zo_g1) (zo_UR2 v) rfl zo_sg rfl rfl rfl (zt_ksok_of (Ks := zi_4031_Ks) (zt_k1 rfl (zt_k2 rfl (zd_lift (zi_57 v _) (by decide)) zt_k3) (zt_k1 rfl (zt_k2 rfl (zi_4002 v _) zt_k3) (zt_k1 rfl (zt_k2 rfl (zd_lift (zi_81 v _) (by decide)) zt_k3) zt_k0)))) zi_4031_c
-- X9_told X
def zi_4032_K : Nat × (List zt_A × List zt_C × List Nat) × zt_W × List zt_O := (1, ([zjr 0], [], [11]), [(21, 1, 1), (22, 7, 9), (23, 0, 4), (24, 0, 4), (25, 0, 4), (26, 0, 4), (27, 0, 4), (28, 0, 4), (29, 0, 5), (30, 0, 304), (31, 0, 304)], [(some (zt_top), [], [], [11])])
def zi_4032_A : zt_An := [(0, [(([some (zjr 0)], [], [], [11]), .ofNat 1, [])]), (26, [(([some (zjr 0)], [zt_top], [((1, 1, 0), .negSucc 2147483647, .ofNat 2147483647)], [11]), .ofNat 0, [])])]
def zi_4032_Ks : List (Nat × List zt_K) := [(145, [((1, some 9, true, []), zi_4005_K)]), (156, [((1, some 9, true, []), zi_83_K)]), (180, [((2, some 2, false, [(0, 8), (1, 10)]), zi_93_K)])]
def zi_4032_H : zt_H := ((zo_w1, 1, zo_Sg), (zo_g1, zi_4032_K.2.2.1, [0], zo_U2), [], ((some .int), zi_4032_K.2.2.2, zi_4032_K.2.1.1), zi_4032_Ks)
theorem zi_4032_c : zt_chk zi_4032_H (zB_X9_told, [], [26]) 6 zi_4032_A 1 (zo_hd, zi_4032_K) = true := by decide +kernel
theorem zi_4032 (v : Nat) (hd : Nat × Option Nat × Bool × List (Nat × Nat)) : zt_Con zo_Om (zo_Rel2 v) (hd, zi_4032_K) zF_X9_told := zt_con (K := (zo_hd, zi_4032_K)) (T := zT_X9_told) (w0 := zo_w1) (G := zo_g1) (zo_UR2 v) rfl zo_sg rfl rfl rfl (zt_ksok_of (Ks := zi_4032_Ks) (zt_k1 rfl (zt_k2 rfl (zi_4005 v _) zt_k3) (zt_k1 rfl (zt_k2 rfl (zd_lift (zi_83 v _) (by decide)) zt_k3) (zt_k1 rfl (zt_k2 rfl (zd_lift (zi_93 v _) (by decide)) zt_k3) zt_k0)))) zi_4032_c
-- X9_helps X
def zi_4033_K : Nat × (List zt_A × List zt_C × List Nat) × zt_W × List zt_O := (1, ([zjr 0, zt_top], [], [11]), [(11, 0, 7), (12, 0, 5), (13, 0, 4), (14, 0, 4), (15, 0, 4), (16, 0, 4), (17, 0, 4), (18, 0, 40), (19, 0, 40), (20, 0, 40), (21, 1, 1), (22, 7, 9), (23, 0, 4), (24, 0, 4), (25, 0, 4), (26, 0, 4), (27, 0, 4), (28, 0, 4), (29, 0, 5), (30, 0, 304), (31, 0, 304), (43, 7, 9), (44, 0, 4), (45, 0, 4), (46, 0, 4), (47, 0, 4), (48, 0, 4), (49, 0, 4), (50, 0, 5)], [(some (zt_top), [], [], [11])])
def zi_4033_A : zt_An := [(0, [(([some (zjr 0), some zt_top, none], [], [], [11]), .ofNat 1, [])]), (25, [(([some (zjr 0), some zt_top, some zt_top], [zt_top], [], [11]), .ofNat 0, [])])]
def zi_4033_Ks : List (Nat × List zt_K) := [(222, [((2, some 9, true, []), zi_125_K)]), (225, [((1, some 9, true, []), zi_4032_K)])]
def zi_4033_H : zt_H := ((zo_w1, 1, zo_Sg), (zo_g1, zi_4033_K.2.2.1, [0, 1], zo_U2), [], ((some .int), zi_4033_K.2.2.2, zi_4033_K.2.1.1), zi_4033_Ks)
theorem zi_4033_c : zt_chk zi_4033_H (zB_X9_helps, [], [25]) 5 zi_4033_A 3 (zo_hd, zi_4033_K) = true := by decide +kernel
theorem zi_4033 (v : Nat) (hd : Nat × Option Nat × Bool × List (Nat × Nat)) : zt_Con zo_Om (zo_Rel2 v) (hd, zi_4033_K) zF_X9_helps := zt_con (K := (zo_hd, zi_4033_K)) (T := zT_X9_helps) (w0 := zo_w1) (G := zo_g1) (zo_UR2 v) rfl zo_sg rfl rfl rfl (zt_ksok_of (Ks := zi_4033_Ks) (zt_k1 rfl (zt_k2 rfl (zd_lift (zi_125 v _) (by decide)) zt_k3) (zt_k1 rfl (zt_k2 rfl (zi_4032 v _) zt_k3) zt_k0))) zi_4033_c
-- X9_swaps X
def zi_4034_K : Nat × (List zt_A × List zt_C × List Nat) × zt_W × List zt_O := (1, ([zjr 0], [], [11]), [(11, 0, 7), (12, 0, 5), (13, 0, 4), (14, 0, 4), (15, 0, 4), (16, 0, 4), (17, 0, 4), (18, 0, 40), (19, 0, 40), (20, 0, 40), (21, 1, 1), (22, 7, 9), (23, 0, 4), (24, 0, 4), (25, 0, 4), (26, 0, 4), (27, 0, 4), (28, 0, 4), (29, 0, 5), (30, 0, 304), (31, 0, 304), (43, 7, 9), (44, 0, 4), (45, 0, 4), (46, 0, 4), (47, 0, 4), (48, 0, 4), (49, 0, 4), (50, 0, 5)], [(some (zt_top), [], [], [11])])
def zi_4034_A : zt_An := [(0, [(([some (zjr 0), none, none, none, none], [], [], [11]), .ofNat 66, [])]), (29, [(([some (zjr 0), some zt_top, some zt_top, some (zj (.ofNat 0) (.ofNat 5)), none], [], [((1, 1, 0), .ofNat 1, .ofNat 2147483647)], [11]), .ofNat 65, [(.negSucc 10, 3)])]), (45, [(([some (zjr 0), some zt_top, some zt_top, some (zj (.ofNat 0) (.ofNat 4)), some (zj (.ofNat 1) (.ofNat 5))], [], [((1, 1, 0), .ofNat 1, .ofNat 2147483647), ((1, 1, 6), .ofNat 1, .ofNat 5)], [11]), .ofNat 66, [(.negSucc 10, 3), (.negSucc 1, 4)])]), (71, [(([some (zjr 0), some zt_top, some zt_top, some (zj (.ofNat 0) (.ofNat 4)), some (zj (.ofNat 1) (.ofNat 4))], [], [((1, 1, 0), .ofNat 1, .ofNat 2147483647), ((1, 1, 6), .ofNat 2, .ofNat 5)], [11]), .ofNat 65, [(.negSucc 10, 3), (.negSucc 1, 4)])])]
def zi_4034_Ks : List (Nat × List zt_K) := [(145, [((1, some 9, true, []), zi_4005_K)]), (156, [((1, some 9, true, []), zi_83_K)]), (180, [((2, some 2, false, [(0, 8), (1, 10)]), zi_93_K)]), (309, [((4, some 9, true, []), zi_186_K)])]
def zi_4034_H : zt_H := ((zo_w1, 1, zo_Sg), (zo_g1, zi_4034_K.2.2.1, [0], zo_U2), [], ((some .int), zi_4034_K.2.2.2, zi_4034_K.2.1.1), zi_4034_Ks)
theorem zi_4034_c : zt_chk zi_4034_H (zB_X9_swaps, [], [29, 45, 71]) 6 zi_4034_A 5 (zo_hd, zi_4034_K) = true := by decide +kernel
theorem zi_4034 (v : Nat) (hd : Nat × Option Nat × Bool × List (Nat × Nat)) : zt_Con zo_Om (zo_Rel2 v) (hd, zi_4034_K) zF_X9_swaps := zt_con (K := (zo_hd, zi_4034_K)) (T := zT_X9_swaps) (w0 := zo_w1) (G := zo_g1) (zo_UR2 v) rfl zo_sg rfl rfl rfl (zt_ksok_of (Ks := zi_4034_Ks) (zt_k1 rfl (zt_k2 rfl (zi_4005 v _) zt_k3) (zt_k1 rfl (zt_k2 rfl (zd_lift (zi_83 v _) (by decide)) zt_k3) (zt_k1 rfl (zt_k2 rfl (zd_lift (zi_93 v _) (by decide)) zt_k3) (zt_k1 rfl (zt_k2 rfl (zd_lift (zi_186 v _) (by decide)) zt_k3) zt_k0))))) zi_4034_c
-- X9_swap X
def zi_4035_K : Nat × (List zt_A × List zt_C × List Nat) × zt_W × List zt_O := (1, ([zjr 0], [], [11]), [(11, 0, 7), (12, 0, 5), (13, 0, 4), (14, 0, 4), (15, 0, 4), (16, 0, 4), (17, 0, 4), (18, 0, 40), (19, 0, 40), (20, 0, 40), (21, 1, 1), (22, 7, 9), (23, 0, 4), (24, 0, 4), (25, 0, 4), (26, 0, 4), (27, 0, 4), (28, 0, 4), (29, 0, 5), (30, 0, 304), (31, 0, 304), (43, 7, 9), (44, 0, 4), (45, 0, 4), (46, 0, 4), (47, 0, 4), (48, 0, 4), (49, 0, 4), (50, 0, 5)], [(some (zj (.negSucc 1) (.ofNat 44)), [], [], [11])])
def zi_4035_A : zt_An := [(0, [(([some (zjr 0), none, none, none], [], [], [11]), .ofNat 36, [])]), (27, [(([some (zjr 0), some zt_top, some (zj (.ofNat 0) (.ofNat 5)), none], [], [((1, 1, 0), .ofNat 1, .ofNat 2147483647)], [11]), .ofNat 35, [(.negSucc 5, 2)])]), (42, [(([some (zjr 0), some zt_top, some (zj (.ofNat 0) (.ofNat 4)), some (zj (.ofNat 1) (.ofNat 5))], [], [((1, 1, 0), .ofNat 1, .ofNat 2147483647), ((1, 1, 6), .ofNat 1, .ofNat 5)], [11]), .ofNat 35, [(.negSucc 5, 2), (.negSucc 0, 3)])])]
def zi_4035_Ks : List (Nat × List zt_K) := [(145, [((1, some 9, true, []), zi_4005_K)]), (156, [((1, some 9, true, []), zi_83_K)]), (180, [((2, some 2, false, [(0, 8), (1, 10)]), zi_93_K)]), (309, [((4, some 9, true, []), zi_186_K)])]
def zi_4035_H : zt_H := ((zo_w1, 1, zo_Sg), (zo_g1, zi_4035_K.2.2.1, [0], zo_U2), [], ((some .int), zi_4035_K.2.2.2, zi_4035_K.2.1.1), zi_4035_Ks)
theorem zi_4035_c : zt_chk zi_4035_H (zB_X9_swap, [], [27, 42]) 6 zi_4035_A 4 (zo_hd, zi_4035_K) = true := by decide +kernel
theorem zi_4035 (v : Nat) (hd : Nat × Option Nat × Bool × List (Nat × Nat)) : zt_Con zo_Om (zo_Rel2 v) (hd, zi_4035_K) zF_X9_swap := zt_con (K := (zo_hd, zi_4035_K)) (T := zT_X9_swap) (w0 := zo_w1) (G := zo_g1) (zo_UR2 v) rfl zo_sg rfl rfl rfl (zt_ksok_of (Ks := zi_4035_Ks) (zt_k1 rfl (zt_k2 rfl (zi_4005 v _) zt_k3) (zt_k1 rfl (zt_k2 rfl (zd_lift (zi_83 v _) (by decide)) zt_k3) (zt_k1 rfl (zt_k2 rfl (zd_lift (zi_93 v _) (by decide)) zt_k3) (zt_k1 rfl (zt_k2 rfl (zd_lift (zi_186 v _) (by decide)) zt_k3) zt_k0))))) zi_4035_c
-- X9_move X
def zi_4036_K : Nat × (List zt_A × List zt_C × List Nat) × zt_W × List zt_O := (1, ([zjr 0, zt_top, zt_top, zt_top], [], [11]), [(1, 7, 7), (8, 0, 40), (9, 0, 40), (10, 0, 40), (21, 1, 1), (22, 7, 9), (23, 0, 4), (24, 0, 4), (25, 0, 4), (26, 0, 4), (27, 0, 4), (28, 0, 4), (29, 0, 5), (30, 0, 304), (31, 0, 304), (68, 0, 0), (72, 0, 0)], [(some (zt_top), [], [], [11])])
def zi_4036_A : zt_An := [(0, [(([some (zjr 0), some zt_top, some zt_top, some zt_top, none], [], [], [11]), .ofNat 1, [])]), (29, [(([some (zjr 0), some zt_top, some zt_top, some zt_top, none], [], [], [11]), .ofNat 0, [])])]
def zi_4036_Ks : List (Nat × List zt_K) := [(106, [((1, some 9, true, []), zi_4000_K)]), (118, [((2, some 0, false, [(0, 10)]), zi_57_K)]), (124, [((2, some 0, false, [(0, 10)]), zi_59_K)]), (142, [((1, none, true, []), zi_61_K)]), (145, [((1, some 9, true, []), zi_4002_K)]), (233, [((4, some 0, false, [(0, 10)]), zi_130_K)])]
def zi_4036_H : zt_H := ((zo_w1, 1, zo_Sg), (zo_g1, zi_4036_K.2.2.1, [0, 1, 2, 3], zo_U2), [], ((some .int), zi_4036_K.2.2.2, zi_4036_K.2.1.1), zi_4036_Ks)
theorem zi_4036_c : zt_chk zi_4036_H (zB_X9_move, [], [29]) 12 zi_4036_A 5 (zo_hd, zi_4036_K) = true := by decide +kernel
theorem zi_4036 (v : Nat) (hd : Nat × Option Nat × Bool × List (Nat × Nat)) : zt_Con zo_Om (zo_Rel2 v) (hd, zi_4036_K) zF_X9_move := zt_con (K := (zo_hd, zi_4036_K)) (T := zT_X9_move) (w0 := zo_w1) (G := zo_g1) (zo_UR2 v) rfl zo_sg rfl rfl rfl (zt_ksok_of (Ks := zi_4036_Ks) (zt_k1 rfl (zt_k2 rfl (zi_4000 v _) zt_k3) (zt_k1 rfl (zt_k2 rfl (zd_lift (zi_57 v _) (by decide)) zt_k3) (zt_k1 rfl (zt_k2 rfl (zd_lift (zi_59 v _) (by decide)) zt_k3) (zt_k1 rfl (zt_k2 rfl (zd_lift (zi_61 v _) (by decide)) zt_k3) (zt_k1 rfl (zt_k2 rfl (zi_4002 v _) zt_k3) (zt_k1 rfl (zt_k2 rfl (zd_lift (zi_130 v _) (by decide)) zt_k3) zt_k0))))))) zi_4036_c
-- X9_forgetAnswers
def zi_4037_K : Nat × (List zt_A × List zt_C × List Nat) × zt_W × List zt_O := (1, ([zjr 0], [((1, 1, 0), .ofNat 1, .ofNat 2147483647)], []), [(21, 1, 1), (68, 0, 0), (72, 0, 0)], [(none, [], [], [11])])
theorem zi_4037 (v : Nat) (hd : Nat × Option Nat × Bool × List (Nat × Nat)) : zt_Con zo_Om (zo_Rel2 v) (hd, zi_4037_K) zF_X9_forgetAnswers := zd_fgC v hd
-- X9_undo X
def zi_4038_K : Nat × (List zt_A × List zt_C × List Nat) × zt_W × List zt_O := (1, ([zjr 0], [], [11]), [(1, 7, 7), (21, 1, 1), (68, 0, 0), (72, 0, 0)], [(some (zj (.negSucc 4) (.ofNat 40)), [], [], [11])])
def zi_4038_A : zt_An := [(0, [(([some (zjr 0)], [], [], [11]), .ofNat 0, [])])]
def zi_4038_Ks : List (Nat × List zt_K) := [(106, [((1, some 9, true, []), zi_4037_K)]), (156, [((1, some 9, true, []), zi_83_K)])]
def zi_4038_H : zt_H := ((zo_w1, 1, zo_Sg), (zo_g1, zi_4038_K.2.2.1, [0], zo_U2), [], ((some .int), zi_4038_K.2.2.2, zi_4038_K.2.1.1), zi_4038_Ks)
theorem zi_4038_c : zt_chk zi_4038_H (zB_X9_undo, [], []) 6 zi_4038_A 1 (zo_hd, zi_4038_K) = true := by decide +kernel
theorem zi_4038 (v : Nat) (hd : Nat × Option Nat × Bool × List (Nat × Nat)) : zt_Con zo_Om (zo_Rel2 v) (hd, zi_4038_K) zF_X9_undo := zt_con (K := (zo_hd, zi_4038_K)) (T := zT_X9_undo) (w0 := zo_w1) (G := zo_g1) (zo_UR2 v) rfl zo_sg rfl rfl rfl (zt_ksok_of (Ks := zi_4038_Ks) (zt_k1 rfl (zt_k2 rfl (zi_4037 v _) zt_k3) (zt_k1 rfl (zt_k2 rfl (zd_lift (zi_83 v _) (by decide)) zt_k3) zt_k0))) zi_4038_c
-- X9_anew X
def zi_4039_K : Nat × (List zt_A × List zt_C × List Nat) × zt_W × List zt_O := (1, ([zjr 0], [], [11]), [(1, 7, 7), (21, 1, 1), (68, 0, 0), (72, 0, 0)], [(some (zj (.negSucc 1) (.ofNat 41)), [], [], [11])])
def zi_4039_A : zt_An := [(0, [(([some (zjr 0), none], [], [], [11]), .ofNat 0, [])])]
def zi_4039_Ks : List (Nat × List zt_K) := [(106, [((1, some 9, true, []), zi_4037_K)]), (156, [((1, some 9, true, []), zi_83_K)])]
def zi_4039_H : zt_H := ((zo_w1, 1, zo_Sg), (zo_g1, zi_4039_K.2.2.1, [0], zo_U2), [], ((some .int), zi_4039_K.2.2.2, zi_4039_K.2.1.1), zi_4039_Ks)
theorem zi_4039_c : zt_chk zi_4039_H (zB_X9_anew, [], []) 5 zi_4039_A 2 (zo_hd, zi_4039_K) = true := by decide +kernel
theorem zi_4039 (v : Nat) (hd : Nat × Option Nat × Bool × List (Nat × Nat)) : zt_Con zo_Om (zo_Rel2 v) (hd, zi_4039_K) zF_X9_anew := zt_con (K := (zo_hd, zi_4039_K)) (T := zT_X9_anew) (w0 := zo_w1) (G := zo_g1) (zo_UR2 v) rfl zo_sg rfl rfl rfl (zt_ksok_of (Ks := zi_4039_Ks) (zt_k1 rfl (zt_k2 rfl (zi_4037 v _) zt_k3) (zt_k1 rfl (zt_k2 rfl (zd_lift (zi_83 v _) (by decide)) zt_k3) zt_k0))) zi_4039_c
-- X9_rate X
def zi_4040_K : Nat × (List zt_A × List zt_C × List Nat) × zt_W × List zt_O := (1, ([zjr 0, zt_top], [], [11]), [(1, 2, 2), (21, 1, 1), (68, 0, 0), (72, 0, 0)], [(some (zj (.negSucc 4) (.ofNat 99)), [], [], [11])])
def zi_4040_A : zt_An := [(0, [(([some (zjr 0), some zt_top, none], [], [], [11]), .ofNat 1, [])]), (17, [(([some (zjr 0), some zt_top, none], [], [((1, 1, 0), .negSucc 2147483647, .ofNat 2147483647)], [11]), .ofNat 0, [])])]
def zi_4040_Ks : List (Nat × List zt_K) := [(106, [((1, some 9, true, []), zi_4037_K)]), (156, [((1, some 9, true, []), zi_83_K)])]
def zi_4040_H : zt_H := ((zo_w1, 1, zo_Sg), (zo_g1, zi_4040_K.2.2.1, [0, 1], zo_U2), [], ((some .int), zi_4040_K.2.2.2, zi_4040_K.2.1.1), zi_4040_Ks)
theorem zi_4040_c : zt_chk zi_4040_H (zB_X9_rate, [], [17]) 8 zi_4040_A 3 (zo_hd, zi_4040_K) = true := by decide +kernel
theorem zi_4040 (v : Nat) (hd : Nat × Option Nat × Bool × List (Nat × Nat)) : zt_Con zo_Om (zo_Rel2 v) (hd, zi_4040_K) zF_X9_rate := zt_con (K := (zo_hd, zi_4040_K)) (T := zT_X9_rate) (w0 := zo_w1) (G := zo_g1) (zo_UR2 v) rfl zo_sg rfl rfl rfl (zt_ksok_of (Ks := zi_4040_Ks) (zt_k1 rfl (zt_k2 rfl (zi_4037 v _) zt_k3) (zt_k1 rfl (zt_k2 rfl (zd_lift (zi_83 v _) (by decide)) zt_k3) zt_k0))) zi_4040_c
end
section
/-! WHAT IS KEPT BESIDE: and today's day, right or not known -/
def zX (ks : List Nat) (M : zm_I) : Prop := zR ks M ∧ zdF (zm_sub2 [(0, 164)] M)
section ZXX
variable {ks ks2 : List Nat} {M N1 N2 M1 : zm_I}
theorem zX_s {n : Nat} (h : n < 164) : (zm_sub2 [(0, 164)] M).1 n = M.1 n ∧ (zm_sub2 [(0, 164)] M).2 n = M.2 n := by
  have e := zy_s1 (a := 0) h M
  rw [Nat.zero_add] at e
  exact e
theorem zX_U {n i : Nat} (h : zt_hit zd_U n i = true) : n < 164 := by
  have t : zd_U.all (fun w => Nat.blt w.1 164) = true := by decide
  unfold zt_hit at h
  obtain ⟨w, hw, e⟩ := List.any_eq_true.mp h
  simp only [Bool.and_eq_true] at e
  have e1 := Nat.eq_of_beq_eq_true e.1.1
  have := Nat.blt_eq.mp (List.all_eq_true.mp t w hw)
  omega
theorem zX_2 (h : zdF N1) : zdF (zm_sub2 [(0, 164)] (zy_2 M N1 N2)) := zdF_c h (fun n i hn => by
  have h164 := zX_U hn
  have a := zX_s (M := zy_2 M N1 N2) h164
  have b := zy_2X (n := n) h164 M N1 N2
  exact ⟨congrFun (a.1.trans b.1) i, congrFun (a.2.trans b.2) i⟩)
def zX_h (W : zt_W) : Bool := zd_U.all (fun u => (List.range (u.2.2 + 1)).all (fun i => Nat.blt i u.2.1 || !zt_hit W u.1 i))
theorem zX_fr (hF : zdF (zm_sub2 [(0, 164)] M)) {W : zt_W} (hw : zX_h W = true) (f : zt_fr W (zm_sub2 [(0, 164)] M) N1) : zdF N1 := zdF_c hF (fun n i hn => by
  have hh := hn
  unfold zt_hit at hh
  obtain ⟨u, hu, e⟩ := List.any_eq_true.mp hh
  simp only [Bool.and_eq_true] at e
  have e1 := Nat.eq_of_beq_eq_true e.1.1
  have e2 := Nat.le_of_ble_eq_true e.1.2
  have e3 := Nat.le_of_ble_eq_true e.2
  have t := List.all_eq_true.mp (List.all_eq_true.mp hw u hu) i (List.mem_range.mpr (by omega))
  have nb : Nat.blt i u.2.1 = false := by
    cases hb : Nat.blt i u.2.1
    · rfl
    · have := Nat.blt_eq.mp hb
      omega
  rw [nb, Bool.false_or, Bool.not_eq_true', e1] at t
  exact f n i t)
theorem zX_con {K : zq_K} {F : zm_L → List Value → zm_I → zm_R} (hcon : zt_Con zo_Om (zo_Rel2 0) (zo_hd, K) F) (hOm : zo_Om[K.1]? = some (zW_X, zo_g1)) (hf : K.2.1.2.2 = [11]) (ho : K.2.2.2.all (fun o => o.2.2.2.any (Nat.beq 11)) = true) {as : List Value} {M : zm_I} (hs : zt_sts [] M (fun _ => 0) K.2.1.1 as) (hp : ∀ c ∈ K.2.1.2.1, zt_cs (zm_sl as) M c) (hG : zt_Gs zo_g1 M) (hF : zdF M) {v : Option Value} {N : zm_I} (h : F zW_X as M = some (v, N)) : zdF N := by
  have hfl : ∀ f ∈ (zo_hd, K).2.2.1.2.2, zo_Rel2 0 f M := fun f z => by
    rw [show (zo_hd, K).2.2.1.2.2 = [11] from hf] at z
    have z := List.mem_singleton.mp z
    subst z
    exact hF
  obtain ⟨v2, N2, h1, -, -, o, hoo, hr⟩ := hcon zW_X zo_g1 hOm zW_X as M ⟨rfl, fun _ _ h _ => h⟩ hs hp hfl hG
  rw [h] at h1
  cases h1
  obtain ⟨q, hq, e⟩ := List.any_eq_true.mp (List.all_eq_true.mp ho o hoo)
  have e := Nat.eq_of_beq_eq_true e
  subst e
  exact hr.2.2.2 11 hq
theorem zX_m (h : zdF (zm_sub2 [(0, 164)] M1)) : zdF (zm_sub2 [(0, 164)] (zm_mrg [(165, 31)] M1 N2)) := zdF_c h (fun n i hn => by
  have h164 := zX_U hn
  have a := zX_s (M := zm_mrg [(165, 31)] M1 N2) h164
  have b := zy_m0 (a := 165) (z := 31) (n := n) (by omega) M1 N2
  have c := zX_s (M := M1) h164
  exact ⟨congrFun (a.1.trans (b.1.trans c.1.symm)) i, congrFun (a.2.trans (b.2.trans c.2.symm)) i⟩)
theorem zX_im (hF : zdF (zm_sub2 [(0, 164)] M)) {a0 x : Int32} (ho : zy_img ks M a0 x ks2 M1) : zdF (zm_sub2 [(0, 164)] M1) := by
  rcases ho with ⟨hr, rfl, e1, e2⟩ | ⟨k, i, N, hk, rfl, rfl, hk2, hix, hor, rfl, hcp⟩
  · rw [e2]
    exact hF
  · have hcpy := fun n => zy_cp (a := 196 + 10 * i) (b := 1) (M := M) (N := N) (by omega) hcp.2.2 n
    exact zdF_c hF (fun n j hn => by
      have h164 := zX_U hn
      have a := zX_s (M := zm_mrg [(196 + 10 * i, 10), (1, 10)] M N) h164
      have b := (hcpy n).2 (by omega)
      have c := zX_s (M := M) h164
      exact ⟨congrFun (a.1.trans (b.1.trans c.1.symm)) j, congrFun (a.2.trans (b.2.trans c.2.symm)) j⟩)
theorem zX_bk (hF : zdF (zm_sub2 [(0, 164)] M)) {a0 x : Int32} (ho : zy_bck ks M a0 x M1) : zdF (zm_sub2 [(0, 164)] M1) := by
  rcases ho with ⟨hr, rfl, e2⟩ | ⟨k, hk, rfl, hix, rfl, e2⟩ | ⟨k, i, N, hk, rfl, hix, rfl, rfl, hcp⟩
  · rw [e2]
    exact hF
  · rw [e2]
    exact hF
  · refine Or.inl ?_
    rw [(zX_s (M := zi_fg (zm_mrg [(1, 10), (196 + 10 * i, 10)] M N)) (by decide)).1]
    show zm_w (zm_w (zm_w (zm_mrg [(1, 10), (196 + 10 * i, 10)] M N).1 21 1 (Int32.ofInt 0)) 68 0 (Int32.ofInt 0)) 72 0 (Int32.ofInt 0) 21 1 = 0
    rw [ze_wo (by decide), ze_wo (by decide), ze_wi]
    rfl
end ZXX
end
