/-! A DAY OF THE CLASS: a minute's call, a day begun, a day lived -/
theorem zd_get {K : zq_K} {F : zm_L → List Value → zm_I → zm_R} {w0 : zm_L} {G : zt_G} (hcon : zt_Con zo_Om (zo_Rel 0) (zo_hd, K) F) (hOm : zo_Om[K.1]? = some (w0, G)) (hf : K.2.1.2.2 = []) (hp : K.2.1.2.1 = []) (ho : K.2.2.2 = [(none, [], [], [])]) {as : List Value} {M : zm_I} (hs : zt_sts [] M (fun _ => 0) K.2.1.1 as) (hG : zt_Gs G M) : ∃ N, F w0 as M = some (none, N) ∧ zt_Gs G N ∧ zt_fr K.2.2.1 M N := by
  obtain ⟨v, N, q1, q2, q3, o, h1, h2⟩ := zp_get hcon hOm hf hs (fun c h => by rw [hp] at h; cases h) hG
  rw [ho] at h1
  have e : o = (none, [], [], []) := List.mem_singleton.mp h1
  subst e
  have e : v = none := h2.1
  subst e
  exact ⟨N, q1, q2, q3⟩
theorem zd_det {K : zq_K} {F : zm_L → List Value → zm_I → zm_R} {w0 : zm_L} {G : zt_G} (hcon : zt_Con zo_Om (zo_Rel 0) (zo_hd, K) F) (hOm : zo_Om[K.1]? = some (w0, G)) (hf : K.2.1.2.2 = []) (hp : K.2.1.2.1 = []) (ho : K.2.2.2 = [(none, [], [], [])]) {as : List Value} {M N : zm_I} (hs : zt_sts [] M (fun _ => 0) K.2.1.1 as) (hG : zt_Gs G M) (h : F w0 as M = some (none, N)) : zt_Gs G N ∧ zt_fr K.2.2.1 M N := by
  obtain ⟨N2, q1, q2, q3⟩ := zd_get hcon hOm hf hp ho hs hG
  have e : some ((none : Option Value), N) = some (none, N2) := h.symm.trans q1
  cases e
  exact ⟨q2, q3⟩
theorem zd_i {lo hi : Int} {n : Nat} {M : zm_I} (h : n ≤ 1000) (h1 : lo ≤ n) (h2 : n ≤ hi) : zt_v [] M (fun _ => 0) (zj lo hi) (.int (Int32.ofNat n)) := zg_v (by rw [zp_o h]; exact h1) (by rw [zp_o h]; exact h2)
theorem zd_mulE : ∀ n, n < 61 → ∀ E, E < 31 → 1 ≤ E → ((Int32.ofNat (n / E) * Int32.ofNat E = Int32.ofNat n) ↔ n % E = 0) := by decide +kernel
theorem zd_divE : ∀ n, n < 61 → ∀ E, E < 31 → 1 ≤ E → (Int32.ofNat n / Int32.ofNat E : Int32) = Int32.ofNat (n / E) := by decide +kernel
theorem zd_c0 : ∀ n, n < 61 → ∀ E, E < 31 → 1 ≤ E → (n / E = 0 → ¬ (0 < n ∧ n % E = 0)) ∧ (n / E ≠ 0 → 0 < n) ∧ n / E ≤ 60 := fun n hn E hE h1 => ⟨fun h z => by
  have e := Nat.div_add_mod n E
  rw [h, z.2, Nat.mul_zero] at e
  omega, fun h => Nat.pos_of_ne_zero (fun z => h (by rw [z, Nat.zero_div])), Nat.le_trans (Nat.div_le_self n E) (by omega)⟩
theorem zd_pre : ∀ q, q < 61 → 1 ≤ q → (Int32.ofNat q - 1 : Int32) = Int32.ofNat (q - 1) := by decide +kernel
section ZDC
variable {B : zdB} {I N : Nat → Nat → Int32} {J : Nat → Nat → Int64} {p : Nat → Int}
theorem zdX_c (h : zdX B I p) (h1 : ∀ c, c < 5 → N 1 c = I 1 c) (h7 : ∀ s, s < 6 → N 7 s = I 7 s) : zdX B N p := by
  obtain ⟨a, b, r, s1, s2⟩ := h
  refine ⟨fun c hc => by rw [h1 c hc]; exact a c hc, b, r, fun c hc h0 => ?_, fun s hs => ?_⟩
  · have := r c
    rw [h7 _ (by omega)]
    exact s1 c hc h0
  · rw [h7 s hs]
    exact s2 s hs
theorem zdx_ft4 (hv : zdXv B) (hb : zdXb B I) (hx : zdX B I p) : ∀ (d c : Nat) (l2 : Int32) (x : Int), c + d = B.1.1 → l2.toInt = x → (x = -1 ∨ (0 ≤ x ∧ x < B.1.1)) → ∃ r : Int32, zv_X2_firstThere_DB_4 I J l2 (Int32.ofNat c) = some (some (.int r), (I, J)) ∧ r.toInt = zd_for (zd_ff B p) d c x := by
  obtain ⟨⟨hC, hS, hst, hac, hsa⟩, hA, hE, hcm, ham⟩ := id hv
  intro d
  induction d with
  | zero =>
    intro c l2 x h hl hr
    refine ⟨l2, ?_, hl⟩
    rw [zq_X2_firstThere_DB_4, hb.1.1, if_pos ((zp_le (by omega) (by omega)).mpr (by omega)), zq_X2_firstThere_DB_50]
  | succ d ih =>
    intro c l2 x h hl hr
    have e1 : (I 1 c).toInt = p c := hx.1 c (by omega)
    have c61 := hcm c
    have keep : Unit → zd_ff B p c x = x → ∃ r : Int32, zv_X2_firstThere_DB_44 I J l2 (Int32.ofNat c) = some (some (.int r), (I, J)) ∧ r.toInt = zd_for (zd_ff B p) (d + 1) c x := by
      intro _ e
      obtain ⟨r, q1, q2⟩ := ih (c + 1) l2 x (by omega) hl hr
      refine ⟨r, ?_, ?_⟩
      · rw [zq_X2_firstThere_DB_44, zp_o1 (by omega)]
        exact q1
      · show r.toInt = zd_for (zd_ff B p) d (c + 1) (zd_ff B p c x)
        rw [e]
        exact q2
    have take : Unit → zd_ff B p c x = (c : Int) → ∃ r : Int32, zv_X2_firstThere_DB_42 I J l2 (Int32.ofNat c) = some (some (.int r), (I, J)) ∧ r.toInt = zd_for (zd_ff B p) (d + 1) c x := by
      intro _ e
      obtain ⟨r, q1, q2⟩ := ih (c + 1) (Int32.ofNat c) c (by omega) (zp_o (by omega)) (Or.inr (by omega))
      refine ⟨r, ?_, ?_⟩
      · rw [zq_X2_firstThere_DB_42, zq_X2_firstThere_DB_44, zp_o1 (by omega)]
        exact q1
      · show r.toInt = zd_for (zd_ff B p) d (c + 1) (zd_ff B p c x)
        rw [e]
        exact q2
    rw [zq_X2_firstThere_DB_4, hb.1.1, if_neg (fun z => by have := (zp_le (by omega) (by omega)).mp z; omega), zq_X2_firstThere_DB_12, if_neg (zp_in (by omega) (by omega)), zp_cl (by omega)]
    by_cases c1 : p c < -1
    · rw [if_pos (by rw [ze_lt, e1, zh_m1]; exact c1)]
      exact keep () (by unfold zd_ff; rw [if_neg (by omega)])
    · rw [if_neg (by rw [ze_lt, e1, zh_m1]; exact c1), zq_X2_firstThere_DB_22]
      by_cases c2 : x = -1
      · rw [if_pos (Int32.toInt_inj.mp (by rw [hl, zh_m1]; exact c2))]
        exact take () (by unfold zd_ff; rw [if_pos ⟨by omega, Or.inl c2⟩])
      · have hxn : x.toNat < 5 := by omega
        have ex : Int32.toNatClampNeg l2 = x.toNat := zh_cl (by rw [hl]; omega)
        have x61 := hcm x.toNat
        rw [if_neg (fun z => c2 (by rw [← hl, z, zh_m1])), zq_X2_firstThere_DB_27, if_neg (zp_in (by omega) (by omega)), if_neg (zh_in (n := 5) (by omega) (by omega)), ex, zp_cl (by omega), hb.2.1 _ hxn, hb.2.1 c (by omega)]
        by_cases c3 : B.2.1 c < B.2.1 x.toNat
        · rw [if_neg (fun z => by have := (zp_le (by omega) (by omega)).mp z; omega)]
          exact take () (by unfold zd_ff; rw [if_pos ⟨by omega, Or.inr c3⟩])
        · rw [if_pos ((zp_le (by omega) (by omega)).mpr (by omega))]
          exact keep () (by unfold zd_ff; rw [if_neg (by omega)])
theorem zdx_ft (hv : zdXv B) (hb : zdXb B I) (hx : zdX B I p) : ∃ r : Int32, zF_X2_firstThere zW_DB [.ref 0, .ref 8] (I, J) = some (some (.int r), (I, J)) ∧ r.toInt = zd_ft B p := by
  obtain ⟨r, q1, q2⟩ := zdx_ft4 (J := J) hv hb hx B.1.1 0 (-1) (-1) (by omega) zh_m1 (Or.inl rfl)
  exact ⟨r, (zf_X2_firstThere_DB _ _).trans ((zq_X2_firstThere_DB_0 _ _).trans q1), q2⟩
theorem zdx_admit (hv : zdXv B) (hx : zdX B I p) {c n g : Nat} (hc : c < B.1.1) {w : Nat → Int} (hw : ∀ q, q < 5 → (I 5 q).toInt = w q) (hg : (I 0 7).toInt = g) (hg5 : g ≤ 5) (hn : n ≤ 60) : ∃ N, zF_X2_admit zW_DB [.ref 0, .int (Int32.ofNat c), .int (Int32.ofNat n)] (I, J) = some (none, (N, J)) ∧ zdX B N (zd_up p c (-3)) ∧ (∀ q, q < 5 → (N 5 q).toInt = zd_up w c n q) ∧ (N 0 7).toInt = (g + 1 : Nat) ∧ ∀ a b, 8 ≤ a → N a b = I a b := by
  obtain ⟨⟨hC, hS, hst, hac, hsa⟩, hA, hE, hcm, ham⟩ := id hv
  obtain ⟨n1, n7⟩ := zdx_N0 hx c
  have hne : ¬ (Int32.ofNat c : Int32) = -1 := fun z => by
    have : (Int32.ofNat c).toInt = -1 := by rw [z, zh_m1]
    rw [zp_o (by omega)] at this
    omega
  rw [zf_X2_admit_DB, zq_X2_admit_DB_0, if_neg hne, zc_X2_admit_DB_6 _ _ _ _ (zdx_leave hx (by omega)), zq_X2_admit_DB_11, if_neg (zp_in (by omega) (by omega)), if_neg (zp_in (by omega) (by omega)), if_neg (zp_in (by omega) (by omega)), if_neg (zp_in (by omega) (by omega)), zp_cl (by omega)]
  generalize (if p c < 0 then I else zm_w I 7 (p c).toNat (-1)) = N0 at n1 n7
  have e3 : (-3 : Int32).toInt = -3 := by decide
  refine ⟨_, rfl, zdx_put hx hC hc (by decide) (Or.inl (by decide)) (fun q hq => ?_) (fun s hs => ?_), fun q hq => ?_, ?_, fun a b ha => ?_⟩
  · rw [ze_wo (by decide), ze_wo (by decide), ze_wo (by decide)]
    by_cases e : q = c
    · rw [if_pos e, e, ze_wi, e3]
    · rw [if_neg e, ze_wj e, n1 1 q (by decide)]
      exact hx.1 q hq
  · rw [if_neg (by omega), ze_wo (by decide), ze_wo (by decide), ze_wo (by decide), ze_wo (by decide)]
    exact n7 s
  · rw [ze_wo (by decide), ze_wo (by decide)]
    by_cases e : q = c
    · rw [e, ze_wi, zd_up_i, zp_o (by omega)]
    · rw [ze_wj e, ze_wo (by decide), zd_up_o e, n1 5 q (by decide)]
      exact hw q hq
  · rw [ze_wi, ze_wo (by decide), ze_wo (by decide), ze_wo (by decide), n1 0 7 (by decide), ze_add (by rw [hg, ze_i1]; omega) (by rw [hg, ze_i1]; omega), hg, ze_i1]
    omega
  · rw [ze_wo (by omega), ze_wo (by omega), ze_wo (by omega), ze_wo (by omega), n1 a b (by omega)]
theorem zdx_calls {M : zm_I} {E n : Nat} (h3 : M.1 0 3 = Int32.ofNat E) (hE : 1 ≤ E ∧ E ≤ 30) (hn : n ≤ 60) : zF_X0_callsTill zW_B [.ref 0, .int (Int32.ofNat n)] M = some (some (.int (Int32.ofNat (n / E))), M) := by
  have e : zF_X0_callsTill zW_B [.ref 0, .int (Int32.ofNat n)] M = zv_X0_callsTill_B_0 M.1 M.2 (Int32.ofNat n) := zf_X0_callsTill_B M.1 M.2 _
  have z : ∀ {x : Nat}, x ≤ 1000 → 1 ≤ x → ¬ (Int32.ofNat x : Int32) ≤ 0 := fun {x} h h1 q => by
    rw [ze_le, zp_o h, ze_i0] at q
    omega
  have z2 : ¬ (Int32.ofNat E : Int32) = 0 := fun q => z (x := E) (by omega) hE.1 (by rw [q]; exact Int32.le_refl 0)
  rw [e, zq_X0_callsTill_B_0, h3, if_neg (z (by omega) hE.1), zq_X0_callsTill_B_7, h3, if_neg z2, zq_X0_callsTill_B_17, zd_divE n (by omega) E (by omega) hE.1]
theorem zdx_fin (hv : zdXv B) {n : Nat} (hn : n ≤ 60) (l3 : Int64) (hb : zdXb B I) (hx : zdX B I p) {w : Nat → Int} (hw : ∀ q, q < 5 → (I 5 q).toInt = w q) (hg : (I 0 7).toInt = zd_ct p B.1.1) (hG : zt_Gs zo_g7 (I, J)) : ∃ N K, zF_X2_finish zW_DB [.ref 0, .ref 8, .int (Int32.ofNat n), .long l3] (I, J) = some (none, (N, K)) ∧ zdX B N (zd_fin B (zd_bit l3) n (p, w)).1 ∧ (∀ q, q < 5 → (N 5 q).toInt = (zd_fin B (zd_bit l3) n (p, w)).2 q) ∧ (N 0 7).toInt = zd_ct (zd_fin B (zd_bit l3) n (p, w)).1 B.1.1 ∧ (∀ a b, 8 ≤ a → N a b = I a b) ∧ K 0 8 = J 0 8 ∧ K 0 9 = J 0 9 ∧ zt_Gs zo_g7 (N, K) := by
  obtain ⟨⟨hC, hS, hst, hac, hsa⟩, hA, hE, hcm, ham⟩ := id hv
  have gl := zd_ct_le p B.1.1
  have hcall := zdx_calls (M := zm_sub2 [(8, 10)] (I, J)) (n := n) hb.1.2.2.2 hE hn
  have id1 : zm_mrg [(8, 10)] (I, J) (zm_sub2 [(8, 10)] (I, J)) = (I, J) := zm_mrg_id _ _
  obtain ⟨t0, t1, t2⟩ := zd_c0 n (by omega) B.2.2.2.2.2.2 (by omega) hE.1
  have tail : ∀ (I1 : Nat → Nat → Int32) (p1 w1 : Nat → Int) (l5 l6 : Int32), zd_fin B (zd_bit l3) n (p, w) = (p1, w1) → zdX B I1 p1 → (∀ q, q < 5 → (I1 5 q).toInt = w1 q) → (I1 0 7).toInt = zd_ct p1 B.1.1 → (∀ a b, 8 ≤ a → I1 a b = I a b) → zt_Gs zo_g7 (I1, J) → ∃ N K, zv_X2_finish_DB_58 I1 J (Int32.ofNat n) l3 l5 l6 = some (none, (N, K)) ∧ zdX B N (zd_fin B (zd_bit l3) n (p, w)).1 ∧ (∀ q, q < 5 → (N 5 q).toInt = (zd_fin B (zd_bit l3) n (p, w)).2 q) ∧ (N 0 7).toInt = zd_ct (zd_fin B (zd_bit l3) n (p, w)).1 B.1.1 ∧ (∀ a b, 8 ≤ a → N a b = I a b) ∧ K 0 8 = J 0 8 ∧ K 0 9 = J 0 9 ∧ zt_Gs zo_g7 (N, K) := by
    intro I1 p1 w1 l5 l6 e h1 h2 h3 h4 h5
    obtain ⟨⟨N, K⟩, q1, q2, q3⟩ := zd_get (w0 := zW_DB) (G := zo_g7) (zi_75 0 zo_hd) rfl rfl rfl rfl (as := [.ref 0, .ref 8]) (M := (I1, J)) (zq_s1 zq_r0 (zq_s1 zq_r0 zq_s0)) h5
    have f : ∀ a b, zt_hit [(2, 0, 4), (3, 0, 4), (4, 0, 4)] a b = false → N a b = I1 a b ∧ K a b = J a b := q3
    have f1 : ∀ a b, a ≠ 2 → a ≠ 3 → a ≠ 4 → N a b = I1 a b ∧ K a b = J a b := fun a b a2 a3 a4 => f a b (by
      unfold zt_hit
      simp only [List.any_cons, List.any_nil, zt_beq_ne.mpr (Ne.symm a2), zt_beq_ne.mpr (Ne.symm a3), zt_beq_ne.mpr (Ne.symm a4), Bool.false_and, Bool.or_false])
    rw [e]
    refine ⟨N, K, ?_, zdX_c h1 (fun c _ => (f1 1 c (by decide) (by decide) (by decide)).1) (fun c _ => (f1 7 c (by decide) (by decide) (by decide)).1), fun q hq => ?_, ?_, fun a b ha => ?_, (f1 0 8 (by decide) (by decide) (by decide)).2, (f1 0 9 (by decide) (by decide) (by decide)).2, q2⟩
    · rw [zc_X2_finish_DB_58 _ _ _ _ _ _ q1, zq_X2_finish_DB_63]
    · rw [(f1 5 q (by decide) (by decide) (by decide)).1]
      exact h2 q hq
    · rw [(f1 0 7 (by decide) (by decide) (by decide)).1]
      exact h3
    · rw [(f1 a b (by omega) (by omega) (by omega)).1]
      exact h4 a b ha
  have stay : ¬ (0 < n ∧ n % B.2.2.2.2.2.2 = 0 ∧ zd_bit l3 (n / B.2.2.2.2.2.2 - 1) = false) → ∀ l5 l6, ∃ N K, zv_X2_finish_DB_58 I J (Int32.ofNat n) l3 l5 l6 = some (none, (N, K)) ∧ zdX B N (zd_fin B (zd_bit l3) n (p, w)).1 ∧ (∀ q, q < 5 → (N 5 q).toInt = (zd_fin B (zd_bit l3) n (p, w)).2 q) ∧ (N 0 7).toInt = zd_ct (zd_fin B (zd_bit l3) n (p, w)).1 B.1.1 ∧ (∀ a b, 8 ≤ a → N a b = I a b) ∧ K 0 8 = J 0 8 ∧ K 0 9 = J 0 9 ∧ zt_Gs zo_g7 (N, K) := fun hc l5 l6 => tail I p w l5 l6 (if_neg hc) hx hw hg (fun _ _ _ => rfl) hG
  rw [zf_X2_finish_DB, zc_X2_finish_DB_0 _ _ _ _ hcall, id1, zq_X2_finish_DB_5]
  by_cases c0 : n / B.2.2.2.2.2.2 = 0
  · rw [if_pos (by rw [c0]; decide), zq_X2_finish_DB_27, zq_X2_finish_DB_28, if_pos rfl]
    exact stay (fun z => t0 c0 ⟨z.1, z.2.1⟩) _ _
  · have c9 : ¬ (Int32.ofNat (n / B.2.2.2.2.2.2) : Int32) ≤ 0 := fun q => by
      rw [ze_le, zp_o (by omega), ze_i0] at q
      exact c0 (Nat.le_zero.mp (Int.ofNat_le.mp (show ((n / B.2.2.2.2.2.2 : Nat) : Int) ≤ ((0 : Nat) : Int) from q)))
    rw [if_neg c9, zq_X2_finish_DB_12, show (I, J).1 8 3 = _ from hb.1.2.2.2]
    by_cases c1 : n % B.2.2.2.2.2.2 = 0
    · rw [if_pos ((zd_mulE n (by omega) _ (by omega) hE.1).mpr c1), zq_X2_finish_DB_23, zq_X2_finish_DB_28, if_neg (by decide), zq_X2_finish_DB_35, zd_pre _ (by omega) (Nat.pos_of_ne_zero c0)]
      by_cases c2 : zd_bit l3 (n / B.2.2.2.2.2.2 - 1) = false
      · obtain ⟨r, q1, q2⟩ := zdx_ft (J := J) hv hb hx
        rw [if_pos ((zd_test l3 (by omega)).mpr c2), zc_X2_finish_DB_48 _ _ _ _ _ _ q1]
        have hc : 0 < n ∧ n % B.2.2.2.2.2.2 = 0 ∧ zd_bit l3 (n / B.2.2.2.2.2.2 - 1) = false := ⟨t1 c0, c1, c2⟩
        by_cases c3 : zd_ft B p = -1
        · have er : r = -1 := Int32.toInt_inj.mp (by rw [q2, zh_m1]; exact c3)
          have ha : zF_X2_admit zW_DB [.ref 0, .int r, .int (Int32.ofNat n)] (I, J) = some (none, (I, J)) := by rw [zf_X2_admit_DB, zq_X2_admit_DB_0, if_pos er, zq_X2_admit_DB_5]
          rw [zc_X2_finish_DB_54 _ _ _ _ _ _ _ ha]
          refine tail I p w _ _ ?_ hx hw hg (fun _ _ _ => rfl) hG
          unfold zd_fin
          rw [if_pos hc, if_pos c3]
        · rcases zd_ft_b B p with z | ⟨z1, z2, z3⟩
          · exact absurd z c3
          · have er : r = Int32.ofNat (zd_ft B p).toNat := Int32.toInt_inj.mp (by rw [q2, zp_o (by omega)]; omega)
            have hlt : (zd_ft B p).toNat < B.1.1 := by omega
            obtain ⟨N, a1, a2, a3, a4, a5⟩ := zdx_admit (J := J) hv hx (n := n) (g := zd_ct p B.1.1) hlt hw hg (by omega) hn
            have gs := (zd_det (w0 := zW_DB) (G := zo_g7) (zi_72 0 zo_hd) rfl rfl rfl rfl (zq_s1 zq_r0 (zq_s1 (zd_i (by omega) (by show (-1 : Int) ≤ _; omega) (by show _ ≤ (4 : Int); omega)) (zq_s1 (zd_i (by omega) (by show (0 : Int) ≤ _; omega) (by show _ ≤ (60 : Int); omega)) zq_s0))) hG a1).1
            rw [er, zc_X2_finish_DB_54 _ _ _ _ _ _ _ a1]
            refine tail N _ _ _ _ ?_ a2 a3 (by rw [a4, zd_ct_up (by omega) hlt]) a5 gs
            unfold zd_fin
            rw [if_pos hc, if_neg c3]
      · rw [if_neg (fun z => c2 ((zd_test l3 (by omega)).mp z))]
        exact stay (fun z => c2 z.2.2) _ _
    · rw [if_neg (fun z => c1 ((zd_mulE n (by omega) _ (by omega) hE.1).mp z)), zq_X2_finish_DB_27, zq_X2_finish_DB_28, if_pos rfl]
      exact stay (fun z => c1 z.2.1) _ _
-- a day begun
theorem zdx_dw2 : ∀ (d c : Nat) (I : Nat → Nat → Int32), c + d = 5 → ∃ N, zv_X2_dawn_DB_2 I J (Int32.ofNat c) = zv_X2_dawn_DB_63 N J (Int32.ofNat 0) ∧ (∀ q, c ≤ q → q < 5 → (N 1 q).toInt = -2 ∧ (N 5 q).toInt = -1) ∧ (∀ q, q < c → N 1 q = I 1 q ∧ N 5 q = I 5 q) ∧ ∀ a b, (a = 0 ∨ 7 ≤ a) → N a b = I a b := by
  intro d
  induction d with
  | zero =>
    intro c I h
    refine ⟨I, ?_, fun q h1 h2 => by omega, fun q _ => ⟨rfl, rfl⟩, fun _ _ _ => rfl⟩
    have e5 : (5 : Int32) = Int32.ofNat 5 := rfl
    rw [zq_X2_dawn_DB_2, if_pos (by rw [e5]; exact (zp_le (by omega) (by omega)).mpr (by omega)), zq_X2_dawn_DB_61]
    rfl
  | succ d ih =>
    intro c I h
    have e5 : (5 : Int32) = Int32.ofNat 5 := rfl
    have e2 : (-2 : Int32).toInt = -2 := by decide
    rw [zq_X2_dawn_DB_2, if_neg (fun z => by rw [e5] at z; have := (zp_le (by omega) (by omega)).mp z; omega), zq_X2_dawn_DB_7, if_neg (zp_in (by omega) (by omega)), if_neg (zp_in (by omega) (by omega)), if_neg (zp_in (by omega) (by omega)), if_neg (zp_in (by omega) (by omega)), if_neg (zp_in (by omega) (by omega)), if_neg (zp_in (by omega) (by omega)), if_neg (zp_in (by omega) (by omega)), zp_cl (by omega), zp_o1 (by omega)]
    generalize hK : zm_w (zm_w (zm_w (zm_w (zm_w (zm_w I 1 c (-2)) 2 c ((zm_w I 1 c (-2)) 10 c)) 3 c (-1)) 4 c 0) 5 c (-1)) 6 c 0 = K
    have k1 : ∀ q, K 1 q = if q = c then -2 else I 1 q := fun q => by
      rw [← hK, ze_wo (by decide), ze_wo (by decide), ze_wo (by decide), ze_wo (by decide), ze_wo (by decide)]
      by_cases e : q = c
      · rw [if_pos e, e, ze_wi]
      · rw [if_neg e, ze_wj e]
    have k5 : ∀ q, K 5 q = if q = c then -1 else I 5 q := fun q => by
      rw [← hK, ze_wo (by decide)]
      by_cases e : q = c
      · rw [if_pos e, e, ze_wi]
      · rw [if_neg e, ze_wj e, ze_wo (by decide), ze_wo (by decide), ze_wo (by decide), ze_wo (by decide)]
    have ko : ∀ a b, (a = 0 ∨ 7 ≤ a) → K a b = I a b := fun a b ha => by rw [← hK, ze_wo (by omega), ze_wo (by omega), ze_wo (by omega), ze_wo (by omega), ze_wo (by omega), ze_wo (by omega)]
    obtain ⟨N, q1, q2, q3, q4⟩ := ih (c + 1) K (by omega)
    refine ⟨N, q1, fun q h1 h2 => ?_, fun q hq => ?_, fun a b ha => (q4 a b ha).trans (ko a b ha)⟩
    · by_cases e : q = c
      · have := q3 q (by omega)
        rw [this.1, this.2, k1, k5, if_pos e, if_pos e]
        exact ⟨e2, zh_m1⟩
      · exact q2 q (by omega) h2
    · have := q3 q (by omega)
      rw [this.1, this.2, k1, k5, if_neg (by omega), if_neg (by omega)]
      exact ⟨rfl, rfl⟩
theorem zdx_dw63 : ∀ (d c : Nat) (I : Nat → Nat → Int32), c + d = 6 → ∃ N, zv_X2_dawn_DB_63 I J (Int32.ofNat c) = zv_X2_dawn_DB_82 N J (Int32.ofNat 6) ∧ (∀ q, c ≤ q → q < 6 → (N 7 q).toInt = -1) ∧ (∀ q, q < c → N 7 q = I 7 q) ∧ ∀ a b, a ≠ 7 → N a b = I a b := by
  intro d
  induction d with
  | zero =>
    intro c I h
    refine ⟨I, ?_, fun q h1 h2 => by omega, fun q _ => rfl, fun _ _ _ => rfl⟩
    have e6 : (6 : Int32) = Int32.ofNat 6 := rfl
    rw [zq_X2_dawn_DB_63, if_pos (by rw [e6]; exact (zp_le (by omega) (by omega)).mpr (by omega)), show c = 6 by omega]
  | succ d ih =>
    intro c I h
    have e6 : (6 : Int32) = Int32.ofNat 6 := rfl
    obtain ⟨N, q1, q2, q3, q4⟩ := ih (c + 1) (zm_w I 7 c (-1)) (by omega)
    refine ⟨N, ?_, fun q h1 h2 => ?_, fun q hq => ?_, fun a b ha => (q4 a b ha).trans (ze_wo ha)⟩
    · rw [zq_X2_dawn_DB_63, if_neg (fun z => by rw [e6] at z; have := (zp_le (by omega) (by omega)).mp z; omega), zq_X2_dawn_DB_69, if_neg (zp_in (by omega) (by omega)), zp_cl (by omega), zp_o1 (by omega)]
      exact q1
    · by_cases e : q = c
      · rw [q3 q (by omega), e, ze_wi, zh_m1]
      · exact q2 q (by omega) h2
    · rw [q3 q (by omega), ze_wj (by omega)]
theorem zdx_dw99 (hv : zdXv B) (hb : zdXb B I) : ∀ (d k : Nat) (J : Nat → Nat → Int64), k + d = B.1.2.2 → (∀ m, m ≤ 60 → zd_bit (J 0 8) m = false → ∀ q, q < k → B.2.2.2.2.2.1 q ≠ m) → ∃ K, zv_X2_dawn_DB_99 I J (Int32.ofNat k) = some (none, (I, K)) ∧ (∀ m, m ≤ 60 → zd_bit (K 0 8) m = false → ∀ q, q < B.1.2.2 → B.2.2.2.2.2.1 q ≠ m) ∧ K 0 9 = J 0 9 := by
  obtain ⟨⟨hC, hS, hst, hac, hsa⟩, hA, hE, hcm, ham⟩ := id hv
  intro d
  induction d with
  | zero =>
    intro k J h hz
    have ek : k = B.1.2.2 := by omega
    refine ⟨J, ?_, fun m hm hf q hq => hz m hm hf q (by omega), rfl⟩
    rw [zq_X2_dawn_DB_99, hb.1.2.2.1, if_pos ((zp_le (by omega) (by omega)).mpr (by omega)), zq_X2_dawn_DB_130]
  | succ d ih =>
    intro k J h hz
    have a6 := ham k
    have e8 : zm_wl J 0 8 (J 0 8 ||| (1 <<< (Int32.toInt64 (Int32.ofNat (B.2.2.2.2.2.1 k)) &&& 63))) 0 8 = (J 0 8 ||| (1 <<< (Int32.toInt64 (Int32.ofNat (B.2.2.2.2.2.1 k)) &&& 63))) := if_pos ⟨rfl, rfl⟩
    have e9 : zm_wl J 0 8 (J 0 8 ||| (1 <<< (Int32.toInt64 (Int32.ofNat (B.2.2.2.2.2.1 k)) &&& 63))) 0 9 = J 0 9 := if_neg (by decide)
    obtain ⟨K, q1, q2, q3⟩ := ih (k + 1) (zm_wl J 0 8 (J 0 8 ||| (1 <<< (Int32.toInt64 (Int32.ofNat (B.2.2.2.2.2.1 k)) &&& 63)))) (by omega) (fun m hm hf q hq => by
      rw [e8, zd_bit_or _ (by omega) (by omega)] at hf
      by_cases c : m = B.2.2.2.2.2.1 k
      · rw [if_pos c] at hf
        cases hf
      · rw [if_neg c] at hf
        by_cases e : q = k
        · rw [e]
          exact fun z => c z.symm
        · exact hz m hm hf q (by omega))
    refine ⟨K, ?_, q2, q3.trans e9⟩
    rw [zq_X2_dawn_DB_99, hb.1.2.2.1, if_neg (fun z => by have := (zp_le (by omega) (by omega)).mp z; omega), zq_X2_dawn_DB_107, if_neg (zp_in (by omega) (by omega)), zp_cl (by omega), (hb.2.2.2 k (by omega)).2.2, zp_o1 (by omega)]
    exact q1
theorem zd_bit_0 (q : Nat) : zd_bit 0 q = false := by
  unfold zd_bit
  exact BitVec.getLsbD_zero
theorem zdx_dawn (hv : zdXv B) (hb : zdXb B I) : ∃ N K, zF_X2_dawn zW_DB [.ref 0, .ref 8] (I, J) = some (none, (N, K)) ∧ zdX B N (fun _ => -2) ∧ (∀ q, q < 5 → (N 5 q).toInt = -1) ∧ (∀ q, zd_bit (K 0 9) q = false) ∧ (N 0 7).toInt = 0 ∧ (∀ m, m ≤ 60 → zd_bit (K 0 8) m = false → ∀ q, q < B.1.2.2 → B.2.2.2.2.2.1 q ≠ m) ∧ ∀ a b, 8 ≤ a → N a b = I a b := by
  obtain ⟨N1, q1, q2, q3, q4⟩ := zdx_dw2 (J := J) 5 0 I rfl
  obtain ⟨N2, r1, r2, r3, r4⟩ := zdx_dw63 (J := J) 6 0 N1 rfl
  have fr : ∀ a b, 8 ≤ a → zm_w N2 0 7 0 a b = I a b := fun a b ha => by rw [ze_wo (by omega), r4 a b (by omega), q4 a b (by omega)]
  have j8 : zm_wl (zm_wl J 0 9 0) 0 8 0 0 8 = 0 := if_pos ⟨rfl, rfl⟩
  have j9 : zm_wl (zm_wl J 0 9 0) 0 8 0 0 9 = 0 := (if_neg (by decide)).trans (if_pos ⟨rfl, rfl⟩)
  obtain ⟨K, s1, s2, s3⟩ := zdx_dw99 (I := zm_w N2 0 7 0) hv (zdXb_f hb fr) B.1.2.2 0 (zm_wl (zm_wl J 0 9 0) 0 8 0) (by omega) (fun m _ _ q hq => absurd hq (Nat.not_lt_zero q))
  refine ⟨zm_w N2 0 7 0, K, ?_, ⟨fun c hc => ?_, fun _ _ => rfl, fun _ => ⟨by show (-3 : Int) ≤ -2; decide, by show (-2 : Int) ≤ 5; decide⟩, fun c _ h0 => absurd h0 (show ¬ (0 : Int) ≤ -2 by decide), fun s hs => Or.inl ?_⟩, fun q hq => ?_, fun q => ?_, ?_, s2, fr⟩
  · rw [zf_X2_dawn_DB, zq_X2_dawn_DB_0]
    refine Eq.trans q1 (r1.trans ?_)
    rw [zq_X2_dawn_DB_82]
    exact s1
  · rw [ze_wo (by decide), r4 1 c (by decide)]
    exact (q2 c (Nat.zero_le c) hc).1
  · rw [ze_wo (by decide)]
    exact r2 s (Nat.zero_le s) hs
  · rw [ze_wo (by decide), r4 5 q (by decide)]
    exact (q2 q (Nat.zero_le q) hq).2
  · rw [s3, j9]
    exact zd_bit_0 q
  · rw [ze_wi]
    decide
/-- what holds of the class's day before minute n -/
def zdS (B : zdB) (z : zdZ) (I : Nat → Nat → Int32) (J : Nat → Nat → Int64) : Prop := zdXb B I ∧ zdX B I z.1 ∧ (∀ q, q < 5 → (I 5 q).toInt = z.2.1 q) ∧ (∀ q, q < 41 → zd_bit (J 0 9) q = z.2.2 q) ∧ (I 0 7).toInt = zd_ct z.1 B.1.1 ∧ (∀ m, m ≤ 60 → zd_bit (J 0 8) m = false → ∀ q, q < B.1.2.2 → B.2.2.2.2.2.1 q ≠ m) ∧ zt_Gs zo_g7 (I, J)
theorem zdS_0 (hv : zdXv B) {ms : Nat → Bool} (hb : zdXb B I) (hG : zt_Gs zo_g7 (I, J)) : ∃ N K, zF_X2_dawn zW_DB [.ref 0, .ref 8] (I, J) = some (none, (N, K)) ∧ zdS B (zd_st B ms 0) N K ∧ ∀ a b, 8 ≤ a → N a b = I a b := by
  obtain ⟨N, K, q1, q2, q3, q4, q5, q6, q7⟩ := zdx_dawn (J := J) hv hb
  have gs := (zd_det (w0 := zW_DB) (G := zo_g7) (zi_64 0 zo_hd) rfl rfl rfl rfl (zq_s1 zq_r0 (zq_s1 zq_r0 zq_s0)) hG q1).1
  have z : ∀ C, zd_ct (fun _ => -2) C = 0 := by
    intro C
    induction C with
    | zero => rfl
    | succ C ih =>
      unfold zd_ct
      rw [ih, if_neg (by decide)]
  exact ⟨N, K, q1, ⟨zdXb_f hb q7, q2, q3, fun q _ => q4 q, by rw [q5]; show (0 : Int) = (zd_ct (fun _ => -2) B.1.1 : Nat); rw [z]; rfl, q6, gs⟩, q7⟩
/-- a minute, up to its call -/
theorem zdS_set (hv : zdXv B) {ms : Nat → Bool} {n : Nat} (hn : n ≤ 60) (h : zdS B (zd_st B ms n) I J) : ∃ N K, zF_X2_settle zW_DB [.ref 0, .ref 8, .int (Int32.ofNat n)] (I, J) = some (none, (N, K)) ∧ zdS B ((zd_at B n (zd_st B ms n)).1, (zd_st B ms n).2.1, (zd_at B n (zd_st B ms n)).2) N K ∧ zdXf I N := by
  obtain ⟨h1, h2, h3, h4, h5, h6, h7⟩ := h
  obtain ⟨i1, i2, i3, -⟩ := zdI_st (ms := ms) hv.1 n
  obtain ⟨N, K, q1, q2, q3, q4⟩ := zdx_set (x := ((zd_st B ms n).1, (zd_st B ms n).2.2)) hv hn ⟨i1, i2, i3⟩ h1 h2 h4 (fun z k hk => h6 n hn z k hk)
  obtain ⟨g1, g2⟩ := zd_det (w0 := zW_DB) (G := zo_g7) (zi_68 0 zo_hd) rfl rfl rfl rfl (zq_s1 zq_r0 (zq_s1 zq_r0 (zq_s1 (zd_i (by omega) (by show (0 : Int) ≤ _; omega) (by show _ ≤ (60 : Int); omega)) zq_s0))) h7 q1
  have k8 : K 0 8 = J 0 8 := (g2 0 8 (by decide)).2
  have hp : ∀ c, c < B.1.1 → ((zd_at B n (zd_st B ms n)).1 c = -3 ↔ (zd_st B ms n).1 c = -3) := by
    have sit : ∀ (k s : Nat) (p : Nat → Int) (c q : Nat), p c ≠ -3 → (zd_sit B.1.1 B.1.2.1 p c k s q = -3 ↔ p q = -3) := by
      intro k
      induction k with
      | zero => exact fun _ _ _ _ _ => Iff.rfl
      | succ k ihk =>
        intro s p c q hc
        unfold zd_sit
        split
        · by_cases e : q = c
          · rw [e, zd_up_i]
            exact ⟨fun z => by omega, fun z => absurd z hc⟩
          · rw [zd_up_o e]
        · exact ihk _ p c q hc
    have m1 : ∀ q, ((zd_for (zd_mv B n) B.1.2.2 0 ((zd_st B ms n).1, (zd_st B ms n).2.2)).1 q = -3 ↔ (zd_st B ms n).1 q = -3) := zd_for_ind (P := fun _ (y : zdP) => ∀ q, (y.1 q = -3 ↔ (zd_st B ms n).1 q = -3)) B.1.2.2 0 _ (fun _ => Iff.rfl) (fun k y _ _ hy q => by
      unfold zd_mv
      split
      · next e =>
        by_cases c : q = B.2.2.2.1 k
        · show zd_up y.1 _ _ q = -3 ↔ _
          rw [c, zd_up_i, ← hy]
          exact ⟨fun z => by omega, fun z => by omega⟩
        · show zd_up y.1 _ _ q = -3 ↔ _
          rw [zd_up_o c]
          exact hy q
      · exact hy q)
    have m2 : ∀ q, (zd_for (zd_sd B) B.1.1 0 (zd_for (zd_mv B n) B.1.2.2 0 ((zd_st B ms n).1, (zd_st B ms n).2.2)).1 q = -3 ↔ (zd_st B ms n).1 q = -3) := zd_for_ind (P := fun _ (y : Nat → Int) => ∀ q, (y q = -3 ↔ (zd_st B ms n).1 q = -3)) B.1.1 0 _ m1 (fun k y _ _ hy q => by
      unfold zd_sd
      split
      · next e => rw [sit _ _ y k q (by omega)]; exact hy q
      · exact hy q)
    have m3 : ∀ q, (zd_for (zd_cm B n) B.1.1 0 (zd_for (zd_sd B) B.1.1 0 (zd_for (zd_mv B n) B.1.2.2 0 ((zd_st B ms n).1, (zd_st B ms n).2.2)).1) q = -3 ↔ (zd_st B ms n).1 q = -3) := zd_for_ind (P := fun _ (y : Nat → Int) => ∀ q, (y q = -3 ↔ (zd_st B ms n).1 q = -3)) B.1.1 0 _ m2 (fun k y _ _ hy q => by
      unfold zd_cm
      split
      · next e =>
        rw [sit _ _ (zd_up y k (-1)) k q (by rw [zd_up_i]; decide)]
        by_cases c : q = k
        · rw [c, zd_up_i, ← hy]
          have hk : (zd_st B ms n).1 k = -2 := by
            by_cases z : (zd_st B ms n).1 k = -2
            · exact z
            · have := i2 k z
              omega
          rw [hy, hk]
          exact ⟨fun z => by omega, fun z => by omega⟩
        · rw [zd_up_o c]
          exact hy q
      · exact hy q)
    exact fun c _ => m3 c
  refine ⟨N, K, q1, ⟨zdXb_x h1 q4, q2, fun q hq => ?_, q3, ?_, fun m hm z k hk => h6 m hm (by rw [← k8]; exact z) k hk, g1⟩, q4⟩
  · rw [q4 5 q (by decide) (by decide)]
    exact h3 q hq
  · rw [q4 0 7 (by decide) (by decide), h5]
    show ((zd_ct (zd_st B ms n).1 B.1.1 : Nat) : Int) = (zd_ct (zd_at B n (zd_st B ms n)).1 B.1.1 : Nat)
    rw [zd_ct_eq hp]
/-- a minute's call, and what comes behind it -/
theorem zdS_fin (hv : zdXv B) {l3 : Int64} {n : Nat} (hn : n ≤ 60) (h : zdS B ((zd_at B n (zd_st B (zd_bit l3) n)).1, (zd_st B (zd_bit l3) n).2.1, (zd_at B n (zd_st B (zd_bit l3) n)).2) I J) : ∃ N K, zF_X2_finish zW_DB [.ref 0, .ref 8, .int (Int32.ofNat n), .long l3] (I, J) = some (none, (N, K)) ∧ zdS B (zd_st B (zd_bit l3) (n + 1)) N K ∧ ∀ a b, 8 ≤ a → N a b = I a b := by
  obtain ⟨h1, h2, h3, h4, h5, h6, h7⟩ := h
  obtain ⟨N, K, q1, q2, q3, q4, q5, q6, q7, q8⟩ := zdx_fin (w := (zd_st B (zd_bit l3) n).2.1) hv hn l3 h1 h2 h3 h5 h7
  exact ⟨N, K, q1, ⟨zdXb_f h1 q5, q2, q3, fun q hq => by rw [q7]; exact h4 q hq, q4, fun m hm z k hk => h6 m hm (by rw [← q6]; exact z) k hk, q8⟩, q5⟩
theorem zdS_dead (hv : zdXv B) {ms : Nat → Bool} {n : Nat} (hn : n ≤ 61) (h : zdS B (zd_st B ms n) I J) (hd : I 8 6 ≤ I 0 7) : (∀ m, zd_st B ms (n + m) = zd_st B ms n ∧ zd_pl B ms (n + m) = (zd_st B ms n).1) ∧ ∀ c, (zd_st B ms n).1 c < -1 := by
  have hC := hv.1.1
  have hl := zd_ct_le (zd_st B ms n).1 B.1.1
  rw [ze_le, h.1.1.1, zp_o (by omega), h.2.2.2.2.1] at hd
  have all := zd_ct_all (p := (zd_st B ms n).1) (C := B.1.1) (by omega)
  refine ⟨zd_st_dead hv.1 all, fun c => ?_⟩
  by_cases q : c < B.1.1
  · rw [all c q]
    decide
  · rw [(zdI_st (ms := ms) hv.1 n).1 c (by omega)]
    decide
theorem zdx_live8 (hv : zdXv B) (l2 : Int64) : ∀ (d n : Nat) (I : Nat → Nat → Int32) (J : Nat → Nat → Int64), n + d = 61 → zdS B (zd_st B (zd_bit l2) n) I J → ∃ N K, zv_X2_live_DB_8 I J l2 (Int32.ofNat n) = some (none, (N, K)) ∧ zdS B (zd_st B (zd_bit l2) 61) N K ∧ ∀ a b, 8 ≤ a → N a b = I a b := by
  have e60 : (60 : Int32).toInt = 60 := by decide
  intro d
  induction d with
  | zero =>
    intro n I J h hs
    have en : n = 61 := by omega
    subst en
    refine ⟨I, J, ?_, hs, fun _ _ _ => rfl⟩
    rw [zq_X2_live_DB_8, if_pos (by rw [ze_lt, e60, zp_o (by omega)]; omega), zq_X2_live_DB_47]
  | succ d ih =>
    intro n I J h hs
    rw [zq_X2_live_DB_8, if_neg (fun z => by rw [ze_lt, e60, zp_o (by omega)] at z; omega), zq_X2_live_DB_15]
    by_cases c : I 8 6 ≤ I 0 7
    · have hd := (zdS_dead hv (by omega) hs c).1 (61 - n)
      rw [show n + (61 - n) = 61 by omega] at hd
      refine ⟨I, J, ?_, by rw [hd.1]; exact hs, fun _ _ _ => rfl⟩
      rw [if_pos c, zq_X2_live_DB_47]
    · obtain ⟨N1, K1, q1, q2, q3⟩ := zdS_set hv (by omega) hs
      obtain ⟨N2, K2, r1, r2, r3⟩ := zdS_fin hv (by omega) q2
      obtain ⟨N3, K3, s1, s2, s3⟩ := ih (n + 1) N2 K2 (by omega) r2
      refine ⟨N3, K3, ?_, s2, fun a b ha => (s3 a b ha).trans ((r3 a b ha).trans (q3 a b (by omega) (by omega)))⟩
      rw [if_neg c, zc_X2_live_DB_26 _ _ _ _ q1, zc_X2_live_DB_33 _ _ _ _ r1, zq_X2_live_DB_41, zp_o1 (by omega)]
      exact s1
theorem zdx_live (hv : zdXv B) (l2 : Int64) (hb : zdXb B I) (hG : zt_Gs zo_g7 (I, J)) : ∃ N K, zF_X2_live zW_DB [.ref 0, .ref 8, .long l2] (I, J) = some (none, (N, K)) ∧ zdS B (zd_st B (zd_bit l2) 61) N K ∧ ∀ a b, 8 ≤ a → N a b = I a b := by
  obtain ⟨N, K, q1, q2, q3⟩ := zdS_0 (ms := zd_bit l2) hv hb hG
  obtain ⟨N2, K2, r1, r2, r3⟩ := zdx_live8 hv l2 61 0 N K rfl q2
  exact ⟨N2, K2, (zf_X2_live_DB _ _ _).trans ((zc_X2_live_DB_0 _ _ _ q1).trans ((zq_X2_live_DB_5 _ _ _).trans r1)), r2, fun a b ha => (r3 a b ha).trans (q3 a b ha)⟩
end ZDC
