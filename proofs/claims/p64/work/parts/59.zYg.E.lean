/-! A DAY OF THE REFERENCE: what it writes down, a minute's call, ages, a day run -/
theorem zd_61 : ∀ c, c < 5 → ∀ m, m < 61 → (61 * Int32.ofNat c + Int32.ofNat m : Int32) = Int32.ofNat (61 * c + m) := by decide +kernel
theorem zd_remE : ∀ n, n < 61 → ∀ E, E < 31 → 1 ≤ E → ((Int32.ofNat n - Int32.ofNat n / Int32.ofNat E * Int32.ofNat E : Int32) = 0 ↔ n % E = 0) := by decide +kernel
theorem zd_shs : ∀ m, m < 61 → ((Int32.toInt64 (Int32.ofNat m) &&& 63).toBitVec.smod (64 : BitVec 64)).toNat = m := by decide +kernel
theorem zd_tests (x : Int64) {m : Nat} (hm : m < 61) : (lg_cmp ((x >>> (Int32.toInt64 (Int32.ofNat m) &&& 63)) &&& 1) 0 = 0) ↔ zd_bit x m = false := by
  rw [lg_cmp_eq, ← Int64.toBitVec_inj, Int64.toBitVec_and, Int64.toBitVec_shiftRight]
  have := zd_and1 (x.toBitVec.sshiftRight' ((Int32.toInt64 (Int32.ofNat m) &&& 63).toBitVec.smod (64 : BitVec 64)))
  rw [BitVec.getLsbD_sshiftRight', zd_shs m hm, if_pos (by omega), Nat.add_zero, show (!decide (64 ≤ 0)) = true by decide, Bool.true_and] at this
  exact this
section ZDE
variable {B : zdB} {I N : Nat → Nat → Int32} {J : Nat → Nat → Int64} {p : Nat → Int}
theorem zdM_f (h : zdM B I J p) (h24 : ∀ c, c < 5 → N 24 c = I 24 c) (h22 : ∀ c, c < 5 → N 22 c = I 22 c) (hG : zt_Gs zo_g22 (N, J)) : zdM B N J p := by
  refine ⟨fun c hc => ?_, h.2.1, h.2.2.1, hG⟩
  rw [h24 c hc, h22 c hc]
  exact h.1 c hc
/-- what is written down of minute m -/
def zdK (p : Nat → Int) (a s : Int32) (c : Nat) : Prop := s.toInt = (if 0 ≤ p c then p c else -1) ∧ (a.toInt = -1 ↔ p c < -1)
theorem zdm_note (hv : zdMv B) {n : Nat} (hn : n ≤ 60) : ∀ (d c : Nat) (I : Nat → Nat → Int32), c + d = B.1.1 → zdMb B I → zdM B I J p → ∃ N, zv_X10_minute_M_203 I J (Int32.ofNat n) (Int32.ofNat c) = zv_X10_minute_M_277 N J (Int32.ofNat n) (Int32.ofNat B.1.1) ∧ zdM B N J p ∧ (∀ q, c ≤ q → q < B.1.1 → zdK p (N 16 (61 * q + n)) (N 17 (61 * q + n)) q) ∧ (∀ q m, q < 5 → m ≤ 60 → (m ≠ n ∨ q < c) → N 16 (61 * q + m) = I 16 (61 * q + m) ∧ N 17 (61 * q + m) = I 17 (61 * q + m)) ∧ ∀ a b, a ≠ 16 → a ≠ 17 → N a b = I a b := by
  have hC := hv.1.1.1
  intro d
  induction d with
  | zero =>
    intro c I h hb hx
    have ec : c = B.1.1 := by omega
    refine ⟨I, ?_, hx, fun q h1 h2 => by omega, fun _ _ _ _ _ => ⟨rfl, rfl⟩, fun _ _ _ _ => rfl⟩
    rw [zc_X10_minute_M_203 _ _ _ _ zdm_callers, zq_X10_minute_M_208, hb.1.1, if_pos ((zp_le (by omega) (by omega)).mpr (by omega)), ec]
  | succ d ih =>
    intro c I h hb hx
    have hnc : ¬ (Int32.ofNat B.1.1 : Int32) ≤ Int32.ofNat c := fun z => by have := (zp_le (by omega) (by omega)).mp z; omega
    have ix := zd_61 c (by omega) n (by omega)
    have g21 := zh_ga hx.2.2.2 zd_r21 c
    have g21 : 0 ≤ (I 21 c).toInt ∧ (I 21 c).toInt ≤ 99 := g21
    have r := hx.2.2.1 c
    have go : ∀ (a s : Int32), zdK p a s c → (-1 ≤ a.toInt ∧ a.toInt ≤ 99) → (-1 ≤ s.toInt ∧ s.toInt ≤ 5) → ∃ N, zv_X10_minute_M_203 (zm_w (zm_w I 16 (61 * c + n) a) 17 (61 * c + n) s) J (Int32.ofNat n) (Int32.ofNat (c + 1)) = zv_X10_minute_M_277 N J (Int32.ofNat n) (Int32.ofNat B.1.1) ∧ zdM B N J p ∧ (∀ q, c ≤ q → q < B.1.1 → zdK p (N 16 (61 * q + n)) (N 17 (61 * q + n)) q) ∧ (∀ q m, q < 5 → m ≤ 60 → (m ≠ n ∨ q < c) → N 16 (61 * q + m) = I 16 (61 * q + m) ∧ N 17 (61 * q + m) = I 17 (61 * q + m)) ∧ ∀ a b, a ≠ 16 → a ≠ 17 → N a b = I a b := by
      intro a s hk ha hs
      have f0 : ∀ x y, x ≠ 16 → x ≠ 17 → zm_w (zm_w I 16 (61 * c + n) a) 17 (61 * c + n) s x y = I x y := fun x y h1 h2 => by rw [ze_wo h2, ze_wo h1]
      obtain ⟨N, q1, q2, q3, q4, q5⟩ := ih (c + 1) (zm_w (zm_w I 16 (61 * c + n) a) 17 (61 * c + n) s) (by omega) (zdMb_f hb (fun x y hxy => f0 x y (by omega) (by omega))) (zdM_f hx (fun q _ => f0 24 q (by decide) (by decide)) (fun q _ => f0 22 q (by decide) (by decide)) (zd_gw (zd_gw hx.2.2.2 zd_r16 ha.1 ha.2) zd_r17 hs.1 hs.2))
      refine ⟨N, q1, q2, fun q h1 h2 => ?_, fun q m hq hm hne => ?_, fun x y h1 h2 => (q5 x y h1 h2).trans (f0 x y h1 h2)⟩
      · by_cases e : q = c
        · have w := q4 q n (by omega) hn (Or.inr (by omega))
          rw [w.1, w.2, e, ze_wo (by decide), ze_wi, ze_wi]
          exact hk
        · exact q3 q (by omega) h2
      · have w := q4 q m hq hm (by omega)
        rw [w.1, w.2, ze_wo (by decide), ze_wj (by omega), ze_wj (by omega), ze_wo (by decide)]
        exact ⟨rfl, rfl⟩
    rw [zc_X10_minute_M_203 _ _ _ _ zdm_callers, zq_X10_minute_M_208, hb.1.1, if_neg hnc, zq_X10_minute_M_211, if_neg (zp_in (by omega) (by omega)), zp_cl (by omega), ix]
    rcases hx.1 c (by omega) with ⟨z1, z2, z3⟩ | ⟨z1, z2⟩
    · have k24 : ∀ v, zm_w I 16 (61 * c + n) v 24 c = 1 := fun v => (ze_wo (by decide)).trans z2
      have k22 : ∀ v, zm_w I 16 (61 * c + n) v 22 c = I 22 c := fun v => ze_wo (by decide)
      rw [z2, if_neg (by decide), zq_X10_minute_M_230, if_neg (zp_in (by omega) (by omega)), zp_cl (by omega), zq_X10_minute_M_240, if_neg (zp_in (by omega) (by omega)), if_neg (zp_in (by omega) (by omega)), zp_cl (by omega), zp_cl (by omega), k24, if_neg (by decide), ix, zq_X10_minute_M_260, if_neg (zp_in (by omega) (by omega)), zp_cl (by omega), k22, zq_X10_minute_M_270, if_neg (zp_in (by omega) (by omega)), zp_cl (by omega), zp_o1 (by omega)]
      refine go (I 21 c) (I 22 c) ⟨?_, ?_⟩ ⟨by omega, by omega⟩ ⟨by omega, by omega⟩
      · rw [z3]
        by_cases e : 0 ≤ p c
        · rw [if_pos e]
        · rw [if_neg e]
          omega
      · constructor
        · intro z
          omega
        · intro z
          omega
    · have k24 : ∀ v, zm_w I 16 (61 * c + n) v 24 c = 0 := fun v => (ze_wo (by decide)).trans z2
      rw [z2, if_pos rfl, zq_X10_minute_M_239, zq_X10_minute_M_240, if_neg (zp_in (by omega) (by omega)), if_neg (zp_in (by omega) (by omega)), zp_cl (by omega), zp_cl (by omega), k24, if_pos rfl, ix, zq_X10_minute_M_269, zq_X10_minute_M_270, if_neg (zp_in (by omega) (by omega)), zp_cl (by omega), zp_o1 (by omega)]
      refine go (-1) (-1) ⟨?_, ?_⟩ (by decide) (by decide)
      · rw [if_neg (by omega)]
        decide
      · rw [zh_m1]
        exact ⟨fun _ => z1, fun _ => rfl⟩
/-- a minute's call -/
theorem zdm_call (hv : zdMv B) {n : Nat} (hn : n ≤ 60) (l2 : Int32) (hb : zdMb B I) (hx : zdM B I J p) {w : Nat → Int} (hw : ∀ q, q < 5 → (I 18 q).toInt = w q) : ∃ N l2', zv_X10_minute_M_277 I J (Int32.ofNat n) l2 = zv_X10_minute_M_346 N J (Int32.ofNat n) l2' ∧ zdM B N J (zd_fin B (zd_bit (J 0 28)) n (p, w)).1 ∧ (∀ q, q < 5 → (N 18 q).toInt = (zd_fin B (zd_bit (J 0 28)) n (p, w)).2 q) ∧ ∀ a b, a ≠ 18 → a ≠ 19 → a ≠ 24 → N a b = I a b := by
  obtain ⟨⟨⟨hC, hS, hst, hac, hsa⟩, hA, hE, hcm, ham⟩, hA4, hsc⟩ := id hv
  obtain ⟨t0, t1, t2⟩ := zd_c0 n (by omega) B.2.2.2.2.2.2 (by omega) hE.1
  have stay : ¬ (0 < n ∧ n % B.2.2.2.2.2.2 = 0 ∧ zd_bit (J 0 28) (n / B.2.2.2.2.2.2 - 1) = false) → ∀ l2', ∃ N l3', zv_X10_minute_M_346 I J (Int32.ofNat n) l2' = zv_X10_minute_M_346 N J (Int32.ofNat n) l3' ∧ zdM B N J (zd_fin B (zd_bit (J 0 28)) n (p, w)).1 ∧ (∀ q, q < 5 → (N 18 q).toInt = (zd_fin B (zd_bit (J 0 28)) n (p, w)).2 q) ∧ ∀ a b, a ≠ 18 → a ≠ 19 → a ≠ 24 → N a b = I a b := fun hc l2' => by
    have e : zd_fin B (zd_bit (J 0 28)) n (p, w) = (p, w) := if_neg hc
    rw [e]
    exact ⟨I, l2', rfl, hx, hw, fun _ _ _ _ _ => rfl⟩
  have z0 : ¬ (Int32.ofNat B.2.2.2.2.2.2 : Int32) = 0 := fun z => by
    have : (Int32.ofNat B.2.2.2.2.2.2).toInt = 0 := by rw [z, ze_i0]
    rw [zp_o (by omega)] at this
    omega
  rw [zq_X10_minute_M_277]
  by_cases c0 : n = 0
  · rw [if_pos (by rw [c0]; decide)]
    exact stay (by omega) l2
  · have c9 : ¬ (Int32.ofNat n : Int32) ≤ 0 := fun q => by
      rw [ze_le, zp_o (by omega), ze_i0] at q
      omega
    rw [if_neg c9, zq_X10_minute_M_281, hb.1.2.2.2.1, if_neg z0]
    by_cases c1 : n % B.2.2.2.2.2.2 = 0
    · have hq1 : 1 ≤ n / B.2.2.2.2.2.2 := by
        by_cases q : n / B.2.2.2.2.2.2 = 0
        · exact absurd ⟨by omega, c1⟩ (t0 q)
        · exact Nat.pos_of_ne_zero q
      rw [if_pos ((zd_remE n (by omega) _ (by omega) hE.1).mpr c1), zq_X10_minute_M_290, hb.1.2.2.2.1, if_neg z0, zd_divE n (by omega) _ (by omega) hE.1, zd_pre _ (by omega) hq1]
      by_cases c2 : zd_bit (J 0 28) (n / B.2.2.2.2.2.2 - 1) = false
      · obtain ⟨r, q1, q2⟩ := zdm_ft hv hb hx
        have hc : 0 < n ∧ n % B.2.2.2.2.2.2 = 0 ∧ zd_bit (J 0 28) (n / B.2.2.2.2.2.2 - 1) = false := ⟨by omega, c1, c2⟩
        rw [if_pos ((zd_tests _ (by omega)).mpr c2), zc_X10_minute_M_310 _ _ _ _ q1, zq_X10_minute_M_314]
        by_cases c3 : zd_ft B p = -1
        · have er : r = -1 := Int32.toInt_inj.mp (by rw [q2, zh_m1]; exact c3)
          have e : zd_fin B (zd_bit (J 0 28)) n (p, w) = (p, w) := by
            unfold zd_fin
            rw [if_pos hc, if_pos c3]
          rw [if_pos er, e]
          exact ⟨I, r, rfl, hx, hw, fun _ _ _ _ _ => rfl⟩
        · rcases zd_ft_b B p with z | ⟨z1, z2, z3⟩
          · exact absurd z c3
          · generalize hf : (zd_ft B p).toNat = f at z3
            have hf5 : f < B.1.1 := by omega
            have er : r = Int32.ofNat f := Int32.toInt_inj.mp (by rw [q2, zp_o (by omega)]; omega)
            have hne : ¬ (Int32.ofNat f : Int32) = -1 := fun z => by
              have : (Int32.ofNat f).toInt = -1 := by rw [z, zh_m1]
              rw [zp_o (by omega)] at this
              omega
            have e : zd_fin B (zd_bit (J 0 28)) n (p, w) = (zd_up p f (-3), zd_up w f n) := by
              unfold zd_fin
              rw [if_pos hc, if_neg c3, hf]
            have nar0 : vp_nar .boolean 0 = 0 := by decide
            have g21 : 0 ≤ (I 21 f).toInt ∧ (I 21 f).toInt ≤ 99 := zh_ga hx.2.2.2 zd_r21 f
            have k21 : zm_w I 18 f (Int32.ofNat n) 21 f = I 21 f := ze_wo (by decide)
            rw [er, if_neg hne, zq_X10_minute_M_320, if_neg (zp_in (by omega) (by omega)), if_neg (zp_in (by omega) (by omega)), if_neg (zp_in (by omega) (by omega)), if_neg (zp_in (by omega) (by omega)), zp_cl (by omega), nar0, k21, e]
            refine ⟨_, Int32.ofNat f, rfl, ⟨fun q hq => ?_, fun q hq => ?_, fun q => ?_, ?_⟩, fun q hq => ?_, fun a b h1 h2 h3 => by rw [ze_wo h3, ze_wo h2, ze_wo h1]⟩
            · dsimp only
              by_cases e1 : q = f
              · rw [e1, ze_wi, zd_up_i]
                exact Or.inr ⟨by decide, rfl⟩
              · rw [ze_wj e1, ze_wo (by decide), ze_wo (by decide), ze_wo (by decide), ze_wo (by decide), ze_wo (by decide), zd_up_o e1]
                exact hx.1 q hq
            · show zd_up p f (-3) q = -2
              rw [zd_up_o (by omega)]
              exact hx.2.1 q hq
            · show -3 ≤ zd_up p f (-3) q ∧ zd_up p f (-3) q ≤ 5
              by_cases e1 : q = f
              · rw [e1, zd_up_i]
                decide
              · rw [zd_up_o e1]
                exact hx.2.2.1 q
            · exact zd_gw (zd_gw (zd_gw hx.2.2.2 zd_r18 (by rw [zp_o (by omega)]; show (-1 : Int) ≤ _; omega) (by rw [zp_o (by omega)]; show _ ≤ (60 : Int); omega)) zd_r19 g21.1 g21.2) zd_r24 (by decide) (by decide)
            · show _ = zd_up w f n q
              rw [ze_wo (by decide), ze_wo (by decide)]
              by_cases e1 : q = f
              · rw [e1, ze_wi, zd_up_i, zp_o (by omega)]
              · rw [ze_wj e1, zd_up_o e1]
                exact hw q hq
      · rw [if_neg (fun z => c2 ((zd_tests _ (by omega)).mp z))]
        exact stay (fun z => c2 z.2.2) l2
    · rw [if_neg (fun z => c1 ((zd_remE n (by omega) _ (by omega) hE.1).mp z))]
      exact stay (fun z => c1 z.2.1) l2
/-- older answers, and touches nothing -/
theorem zdm_older (hv : zdMv B) (hb : zdMb B I) (hx : zdM B I J p) {c : Nat} (hc : c < B.1.1) (hp : 0 ≤ p c) : ∃ r : Int32, zF_X10_older zW_M [.ref 0, .int (Int32.ofNat c)] (I, J) = some (some (.int r), (I, J)) ∧ 0 ≤ r.toInt ∧ r.toInt ≤ 99 := by
  have hC := hv.1.1.1
  have h22 : (I 22 c).toInt = p c := by
    rcases hx.1 c (by omega) with ⟨z1, z2, z3⟩ | ⟨z1, z2⟩
    · exact z3
    · omega
  have r5 := hx.2.2.1 c
  have h75 : (I 7 5).toInt = B.1.1 := by rw [hb.1.1, zp_o (by omega)]
  have hcl : Int32.toNatClampNeg (Int32.ofNat c) = c := zp_cl (by omega)
  obtain ⟨v, ⟨N, K⟩, q1, q2, q3, o, q4, q5⟩ := zp_get (w0 := zW_M) (G := zo_g22) (zi_437 0 zo_hd) rfl rfl (as := [.ref 0, .int (Int32.ofNat c)]) (M := (I, J)) (zq_s1 zq_r0 (zq_s1 (zd_i (by omega) (by show (0 : Int) ≤ _; omega) (by show _ ≤ (4 : Int); omega)) zq_s0)) (zq_ca ⟨by show (1 : Int) ≤ (I 7 5).toInt; omega, by show (I 7 5).toInt ≤ (5 : Int); omega⟩ (zq_ca ⟨Int32.ofNat c, rfl, by show (0 : Int) ≤ (I 22 (Int32.toNatClampNeg (Int32.ofNat c))).toInt; rw [hcl, h22]; exact hp, by show (I 22 (Int32.toNatClampNeg (Int32.ofNat c))).toInt ≤ (5 : Int); rw [hcl, h22]; exact r5.2⟩ zh_no)) hx.2.2.2
  have eN : N = I := by
    funext a b
    exact (q3 a b rfl).1
  have eK : K = J := by
    funext a b
    exact (q3 a b rfl).2
  subst eN
  subst eK
  have hm : o = (some (zj (.ofNat 0) (.ofNat 99)), [], [((1, 7, 5), .ofNat 1, .ofNat 5)], []) ∨ o = (some (zj (.ofNat 0) (.ofNat 0)), [], [((1, 7, 5), .ofNat 1, .ofNat 5)], []) := by
    rcases List.mem_cons.mp q4 with h | h
    · exact Or.inl h
    · exact Or.inr (List.mem_singleton.mp h)
  rcases hm with rfl | rfl
  · obtain ⟨u, rfl, x, rfl, hr, -⟩ := q5.1
    exact ⟨x, q1, hr.1, hr.2.1⟩
  · obtain ⟨u, rfl, x, rfl, hr, -⟩ := q5.1
    have h0 : x.toInt ≤ 0 := hr.2.1
    exact ⟨x, q1, hr.1, by omega⟩
theorem zdm_olds (hv : zdMv B) (n : Int32) : ∀ (d c : Nat) (I : Nat → Nat → Int32), c + d = B.1.1 → zdMb B I → zdM B I J p → ∃ N, zv_X10_minute_M_348 I J n (Int32.ofNat c) = zv_X10_minute_M_394 N J n (Int32.ofNat 0) ∧ zdM B N J p ∧ ∀ a b, a ≠ 25 → N a b = I a b := by
  have hC := hv.1.1.1
  intro d
  induction d with
  | zero =>
    intro c I h hb hx
    refine ⟨I, ?_, hx, fun _ _ _ => rfl⟩
    rw [zc_X10_minute_M_348 _ _ _ _ zdm_callers, zq_X10_minute_M_353, hb.1.1, if_pos ((zp_le (by omega) (by omega)).mpr (by omega)), zq_X10_minute_M_392]
    rfl
  | succ d ih =>
    intro c I h hb hx
    have hnc : ¬ (Int32.ofNat B.1.1 : Int32) ≤ Int32.ofNat c := fun z => by have := (zp_le (by omega) (by omega)).mp z; omega
    have next : ∃ N, zv_X10_minute_M_386 I J n (Int32.ofNat c) = zv_X10_minute_M_394 N J n (Int32.ofNat 0) ∧ zdM B N J p ∧ ∀ a b, a ≠ 25 → N a b = I a b := by
      obtain ⟨N, q1, q2, q3⟩ := ih (c + 1) I (by omega) hb hx
      refine ⟨N, ?_, q2, q3⟩
      rw [zq_X10_minute_M_386, zp_o1 (by omega)]
      exact q1
    rw [zc_X10_minute_M_348 _ _ _ _ zdm_callers, zq_X10_minute_M_353, hb.1.1, if_neg hnc, zq_X10_minute_M_356, if_neg (zp_in (by omega) (by omega)), zp_cl (by omega)]
    rcases hx.1 c (by omega) with ⟨z1, z2, z3⟩ | ⟨z1, z2⟩
    · rw [z2, if_neg (by decide), zq_X10_minute_M_365, if_neg (zp_in (by omega) (by omega)), zp_cl (by omega)]
      by_cases c1 : p c = -1
      · rw [if_pos (Int32.toInt_inj.mp (by rw [z3, zh_m1]; exact c1))]
        exact next
      · obtain ⟨r, r1, r2, r3⟩ := zdm_older hv hb hx (show c < B.1.1 by omega) (by omega)
        rw [if_neg (fun z => c1 (by rw [← z3, z, zh_m1])), zc_X10_minute_M_375 _ _ _ _ r1, zq_X10_minute_M_385, if_neg (zp_in (by omega) (by omega)), zp_cl (by omega), zq_X10_minute_M_386, zp_o1 (by omega)]
        have f0 : ∀ x y, x ≠ 25 → zm_w I 25 c r x y = I x y := fun x y h1 => ze_wo h1
        obtain ⟨N, q1, q2, q3⟩ := ih (c + 1) (zm_w I 25 c r) (by omega) (zdMb_f hb (fun x y hxy => f0 x y (by omega))) (zdM_f hx (fun q _ => f0 24 q (by decide)) (fun q _ => f0 22 q (by decide)) (zd_gw hx.2.2.2 zd_r25 r2 r3))
        exact ⟨N, q1, q2, fun a b ha => (q3 a b ha).trans (f0 a b ha)⟩
    · rw [z2, if_pos rfl]
      exact next
theorem zdm_ages (hv : zdMv B) (n : Int32) : ∀ (d c : Nat) (I : Nat → Nat → Int32), c + d = B.1.1 → zdMb B I → zdM B I J p → ∃ N, zv_X10_minute_M_394 I J n (Int32.ofNat c) = some (none, (N, J)) ∧ zdM B N J p ∧ ∀ a b, a ≠ 21 → a ≠ 23 → N a b = I a b := by
  have hC := hv.1.1.1
  intro d
  induction d with
  | zero =>
    intro c I h hb hx
    refine ⟨I, ?_, hx, fun _ _ _ _ => rfl⟩
    rw [zc_X10_minute_M_394 _ _ _ _ zdm_callers, zq_X10_minute_M_399, hb.1.1, if_pos ((zp_le (by omega) (by omega)).mpr (by omega)), zq_X10_minute_M_452]
  | succ d ih =>
    intro c I h hb hx
    have hnc : ¬ (Int32.ofNat B.1.1 : Int32) ≤ Int32.ofNat c := fun z => by have := (zp_le (by omega) (by omega)).mp z; omega
    have next : ∃ N, zv_X10_minute_M_446 I J n (Int32.ofNat c) = some (none, (N, J)) ∧ zdM B N J p ∧ ∀ a b, a ≠ 21 → a ≠ 23 → N a b = I a b := by
      obtain ⟨N, q1, q2, q3⟩ := ih (c + 1) I (by omega) hb hx
      refine ⟨N, ?_, q2, q3⟩
      rw [zq_X10_minute_M_446, zp_o1 (by omega)]
      exact q1
    rw [zc_X10_minute_M_394 _ _ _ _ zdm_callers, zq_X10_minute_M_399, hb.1.1, if_neg hnc, zq_X10_minute_M_402, if_neg (zp_in (by omega) (by omega)), zp_cl (by omega)]
    rcases hx.1 c (by omega) with ⟨z1, z2, z3⟩ | ⟨z1, z2⟩
    · rw [z2, if_neg (by decide), zq_X10_minute_M_411, if_neg (zp_in (by omega) (by omega)), zp_cl (by omega)]
      by_cases c1 : p c = -1
      · rw [if_pos (Int32.toInt_inj.mp (by rw [z3, zh_m1]; exact c1)), zq_X10_minute_M_421]
        exact next
      · have g25 : 0 ≤ (I 25 c).toInt ∧ (I 25 c).toInt ≤ 99 := zh_ga hx.2.2.2 zd_r25 c
        have w23 := zt_rgI ((zm_w I 21 c (I 25 c)) 23 c + 1)
        rw [if_neg (fun z => c1 (by rw [← z3, z, zh_m1])), zq_X10_minute_M_424, if_neg (zp_in (by omega) (by omega)), if_neg (zp_in (by omega) (by omega)), if_neg (zp_in (by omega) (by omega)), if_neg (zp_in (by omega) (by omega)), zp_cl (by omega), zq_X10_minute_M_446, zp_o1 (by omega)]
        generalize (zm_w I 21 c (I 25 c)) 23 c + 1 = y at w23
        have f0 : ∀ a b, a ≠ 21 → a ≠ 23 → zm_w (zm_w I 21 c (I 25 c)) 23 c y a b = I a b := fun a b h1 h2 => by rw [ze_wo h2, ze_wo h1]
        obtain ⟨N, q1, q2, q3⟩ := ih (c + 1) (zm_w (zm_w I 21 c (I 25 c)) 23 c y) (by omega) (zdMb_f hb (fun a b hab => f0 a b (by omega) (by omega))) (zdM_f hx (fun q _ => f0 24 q (by decide) (by decide)) (fun q _ => f0 22 q (by decide) (by decide)) (zd_gw (zd_gw hx.2.2.2 zd_r21 g25.1 g25.2) zd_r23 w23.1 w23.2))
        exact ⟨N, q1, q2, fun a b h1 h2 => (q3 a b h1 h2).trans (f0 a b h1 h2)⟩
    · rw [z2, if_pos rfl]
      exact next
/-- what holds of the reference's day before minute n -/
def zdT (B : zdB) (ms : Nat → Bool) (n : Nat) (I : Nat → Nat → Int32) (J : Nat → Nat → Int64) : Prop := zdMb B I ∧ zdM B I J (zd_st B ms n).1 ∧ (∀ q, q < 5 → (I 18 q).toInt = (zd_st B ms n).2.1 q) ∧ zdH B n 0 I (zd_st B ms n).2.2 ∧ ∀ m, m < n → ∀ q, q < B.1.1 → zdK (zd_pl B ms m) (I 16 (61 * q + m)) (I 17 (61 * q + m)) q
theorem zdT_min (hv : zdMv B) {n : Nat} (hn : n ≤ 60) (h : zdT B (zd_bit (J 0 28)) n I J) : ∃ N, zF_X10_minute zW_M [.ref 0, .int (Int32.ofNat n)] (I, J) = some (none, (N, J)) ∧ zdT B (zd_bit (J 0 28)) (n + 1) N J ∧ ∀ a b, (a < 16 ∨ 25 < a) → N a b = I a b := by
  have hC := hv.1.1.1
  obtain ⟨h1, h2, h3, h4, h5⟩ := h
  generalize hz : zd_st B (zd_bit (J 0 28)) n = z at h2 h3 h4
  obtain ⟨N1, a1, a2, a3, a4⟩ := zdm_mvs (J := J) hv hn B.1.2.2 0 I (z.1, z.2.2) (by omega) h1 h2 h4
  have b1 := zdMb_f h1 (fun a b hab => a4 a b (by omega) (by omega) (by omega))
  obtain ⟨N2, c1, c2, c3⟩ := zdm_sds (J := J) hv (Int32.ofNat n) B.1.1 0 N1 _ (by omega) b1 a2
  have b2 := zdMb_f b1 (fun a b hab => c3 a b (by omega) (by omega))
  obtain ⟨N3, d1, d2, d3⟩ := zdm_cms (J := J) hv hn B.1.1 0 N2 _ (by omega) b2 c2
  have b3 := zdMb_f b2 (fun a b hab => d3 a b (by omega))
  have hpl : zd_pl B (zd_bit (J 0 28)) n = (zd_at B n z).1 := by
    unfold zd_pl
    rw [hz]
  have d2 : zdM B N3 J (zd_at B n z).1 := d2
  have a3 : zdH B n B.1.2.2 N1 (zd_at B n z).2 := a3
  obtain ⟨N4, e1, e2, e3, e4, e5⟩ := zdm_note (J := J) hv hn B.1.1 0 N3 (by omega) b3 d2
  have b4 := zdMb_f b3 (fun a b hab => e5 a b (by omega) (by omega))
  have w4 : ∀ q, q < 5 → (N4 18 q).toInt = z.2.1 q := fun q hq => by
    rw [e5 18 q (by decide) (by decide), d3 18 q (by omega), c3 18 q (by decide) (by decide), a4 18 q (by decide) (by decide) (by decide)]
    exact h3 q hq
  obtain ⟨N5, l5, f1, f2, f3, f4⟩ := zdm_call (J := J) hv hn (Int32.ofNat B.1.1) b4 e2 w4
  have b5 := zdMb_f b4 (fun a b hab => f4 a b (by omega) (by omega) (by omega))
  obtain ⟨N6, g1, g2, g3⟩ := zdm_olds (J := J) hv (Int32.ofNat n) B.1.1 0 N5 (by omega) b5 f2
  have b6 := zdMb_f b5 (fun a b hab => g3 a b (by omega))
  obtain ⟨N7, k1, k2, k3⟩ := zdm_ages (J := J) hv (Int32.ofNat n) B.1.1 0 N6 (by omega) b6 g2
  have b7 := zdMb_f b6 (fun a b hab => k3 a b (by omega) (by omega))
  have es : zd_st B (zd_bit (J 0 28)) (n + 1) = zd_nx B (zd_bit (J 0 28)) n z := by
    show zd_nx B (zd_bit (J 0 28)) n (zd_st B (zd_bit (J 0 28)) n) = _
    rw [hz]
  have back : ∀ a b, (a = 16 ∨ a = 17) → N7 a b = N4 a b := fun a b ha => by rw [k3 a b (by omega) (by omega), g3 a b (by omega), f4 a b (by omega) (by omega) (by omega)]
  refine ⟨N7, ?_, ⟨b7, by rw [es]; exact k2, fun q hq => ?_, ⟨fun q hq hlt => ?_, fun q hq => ?_⟩, fun m hm q hq => ?_⟩, fun a b hab => ?_⟩
  · rw [zf_X10_minute_M, zq_X10_minute_M_0]
    refine Eq.trans a1 (c1.trans (d1.trans (e1.trans (f1.trans ?_))))
    rw [zq_X10_minute_M_346]
    exact g1.trans k1
  · rw [es, k3 18 q (by decide) (by decide), g3 18 q (by decide)]
    exact f3 q hq
  · rw [es, k3 20 q (by decide) (by decide), g3 20 q (by decide), f4 20 q (by decide) (by decide) (by decide), e5 20 q (by decide) (by decide), d3 20 q (by omega), c3 20 q (by decide) (by decide)]
    exact a3.1 q hq (by omega)
  · rw [es] at hq
    have := a3.2 q hq
    omega
  · rw [back 16 _ (Or.inl rfl), back 17 _ (Or.inr rfl)]
    by_cases c : m = n
    · rw [c, hpl]
      exact e3 q (Nat.zero_le q) hq
    · have w := e4 q m (by omega) (by omega) (Or.inl c)
      rw [w.1, w.2, d3 16 _ (by omega), d3 17 _ (by omega), c3 16 _ (by decide) (by decide), c3 17 _ (by decide) (by decide), a4 16 _ (by decide) (by decide) (by decide), a4 17 _ (by decide) (by decide) (by decide)]
      exact h5 m (by omega) q hq
  · rw [k3 a b (by omega) (by omega), g3 a b (by omega), f4 a b (by omega) (by omega) (by omega), e5 a b (by omega) (by omega), d3 a b (by omega), c3 a b (by omega) (by omega), a4 a b (by omega) (by omega) (by omega)]
theorem zdT_29 (hv : zdMv B) {to : Nat} (ht : to ≤ 60) : ∀ (d n : Nat) (I : Nat → Nat → Int32), n + d = to + 1 → zdT B (zd_bit (J 0 28)) n I J → ∃ N, zv_X10_runs_M_29 I J (Int32.ofNat to) (Int32.ofNat n) = some (none, (N, J)) ∧ zdT B (zd_bit (J 0 28)) (to + 1) N J ∧ ∀ a b, (a < 16 ∨ 25 < a) → N a b = I a b := by
  intro d
  induction d with
  | zero =>
    intro n I h hs
    have en : n = to + 1 := by omega
    subst en
    refine ⟨I, ?_, hs, fun _ _ _ => rfl⟩
    rw [zq_X10_runs_M_29, if_pos (by rw [ze_lt, zp_o (by omega), zp_o (by omega)]; omega), zq_X10_runs_M_45]
  | succ d ih =>
    intro n I h hs
    obtain ⟨N, q1, q2, q3⟩ := zdT_min hv (show n ≤ 60 by omega) hs
    obtain ⟨N2, r1, r2, r3⟩ := ih (n + 1) N (by omega) q2
    refine ⟨N2, ?_, r2, fun a b hab => (r3 a b hab).trans (q3 a b hab)⟩
    rw [zq_X10_runs_M_29, if_neg (fun z => by rw [ze_lt, zp_o (by omega), zp_o (by omega)] at z; omega), zc_X10_runs_M_34 _ _ _ _ q1, zq_X10_runs_M_39, zp_o1 (by omega)]
    exact r1
theorem zdT_2 (to : Int32) : ∀ (d c : Nat) (I : Nat → Nat → Int32), c + d = 5 → zt_Gs zo_g22 (I, J) → ∃ N, zv_X10_runs_M_2 I J to (Int32.ofNat c) = zv_X10_runs_M_29 N J to (Int32.ofNat 0) ∧ (∀ q, c ≤ q → q < 5 → N 24 q = 0 ∧ (N 18 q).toInt = -1) ∧ (∀ q, q < c → N 24 q = I 24 q ∧ N 18 q = I 18 q) ∧ (∀ a b, a ≠ 18 → a ≠ 24 → N a b = I a b) ∧ zt_Gs zo_g22 (N, J) := by
  have e5 : (5 : Int32) = Int32.ofNat 5 := rfl
  have nar0 : vp_nar .boolean 0 = 0 := by decide
  intro d
  induction d with
  | zero =>
    intro c I h hG
    refine ⟨I, ?_, fun q h1 h2 => by omega, fun q _ => ⟨rfl, rfl⟩, fun _ _ _ _ => rfl, hG⟩
    rw [zq_X10_runs_M_2, if_pos (by rw [e5]; exact (zp_le (by omega) (by omega)).mpr (by omega)), zq_X10_runs_M_27]
    rfl
  | succ d ih =>
    intro c I h hG
    have f0 : ∀ a b, a ≠ 18 → a ≠ 24 → zm_w (zm_w I 24 c 0) 18 c (-1) a b = I a b := fun a b h1 h2 => by rw [ze_wo h1, ze_wo h2]
    obtain ⟨N, q1, q2, q3, q4, q5⟩ := ih (c + 1) (zm_w (zm_w I 24 c 0) 18 c (-1)) (by omega) (zd_gw (zd_gw hG zd_r24 (by decide) (by decide)) zd_r18 (by decide) (by decide))
    refine ⟨N, ?_, fun q h1 h2 => ?_, fun q hq => ?_, fun a b h1 h2 => (q4 a b h1 h2).trans (f0 a b h1 h2), q5⟩
    · rw [zq_X10_runs_M_2, if_neg (fun z => by rw [e5] at z; have := (zp_le (by omega) (by omega)).mp z; omega), zq_X10_runs_M_7, if_neg (zp_in (by omega) (by omega)), if_neg (zp_in (by omega) (by omega)), zp_cl (by omega), nar0, zp_o1 (by omega)]
      exact q1
    · by_cases e : q = c
      · have w := q3 q (by omega)
        rw [w.1, w.2, e, ze_wo (by decide), ze_wi, ze_wi]
        exact ⟨rfl, zh_m1⟩
      · exact q2 q (by omega) h2
    · have w := q3 q (by omega)
      rw [w.1, w.2, ze_wo (by decide), ze_wj (by omega), ze_wj (by omega), ze_wo (by decide)]
      exact ⟨rfl, rfl⟩
/-- a day run to a minute -/
theorem zdT_run (hv : zdMv B) {to : Nat} (ht : to ≤ 60) (hb : zdMb B I) (hG : zt_Gs zo_g22 (I, J)) : ∃ N, zF_X10_runs zW_M [.ref 0, .int (Int32.ofNat to)] (I, J) = some (none, (N, J)) ∧ zdT B (zd_bit (J 0 28)) (to + 1) N J ∧ ∀ a b, (a < 16 ∨ 25 < a) → N a b = I a b := by
  obtain ⟨N1, q1, q2, q3, q4, q5⟩ := zdT_2 (J := J) (Int32.ofNat to) 5 0 I rfl hG
  have h0 : zdT B (zd_bit (J 0 28)) 0 N1 J := ⟨zdMb_f hb (fun a b hab => q4 a b (by omega) (by omega)), ⟨fun c hc => Or.inr ⟨by show (-2 : Int) < -1; decide, (q2 c (Nat.zero_le c) hc).1⟩, fun _ _ => rfl, fun _ => ⟨by show (-3 : Int) ≤ -2; decide, by show (-2 : Int) ≤ 5; decide⟩, q5⟩, fun q hq => (q2 q (Nat.zero_le q) hq).2, ⟨fun q hq hlt => by omega, fun q hq => by cases hq⟩, fun m hm => absurd hm (Nat.not_lt_zero m)⟩
  obtain ⟨N2, r1, r2, r3⟩ := zdT_29 hv ht (to + 1) 0 N1 (by omega) h0
  refine ⟨N2, ?_, r2, fun a b hab => (r3 a b hab).trans (q4 a b (by omega) (by omega))⟩
  rw [zf_X10_runs_M, zq_X10_runs_M_0]
  exact Eq.trans q1 r1
end ZDE
