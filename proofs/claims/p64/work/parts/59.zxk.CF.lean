/-! THE CLASS'S CHANCES, weighed from its bench -/
theorem zcg_min : ∀ E, E < 31 → 1 ≤ E → (if (Int32.ofNat (60 / E) : Int32) < 10 then Int32.ofNat (60 / E) else 10) = Int32.ofNat (min 10 (60 / E)) := by decide +kernel
theorem zcg_e1 : ∀ a, a < 11 → ∀ n, n < 18 → zo_g7[n]? = zo_g1[if n < 8 then 76 + 8 * a + n else n - 7]? := by decide +kernel
theorem zcg_Gc {I N : Nat → Nat → Int32} {J K : Nat → Nat → Int64} (hG : zcd_G I J) (hf : ∀ a b, 4 ≤ a → N a b = I a b) : zcd_G N K := fun h hh n g hg i bd hbd => by
  obtain ⟨a, ha, ea⟩ := zcd_dyo hh
  have hn : n < 18 := (List.getElem?_eq_some_iff.mp hg).1
  have w := hG h hh n g hg i bd hbd
  rw [(zcb_s (a := h) hn (I, J)).1] at w
  rw [(zcb_s (a := h) hn (N, K)).1]
  have q : N (if n < 8 then h + n else 84 + n) i = I (if n < 8 then h + n else 84 + n) i := hf _ i (by
    by_cases c : n < 8
    · rw [if_pos c]; omega
    · rw [if_neg c]; omega)
  show bd.1 ≤ (N (if n < 8 then h + n else 84 + n) i).toInt ∧ (N (if n < 8 then h + n else 84 + n) i).toInt ≤ bd.2
  rw [q]
  exact w
theorem zcg_Xb {B : zdB} {I N : Nat → Nat → Int32} (h : zdXb B I) (hf : ∀ a b, 8 ≤ a → a < 18 → N a b = I a b) : zdXb B N := by
  obtain ⟨⟨a, b, c, d⟩, e, f, g⟩ := h
  refine ⟨⟨?_, ?_, ?_, ?_⟩, fun q hq => ?_, fun q hq => ?_, fun q hq => ?_⟩
  · rw [hf 8 6 (by decide) (by decide)]; exact a
  · rw [hf 8 5 (by decide) (by decide)]; exact b
  · rw [hf 8 7 (by decide) (by decide)]; exact c
  · rw [hf 8 3 (by decide) (by decide)]; exact d
  · rw [hf 11 q (by decide) (by decide)]; exact e q hq
  · rw [hf 12 q (by decide) (by decide)]; exact f q hq
  · rw [hf 15 q (by decide) (by decide), hf 16 q (by decide) (by decide), hf 17 q (by decide) (by decide)]; exact g q hq
theorem zcg_a0 (B : zdB) (o k c : Nat) : zcc_a B o 0 0 k c = (10 - o) * zcf_V B o k c := by
  unfold zcc_a
  rw [if_pos (Nat.zero_le k), Nat.sub_zero]
  congr 1
  unfold zca_Q zcf_V
  refine zca_T_c (fun y _ => ?_)
  rw [Nat.pow_zero, Nat.one_mul, Nat.zero_add]
  rfl
theorem zcg_fill {a : Nat} (ha : a = 1 ∨ a = 2) (I : Nat → Nat → Int32) (J : Nat → Nat → Int64) : ∃ N, zF_J7_fill_d0a16 [(.inr (.long, 50), [])] [.ref 0, .long 0] (zm_sub2 [(a, 1)] (I, J)) = some (none, N) ∧ (zm_mrg [(a, 1)] (I, J) N).1 = I ∧ (∀ q, q < 50 → (zm_mrg [(a, 1)] (I, J) N).2 a q = 0) ∧ ∀ n i, n ≠ a → (zm_mrg [(a, 1)] (I, J) N).2 n i = J n i := by
  obtain ⟨K, f1, f2⟩ := zcd_fill (zm_sub2 [(a, 1)] (I, J))
  refine ⟨_, f1, funext fun n => funext fun i => ?_, fun q hq => ?_, fun n i hn => ((zcd_m1 (I, J) _ n i).2 hn).2⟩
  · by_cases e : n = a
    · rw [((zcd_m1 (I, J) _ n i).1 e).1, e]
      show I (zm_fw [(a, 1)] 0) i = I a i
      have : zm_fw [(a, 1)] 0 = a := by
        unfold zm_fw
        rw [if_pos (by decide)]
        omega
      rw [this]
    · exact ((zcd_m1 (I, J) _ n i).2 e).1
  · rw [((zcd_m1 (I, J) _ a q).1 rfl).2]
    exact f2 q hq
theorem zcg_weigh {B : zdB} (hv : zdXv B) {o : Nat} (ho : o ≤ 10) {I : Nat → Nat → Int32} {J : Nat → Nat → Int64} (h0 : I 0 0 = 0) (h3 : I 92 3 = Int32.ofNat B.2.2.2.2.2.2) (h4 : I 92 4 = Int32.ofNat o) (hb : zdXb B (zm_sub2 [(4, 8), (92, 10)] (I, J)).1) (hG : zcd_G I J) : ∃ N K, zF_X1_weigh zW_CB [.ref 0, .ref 92] (I, J) = some (none, (N, K)) ∧ N 0 4 = Int32.ofNat (zcf_N B) ∧ (∀ k c, k < zcf_N B → c < 5 → K 1 (5 * k + c) = Int64.ofNat ((10 - o) * zcf_V B o k c)) ∧ ∀ a b, 92 ≤ a → N a b = I a b ∧ K a b = J a b := by
  have hE := hv.2.2.1
  have hn10 : zcf_N B ≤ 10 := Nat.min_le_left _ _
  have hnE : zcf_N B * B.2.2.2.2.2.2 ≤ 60 := Nat.le_trans (Nat.mul_le_mul_right _ (Nat.min_le_right 10 (60 / B.2.2.2.2.2.2))) (Nat.div_mul_le_self 60 _)
  have hd4 : zm_isDay 4 := Or.inl rfl
  obtain ⟨N1, f1, f2, f3, f4⟩ := zcg_fill (Or.inl rfl) I J
  have e1 : zF_X1_weigh zW_CB [.ref 0, .ref 92] (I, J) = zv_X1_weigh_CB_16 (zm_mrg [(1, 1)] (I, J) N1).1 (zm_mrg [(1, 1)] (I, J) N1).2 := by
    rw [zf_X1_weigh_CB, zq_X1_weigh_CB_0, if_pos h0, zc_X1_weigh_CB_8 _ _ f1]
  rw [f2] at e1
  generalize (zm_mrg [(1, 1)] (I, J) N1).2 = J1 at f3 f4 e1
  obtain ⟨N2, g1, g2, g3, g4⟩ := zcg_fill (Or.inr rfl) I J1
  have e2 : zv_X1_weigh_CB_16 I J1 = zv_X1_weigh_CB_24 (zm_mrg [(2, 1)] (I, J1) N2).1 (zm_mrg [(2, 1)] (I, J1) N2).2 := zc_X1_weigh_CB_16 _ _ g1
  rw [g2] at e2
  generalize (zm_mrg [(2, 1)] (I, J1) N2).2 = J2 at g3 g4 e2
  have hcall : zF_X0_callsTill zW_B [.ref 0, .int 60] (zm_sub2 [(92, 10)] (I, J2)) = some (some (.int (Int32.ofNat (60 / B.2.2.2.2.2.2))), zm_sub2 [(92, 10)] (I, J2)) := zdx_calls (M := zm_sub2 [(92, 10)] (I, J2)) (n := 60) h3 hE (Nat.le_refl 60)
  have e3 : zv_X1_weigh_CB_24 I J2 = zv_X1_weigh_CB_50 (zm_w I 0 4 (Int32.ofNat (zcf_N B))) J2 := by
    rw [zc_X1_weigh_CB_24 _ _ hcall, zm_mrg_id, zq_X1_weigh_CB_33, zcg_min _ (by omega) hE.1]
    rfl
  obtain ⟨I3, hI3⟩ : ∃ I3, I3 = zm_w I 0 4 (Int32.ofNat (zcf_N B)) := ⟨_, rfl⟩
  rw [← hI3] at e3
  have i3 : ∀ a b, 4 ≤ a → I3 a b = I a b := fun a b ha => by rw [hI3, ze_wo (by omega)]
  have i4 : I3 0 4 = Int32.ofNat (zcf_N B) := by rw [hI3, ze_wi]
  have hG3 : zcd_G I3 J2 := zcg_Gc hG i3
  have hb3 : zdXb B (zm_sub2 [(4, 8), (92, 10)] (I3, J2)).1 := zcg_Xb hb (fun a b h8 h18 => by
    rw [(zcb_s (a := 4) h18 (I3, J2)).1, (zcb_s (a := 4) h18 (I, J)).1, if_neg (by omega)]
    exact i3 _ b (by omega))
  obtain ⟨N4, K4, d1, d2, d3⟩ := zdS_0 (J := (zm_sub2 [(4, 8), (92, 10)] (I3, J2)).2) (ms := zca_ms 0) hv hb3 (hG3 4 hd4)
  have d1 : zF_X2_dawn zW_DB [.ref 0, .ref 8] (zm_sub2 [(4, 8), (92, 10)] (I3, J2)) = some (none, (N4, K4)) := d1
  have d4 := (zd_det (w0 := zW_DB) (G := zo_g7) (zi_64 0 zo_hd) rfl rfl rfl rfl (zq_s1 zq_r0 (zq_s1 zq_r0 zq_s0)) (hG3 4 hd4) d1).2
  have d4 : ∀ a b, zt_hit [(0, 7, 9), (1, 0, 4), (2, 0, 4), (3, 0, 4), (4, 0, 4), (5, 0, 4), (6, 0, 4), (7, 0, 5)] a b = false → N4 a b = (zm_sub2 [(4, 8), (92, 10)] (I3, J2)).1 a b ∧ K4 a b = (zm_sub2 [(4, 8), (92, 10)] (I3, J2)).2 a b := d4
  obtain ⟨b1, b2⟩ := zcb_back (h := 4) (I := I3) (J := J2) (by decide) d2 (fun a b ha => d4 a b (by
    unfold zt_hit
    simp only [List.any_cons, List.any_nil, zt_beq_ne.mpr (show (0 : Nat) ≠ a by omega), zt_beq_ne.mpr (show (1 : Nat) ≠ a by omega), zt_beq_ne.mpr (show (2 : Nat) ≠ a by omega), zt_beq_ne.mpr (show (3 : Nat) ≠ a by omega), zt_beq_ne.mpr (show (4 : Nat) ≠ a by omega), zt_beq_ne.mpr (show (5 : Nat) ≠ a by omega), zt_beq_ne.mpr (show (6 : Nat) ≠ a by omega), zt_beq_ne.mpr (show (7 : Nat) ≠ a by omega), Bool.false_and, Bool.or_false]))
  have e4 : zv_X1_weigh_CB_50 I3 J2 = zv_X1_weigh_CB_55 (zm_mrg [(4, 8), (92, 10)] (I3, J2) (N4, K4)).1 (zm_mrg [(4, 8), (92, 10)] (I3, J2) (N4, K4)).2 := zc_X1_weigh_CB_50 _ _ d1
  generalize (zm_mrg [(4, 8), (92, 10)] (I3, J2) (N4, K4)).1 = I4 at b1 b2 e4
  generalize (zm_mrg [(4, 8), (92, 10)] (I3, J2) (N4, K4)).2 = J4 at b1 b2 e4
  have hG4 : zcd_G I4 J4 := zcd_Gf hd4 hG3 b1 b2
  obtain ⟨N5, K5, s1, s2, s3⟩ := zcb_set (n := 0) hv (by decide) b1
  have s1 : zF_X2_settle zW_DB [.ref 0, .ref 8, .int 0] (zm_sub2 [(4, 8), (92, 10)] (I4, J4)) = some (none, (N5, K5)) := s1
  obtain ⟨c1, c2⟩ := zcb_back (h := 4) (I := I4) (J := J4) (by decide) s2 s3
  have e5 : zv_X1_weigh_CB_55 I4 J4 = zv_X1_weigh_CB_61 (zm_mrg [(4, 8), (92, 10)] (I4, J4) (N5, K5)).1 (zm_mrg [(4, 8), (92, 10)] (I4, J4) (N5, K5)).2 := zc_X1_weigh_CB_55 _ _ s1
  generalize (zm_mrg [(4, 8), (92, 10)] (I4, J4) (N5, K5)).1 = I5 at c1 c2 e5
  generalize (zm_mrg [(4, 8), (92, 10)] (I4, J4) (N5, K5)).2 = J5 at c1 c2 e5
  have hG5 : zcd_G I5 J5 := zcd_Gf hd4 hG4 c1 c2
  have f5 := zcb_f_t b2 c2
  have h53 : I5 92 3 = Int32.ofNat B.2.2.2.2.2.2 := ((f5 92 3 (by omega)).1.trans (i3 92 3 (by decide))).trans h3
  have c1 : zcb_D B 4 (zd_st B (zca_ms 0) (0 + 1)) I5 J5 := by
    rw [zcb_next (fun z => absurd z.1 (Nat.lt_irrefl 0))]
    exact c1
  obtain ⟨I6, J6, p1, p2, ⟨zz, p3⟩, p4⟩ := zcb_pass hv hd4 (ms := zca_ms 0) (n := 0) (Nat.zero_mod _) (by decide) h53 c1
  have p1 : zF_X1_passToCall zW_CB [.ref 4, .ref 92, .int 0] (I5, J5) = some (none, (I6, J6)) := p1
  have hG6 : zcd_G I6 J6 := zcd_Gf hd4 hG5 p3 p4
  have f6 := zcb_f_t f5 p4
  have e6 : zv_X1_weigh_CB_61 I5 J5 = zv_X1_weigh_CB_67 I6 J6 := zc_X1_weigh_CB_61 _ _ p1
  have hI6 : zcd_I B o (zcf_N B) I6 := ⟨((f6 92 3 (by omega)).1.trans (i3 92 3 (by decide))).trans h3, ((f6 92 4 (by omega)).1.trans (i3 92 4 (by decide))).trans h4, (f6 0 4 (by omega)).1.trans i4⟩
  obtain ⟨I7, J7, q1, q2, q3, q4⟩ := zcd_branch hv ho hn10 hnE (zcf_N B) 0 0 13 I6 J6 1 (by omega) (by omega) (by decide) hI6 hG6 (fun hlt => by
    have h1 := Nat.mul_le_mul_right B.2.2.2.2.2.2 (show 1 ≤ zcf_N B by omega)
    have p2 := p2 (by omega)
    rw [Nat.zero_add] at p2
    rw [Nat.zero_add, Nat.one_mul]
    exact p2)
  have q1 : (zF_X1_branch 14) zW_CB [.ref 0, .ref 92, .int 0, .long 1] (I6, J6) = some (none, (I7, J7)) := q1
  refine ⟨zm_w I7 0 0 1, J7, ?_, ?_, fun k c hk hc => ?_, fun a b ha => ⟨?_, ?_⟩⟩
  · rw [e1, e2, e3, e4, e5, e6, zc_X1_weigh_CB_67 _ _ q1, zq_X1_weigh_CB_74]
  · rw [ze_wj (by decide), (q3 0 4 (by omega)).1]
    exact hI6.2.2
  · have w := (f6 1 (5 * k + c) (by omega)).2
    rw [q4 k c hk hc, w, g4 1 (5 * k + c) (by decide), f3 (5 * k + c) (by omega), Int64.zero_add, Int64.one_mul, zcg_a0]
  · rw [ze_wo (by omega), (q3 a b (by omega)).1, (f6 a b (by omega)).1, i3 a b (by omega)]
  · rw [(q3 a b (by omega)).2, (f6 a b (by omega)).2, g4 a b (by omega), f4 a b (by omega)]
