/-! THE REFERENCE'S TAKES -/
theorem zp_frLr (J : Nat → Nat → Int64) : zp_frL J J := fun _ _ _ => rfl
theorem zp_frLt {J K P : Nat → Nat → Int64} (h : zp_frL J K) (h2 : zp_frL K P) : zp_frL J P := fun a b ha => (h2 a b ha).trans (h a b ha)
def zp_wt (w j : Nat) : Int := ((zm_sbyt.getD w []).getD j 0).toInt
def zp_wd (w : Nat) (W : Int64) : Prop := W.toInt = zp_wv (zp_wt w) 0 (zm_slen.getD w 0) ∧ zm_slen.getD w 0 ≤ 12 ∧ ∀ j, j < zm_slen.getD w 0 → 97 ≤ zp_wt w j ∧ zp_wt w j ≤ 122
theorem zp_wd0 : zp_wd 0 1171592 := by unfold zp_wd; decide +kernel
theorem zp_wd1 : zp_wd 1 8798 := by unfold zp_wd; decide +kernel
theorem zp_wd2 : zp_wd 2 456399 := by unfold zp_wd; decide +kernel
theorem zp_wd3 : zp_wd 3 3094387 := by unfold zp_wd; decide +kernel
theorem zp_wd4 : zp_wd 4 298288 := by unfold zp_wd; decide +kernel
theorem zp_wd5 : zp_wd 5 377669 := by unfold zp_wd; decide +kernel
theorem zp_wd6 : zp_wd 6 10656676 := by unfold zp_wd; decide +kernel
theorem zp_wd7 : zp_wd 7 3913426 := by unfold zp_wd; decide +kernel
theorem zp_wd8 : zp_wd 8 43823259 := by unfold zp_wd; decide +kernel
theorem zp_wd9 : zp_wd 9 923 := by unfold zp_wd; decide +kernel
theorem zp_wd10 : zp_wd 10 1899199 := by unfold zp_wd; decide +kernel
theorem zp_wd11 : zp_wd 11 404923 := by unfold zp_wd; decide +kernel
theorem zp_wd12 : zp_wd 12 555 := by unfold zp_wd; decide +kernel
section ZPE
variable {T : Nat → Int} {n : Nat} {A : zpA} {I : Nat → Nat → Int32} {J : Nat → Nat → Int64}
theorem zp_nextM (hn : n ≤ 800) (he : A.2.2.1 ≤ n) (h6 : I 0 6 = Int32.ofNat n) (hT : ∀ i, i < n → zp_sg (I 5 i).toInt (T i)) (h7 : I 0 7 = Int32.ofNat A.2.2.1) (h12 : I 0 12 = A.2.2.2.1) (h13 : I 0 13 = A.2.2.2.2) : ∃ N P, zF_X10_next zW_M [.ref 0] (I, J) = some (none, (N, P)) ∧ zpM T n (zp_adv T n A) N P ∧ zp_fr I N ∧ zp_frL J P := by
  have hs2 := (zp_st_b (T := T) he).2
  obtain ⟨K, q1, q2, q3⟩ := zp_n0 (J := J) h6 hT hn (n - A.2.2.1) A.2.2.1 I (Nat.le_refl _) he h7 (fun _ _ _ => rfl)
  rw [show zp_sk T n (n - A.2.2.1) A.2.2.1 = zp_st T n A.2.2.1 from rfl] at q2
  rw [zf_X10_next_M, q1, zq_X10_next_M_43, q2]
  unfold zp_adv
  generalize zp_st T n A.2.2.1 = s at hs2 q2
  have l6 : zm_w (zm_w K 0 9 (Int32.ofNat s)) 0 10 0 0 6 = Int32.ofNat n := by rw [ze_wj (by decide), ze_wj (by decide), q3 0 6 (by omega), h6]
  have l7 : zm_w (zm_w K 0 9 (Int32.ofNat s)) 0 10 0 0 7 = Int32.ofNat s := by rw [ze_wj (by decide), ze_wj (by decide), q2]
  have l9 : zm_w (zm_w K 0 9 (Int32.ofNat s)) 0 10 0 0 9 = Int32.ofNat s := by rw [ze_wj (by decide), ze_wi]
  have l10 : zm_w (zm_w K 0 9 (Int32.ofNat s)) 0 10 0 0 10 = 0 := ze_wi
  have l12 : zm_w (zm_w K 0 9 (Int32.ofNat s)) 0 10 0 0 12 = A.2.2.2.1 := by rw [ze_wj (by decide), ze_wj (by decide), q3 0 12 (by omega), h12]
  have l13 : zm_w (zm_w K 0 9 (Int32.ofNat s)) 0 10 0 0 13 = A.2.2.2.2 := by rw [ze_wj (by decide), ze_wj (by decide), q3 0 13 (by omega), h13]
  have lo : zp_fr I (zm_w (zm_w K 0 9 (Int32.ofNat s)) 0 10 0) := fun a b ha => by rw [ze_wo ha, ze_wo ha, q3 a b (fun z => ha z.1)]
  have lT : ∀ i, i < n → zp_sg (zm_w (zm_w K 0 9 (Int32.ofNat s)) 0 10 0 5 i).toInt (T i) := fun i hi => by rw [lo 5 i (by decide)]; exact hT i hi
  have p11 : (zm_wl J 0 11 0 0 11).toInt = 0 := by unfold zm_wl; rw [if_pos ⟨rfl, rfl⟩]; rfl
  have pf : zp_frL J (zm_wl J 0 11 0) := fun a b ha => by unfold zm_wl; rw [if_neg (fun z => ha z.1)]
  rw [l7, l6]
  generalize zm_w (zm_w K 0 9 (Int32.ofNat s)) 0 10 0 = L at l6 l7 l9 l10 l12 l13 lo lT
  generalize zm_wl J 0 11 0 = Q at p11 pf
  unfold zp_ki zp_en
  by_cases hl : s < n
  · have sg := lT s hl
    rw [if_neg (zp_ne (by omega) (by omega) (by omega)), if_pos hl, if_pos hl]
    by_cases k1 : zp_kd (T s) = 1
    · have lt := (zp_kd1i _).mp k1
      rw [zc_X10_next_M_80 L Q (I2 := L) (J2 := Q) (r := 1) (by rw [l7, zp_byM l6 hn (by omega), if_pos ⟨hl, by rw [zp_c97, zp_c122]; exact (zp_sgR sg (by omega) (by omega)).mpr lt⟩]), zq_X10_next_M_92, if_neg (by decide), zq_X10_next_M_95]
      obtain ⟨N, P, r1, r2, r3, r4, r5⟩ := zp_n102 (T := T) hn (s := s) (n - (s + 1) + 1) 0 0 (zm_w L 0 8 1) Q (by omega) (by omega) (by rw [ze_wj (by decide), l6]) (fun i hi => by rw [ze_wo (by decide)]; exact lT i hi) (by rw [ze_wj (by decide), l7]; rfl) rfl (by rw [p11, if_pos (by omega), zp_wv_0]) (fun i hi => by omega)
      rw [Nat.add_zero s, zp_gr_s, if_pos (show s < n ∧ zp_kd (T s) = 1 from ⟨hl, k1⟩)] at r2 r3
      rw [k1, if_pos (by omega), r1]
      refine ⟨N, P, rfl, ⟨by rw [r4 0 6 (by omega), ze_wj (by decide), l6], fun i hi => by rw [r4 5 i (by omega), ze_wo (by decide)]; exact lT i hi, by rw [r4 0 8 (by omega), ze_wi]; rfl, by rw [r4 0 9 (by omega), ze_wj (by decide), l9], r2, by rw [r4 0 12 (by omega), ze_wj (by decide), l12], by rw [r4 0 13 (by omega), ze_wj (by decide), l13], fun z => absurd z (by dsimp only; omega), fun _ => r3⟩, fun a b ha => by rw [r4 a b (fun z => ha z.1), ze_wo ha, lo a b ha], zp_frLt pf r5⟩
    · have n1 : ¬ (s < n ∧ (97 : Int32).toInt ≤ (L 5 s).toInt ∧ (L 5 s).toInt ≤ (122 : Int32).toInt) := by
        intro z
        rw [zp_c97, zp_c122] at z
        exact k1 ((zp_kd1i _).mpr ((zp_sgR sg (by omega) (by omega)).mp z.2))
      rw [zc_X10_next_M_80 L Q (I2 := L) (J2 := Q) (r := 0) (by rw [l7, zp_byM l6 hn (by omega), if_neg n1]), zq_X10_next_M_92, if_pos rfl]
      by_cases k2 : zp_kd (T s) = 2
      · have lt := (zp_kd2i _).mp k2
        rw [zc_X10_next_M_188 L Q (I2 := L) (J2 := Q) (r := 1) (by rw [l7, zp_byM l6 hn (by omega), if_pos ⟨hl, by rw [zp_c48, zp_c57]; exact (zp_sgR sg (by omega) (by omega)).mpr lt⟩]), zq_X10_next_M_200, if_neg (by decide), zq_X10_next_M_203]
        obtain ⟨N, r1, r2, r3, r4⟩ := zp_n208 (T := T) hn (s := s) (P := Q) (n - (s + 1) + 1) 0 (zm_w L 0 8 2) (by omega) (by omega) (by rw [ze_wj (by decide), l6]) (fun i hi => by rw [ze_wo (by decide)]; exact lT i hi) (by rw [ze_wj (by decide), l7]; rfl) (by rw [ze_wj (by decide), l10, zp_nm_0]; rfl) (fun i hi => by omega)
        rw [Nat.add_zero, zp_gr_s, if_pos ⟨hl, k2⟩] at r2 r3
        rw [k2, if_pos (by omega), r1]
        refine ⟨N, Q, rfl, ⟨by rw [r4 0 6 (by omega), ze_wj (by decide), l6], fun i hi => by rw [r4 5 i (by omega), ze_wo (by decide)]; exact lT i hi, by rw [r4 0 8 (by omega), ze_wi]; rfl, by rw [r4 0 9 (by omega), ze_wj (by decide), l9], r2, by rw [r4 0 12 (by omega), ze_wj (by decide), l12], by rw [r4 0 13 (by omega), ze_wj (by decide), l13], fun _ => r3, fun z => absurd z (by dsimp only; omega)⟩, fun a b ha => by rw [r4 a b (fun z => ha z.1), ze_wo ha, lo a b ha], pf⟩
      · have n2 : ¬ (s < n ∧ (48 : Int32).toInt ≤ (L 5 s).toInt ∧ (L 5 s).toInt ≤ (57 : Int32).toInt) := by
          intro z
          rw [zp_c48, zp_c57] at z
          exact k2 ((zp_kd2i _).mpr ((zp_sgR sg (by omega) (by omega)).mp z.2))
        have kb := zp_kd_b (T s)
        rw [zc_X10_next_M_188 L Q (I2 := L) (J2 := Q) (r := 0) (by rw [l7, zp_byM l6 hn (by omega), if_neg n2]), zq_X10_next_M_200, if_pos rfl, zq_X10_next_M_274, l7, if_neg (zp_in (by omega) (by omega)), zp_cl (by omega), if_neg (show ¬ zp_kd (T s) ≤ 2 by omega)]
        have fin : ∀ x : Nat, x = zp_kd (T s) → zv_X10_next_M_294 L Q (Int32.ofNat x) = some (none, (zm_w (zm_w L 0 8 (Int32.ofNat x)) 0 7 (Int32.ofNat (s + 1)), Q)) := fun x _ => by rw [zq_X10_next_M_294, zq_X10_next_M_307, ze_wj (by decide), l7, zp_o1 (by omega)]
        have e5 : (if L 5 s = 59 then zv_X10_next_M_289 L Q else zv_X10_next_M_293 L Q) = zv_X10_next_M_294 L Q (Int32.ofNat (zp_kd (T s))) := by
          by_cases c : T s = 59
          · have : L 5 s = 59 := by
              rcases sg with ⟨e, -⟩ | ⟨e, -⟩
              · exact Int32.toInt_inj.mp (e.trans (c.trans (by decide)))
              · omega
            rw [if_pos this, zq_X10_next_M_289, c]
            rfl
          · have : ¬ L 5 s = 59 := fun z => by
              rw [z, zp_c59] at sg
              rcases sg with ⟨e, -⟩ | ⟨-, e⟩
              · exact c e.symm
              · omega
            have e4 : zp_kd (T s) = 4 := by
              unfold zp_kd
              rw [if_neg (fun z => k1 ((zp_kd1i _).mpr z)), if_neg (fun z => k2 ((zp_kd2i _).mpr z)), if_neg c]
            rw [if_neg this, zq_X10_next_M_293, e4]
            rfl
        rw [e5, fin _ rfl]
        refine ⟨_, Q, rfl, ⟨by rw [ze_wj (by decide), ze_wj (by decide), l6], fun i hi => by rw [ze_wo (by decide), ze_wo (by decide)]; exact lT i hi, by rw [ze_wj (by decide), ze_wi], by rw [ze_wj (by decide), ze_wj (by decide), l9], ze_wi, by rw [ze_wj (by decide), ze_wj (by decide), l12], by rw [ze_wj (by decide), ze_wj (by decide), l13], fun z => absurd z k2, fun z => absurd z k1⟩, fun a b ha => by rw [ze_wo ha, ze_wo ha, lo a b ha], pf⟩
  · have es : s = n := by omega
    rw [if_pos (by rw [es]), zq_X10_next_M_72, zq_X10_next_M_307, if_neg hl, if_neg hl]
    refine ⟨_, Q, rfl, ⟨by rw [ze_wj (by decide), l6], fun i hi => by rw [ze_wo (by decide)]; exact lT i hi, ze_wi, by rw [ze_wj (by decide), l9], by rw [ze_wj (by decide), l7], by rw [ze_wj (by decide), l12], by rw [ze_wj (by decide), l13], fun z => absurd z (by dsimp only; omega), fun z => absurd z (by dsimp only; omega)⟩, fun a b ha => by rw [ze_wo ha, lo a b ha], pf⟩
theorem zp_advM (hn : n ≤ 800) (he : A.2.2.1 ≤ n) (h : zpM T n A I J) : ∃ N P, zF_X10_next zW_M [.ref 0] (I, J) = some (none, (N, P)) ∧ zpM T n (zp_adv T n A) N P ∧ zp_fr I N ∧ zp_frL J P := zp_nextM hn he h.1 h.2.1 h.2.2.2.2.1 h.2.2.2.2.2.1 h.2.2.2.2.2.2.1
theorem zp_refM (x : Int32) (h : zpM T n A I J) : ∃ N, zF_X10_fails zW_M [.ref 0, .int x] (I, J) = some (none, (N, J)) ∧ zpM T n (zp_ref x A) N J ∧ zp_fr I N := by
  have hh := h
  obtain ⟨h6, hT, h8, h9, h7, h12, h13, h2, h1⟩ := h
  rw [zf_X10_fails_M, zq_X10_fails_M_0, h12]
  unfold zp_ref
  by_cases c : A.2.2.2.1 = 0
  · rw [if_pos c, if_pos c, zq_X10_fails_M_8]
    refine ⟨_, rfl, ⟨by rw [ze_wj (by decide), ze_wj (by decide), h6], fun i hi => by rw [ze_wo (by decide), ze_wo (by decide)]; exact hT i hi, by rw [ze_wj (by decide), ze_wj (by decide), h8], by rw [ze_wj (by decide), ze_wj (by decide), h9], by rw [ze_wj (by decide), ze_wj (by decide), h7], by rw [ze_wj (by decide), ze_wi], by rw [ze_wi, ze_wj (by decide), h9], fun z => by rw [ze_wj (by decide), ze_wj (by decide)]; exact h2 z, h1⟩, fun a b ha => by rw [ze_wo ha, ze_wo ha]⟩
  · rw [if_neg c, if_neg c, zq_X10_fails_M_7]
    exact ⟨I, rfl, hh, zp_frr I⟩
theorem zp_isM {w : Nat} {W : Int64} (hw : zp_wd w W) (hW : zpW T n A) (h : zpM T n A I J) : ∃ x, zF_X10_is zW_M [.ref 0, .long W] (I, J) = some (some (.int x), (I, J)) ∧ ((x = 1 ∧ A.2.2.2.1 = 0 ∧ zp_is T A.1 A.2.1 A.2.2.1 w) ∨ (x = 0 ∧ ¬ (A.2.2.2.1 = 0 ∧ zp_is T A.1 A.2.1 A.2.2.1 w))) := by
  have b := zp_W_b hW
  obtain ⟨h6, hT, h8, h9, h7, h12, h13, h2, h1⟩ := h
  obtain ⟨w1, w2, w3⟩ := hw
  have e28 : zv_X10_is_M_28 I J W = some (some (.int 0), (I, J)) := by rw [zq_X10_is_M_28, zq_X10_is_M_29, if_pos (Or.inl rfl)]
  rw [zf_X10_is_M, zq_X10_is_M_0, h12]
  by_cases c : A.2.2.2.1 = 0
  · rw [if_pos c, zq_X10_is_M_7, h8]
    by_cases d : A.1 = 1
    · have hw0 := h1 d
      have lt : ∀ j, j < A.2.2.1 - A.2.1 → 97 ≤ T (A.2.1 + j) ∧ T (A.2.1 + j) ≤ 122 := fun j hj => zp_kd1 ((zp_W_k hW (Or.inl d) _ (by omega) (by omega)).trans d)
      rw [if_pos (by rw [d]; rfl), zq_X10_is_M_15]
      by_cases g : J 0 11 = W
      · rw [if_pos ((lg_cmp_eq _ _).mpr g), zq_X10_is_M_24, zq_X10_is_M_29, if_pos (Or.inr rfl)]
        refine ⟨1, rfl, Or.inl ⟨rfl, c, d, ?_⟩⟩
        rw [g, w1] at hw0
        have pz := (zp_wv_b (T := zp_wt w) (s := 0) _ (fun j hj => by rw [Nat.zero_add]; exact w3 j hj)).1
        by_cases q : A.2.2.1 - A.2.1 ≤ 12
        · rw [if_pos q] at hw0
          obtain ⟨u1, u2⟩ := zp_wv_u (T := T) (U := zp_wt w) (s := A.2.1) (t := 0) _ _ lt (fun j hj => by rw [Nat.zero_add]; exact w3 j hj) hw0.symm
          refine ⟨u1, fun j hj => ?_⟩
          have := u2 j (by omega)
          rw [Nat.zero_add] at this
          exact this
        · rw [if_neg q] at hw0
          omega
      · rw [if_neg (fun z => g ((lg_cmp_eq _ _).mp z)), e28]
        refine ⟨0, rfl, Or.inr ⟨rfl, fun z => g (Int64.toInt_inj.mp ?_)⟩⟩
        obtain ⟨-, -, z1, z2⟩ := z
        rw [hw0, w1, if_pos (by omega), z1]
        exact zp_wv_c _ (fun j hj => by rw [Nat.zero_add]; exact z2 j hj)
    · rw [if_neg (show ¬ (Int32.ofNat A.1 : Int32) = 1 from zp_ne (j := 1) (by omega) (by omega) d), e28]
      exact ⟨0, rfl, Or.inr ⟨rfl, fun z => d z.2.1⟩⟩
  · rw [if_neg c, e28]
    exact ⟨0, rfl, Or.inr ⟨rfl, fun z => c z.1⟩⟩
theorem zp_tkM {w : Nat} {W : Int64} (hw : zp_wd w W) (hn : n ≤ 800) (hW : zpW T n A) (h : zpM T n A I J) : ∃ x N P, zF_X10_takes zW_M [.ref 0, .long W] (I, J) = some (some (.int x), (N, P)) ∧ ((x = 1 ∧ A.2.2.2.1 = 0 ∧ zp_is T A.1 A.2.1 A.2.2.1 w ∧ zpM T n (zp_adv T n A) N P) ∨ (x = 0 ∧ ¬ (A.2.2.2.1 = 0 ∧ zp_is T A.1 A.2.1 A.2.2.1 w) ∧ zpM T n A N P)) ∧ zp_fr I N ∧ zp_frL J P := by
  obtain ⟨x, q1, q2⟩ := zp_isM (J := J) hw hW h
  rw [zf_X10_takes_M, zc_X10_takes_M_0 _ _ _ q1, zq_X10_takes_M_5]
  rcases q2 with ⟨rfl, q2, q3⟩ | ⟨rfl, q2⟩
  · obtain ⟨N, P, r1, r2, r3, r4⟩ := zp_advM hn (zp_W_b hW).2.1 h
    rw [if_neg (by decide), zc_X10_takes_M_10 _ _ _ r1, zq_X10_takes_M_14]
    exact ⟨1, N, P, rfl, Or.inl ⟨rfl, q2, q3, r2⟩, r3, r4⟩
  · rw [if_pos rfl, zq_X10_takes_M_8]
    exact ⟨0, I, J, rfl, Or.inr ⟨rfl, q2, h⟩, zp_frr I, zp_frLr J⟩
theorem zp_asM {w : Nat} {W : Int64} (hw : zp_wd w W) (hn : n ≤ 800) (hW : zpW T n A) (h : zpM T n A I J) : ∃ N P, zF_X10_asks zW_M [.ref 0, .long W] (I, J) = some (none, (N, P)) ∧ zpM T n (zp_tw T n w A) N P ∧ zp_fr I N ∧ zp_frL J P := by
  obtain ⟨x, K, P, q1, q2, q3, q4⟩ := zp_tkM (J := J) hw hn hW h
  rw [zf_X10_asks_M, zc_X10_asks_M_0 _ _ _ q1, zq_X10_asks_M_5]
  unfold zp_tw
  rcases q2 with ⟨rfl, c, q2, q5⟩ | ⟨rfl, q2, q5⟩
  · rw [if_neg (by decide), zq_X10_asks_M_13, if_pos c, if_pos q2]
    exact ⟨K, P, rfl, q5, q3, q4⟩
  · obtain ⟨N, r1, r2, r3⟩ := zp_refM 1 q5
    rw [if_pos rfl, zc_X10_asks_M_8 _ _ _ r1, zq_X10_asks_M_13]
    refine ⟨N, P, rfl, ?_, zp_frt q3 r3, q4⟩
    by_cases c : A.2.2.2.1 = 0
    · rw [if_pos c, if_neg (fun z => q2 ⟨c, z⟩)]
      exact r2
    · rw [if_neg c]
      unfold zp_ref at r2
      rw [if_neg c] at r2
      exact r2
theorem zp_nuM (lo hi : Int32) (h1000 : hi.toInt < 1000) (hn : n ≤ 800) (hW : zpW T n A) (h : zpM T n A I J) : ∃ (r : Int32) (N : Nat → Nat → Int32) (P : Nat → Nat → Int64), zF_X10_number zW_M [.ref 0, .int lo, .int hi] (I, J) = some (some (.int r), (N, P)) ∧ ((zp_nu T n lo.toInt hi.toInt A).1.2.2.2.1 = 0 → r.toInt = (zp_nu T n lo.toInt hi.toInt A).2) ∧ zpM T n (zp_nu T n lo.toInt hi.toInt A).1 N P ∧ zp_fr I N ∧ zp_frL J P := by
  have h8 := h.2.2.1
  have h12 := h.2.2.2.2.2.1
  have h2 := h.2.2.2.2.2.2.2.1
  have b := zp_W_b hW
  have rf : ∀ x : Int32, x ≠ 0 → A.2.2.2.1 = 0 → (zp_ref x A).2.2.2.1 ≠ 0 := fun x hx c => by
    unfold zp_ref
    rw [if_pos c]
    exact hx
  rw [zf_X10_number_M, zq_X10_number_M_0, h12]
  unfold zp_nu
  by_cases c : A.2.2.2.1 = 0
  · rw [if_pos c, if_pos c, zq_X10_number_M_9, h8]
    by_cases d : A.1 = 2
    · have hx := zp_nx_hi hW d
      have v := h2 d
      rw [if_pos (by rw [d]; rfl), zc_X10_number_M_24 _ _ _ _ (zh_inV _ _ _ _ _), zq_X10_number_M_36, ze_inr, Int32.toInt_toInt64, Int32.toInt_toInt64, Int32.toInt_toInt64, v, if_pos d]
      by_cases g : lo.toInt ≤ zp_nm T A.2.1 (A.2.2.1 - A.2.1) ∧ zp_nm T A.2.1 (A.2.2.1 - A.2.1) ≤ hi.toInt
      · obtain ⟨N, P, r1, r2, r3, r4⟩ := zp_advM hn b.2.1 h
        have e : zp_nx T A.2.1 (A.2.2.1 - A.2.1) = zp_nm T A.2.1 (A.2.2.1 - A.2.1) := by omega
        rw [if_pos g, if_neg (by decide), zc_X10_number_M_46 _ _ _ _ r1, zq_X10_number_M_55, if_pos (by rw [e]; exact g)]
        exact ⟨_, N, P, rfl, fun _ => v.trans e.symm, r2, r3, r4⟩
      · obtain ⟨N, r1, r2, r3⟩ := zp_refM 2 h
        rw [if_neg g, if_pos rfl, zc_X10_number_M_39 _ _ _ _ r1, zq_X10_number_M_44, if_neg (by omega)]
        exact ⟨_, N, J, rfl, fun z => absurd z (rf 2 (by decide) c), r2, r3, zp_frLr J⟩
    · obtain ⟨N, r1, r2, r3⟩ := zp_refM 1 h
      rw [if_neg (show ¬ (Int32.ofNat A.1 : Int32) = 2 from zp_ne (j := 2) (by omega) (by omega) d), zc_X10_number_M_17 _ _ _ _ r1, zq_X10_number_M_22, if_neg d]
      exact ⟨_, N, J, rfl, fun z => absurd z (rf 1 (by decide) c), r2, r3, zp_frLr J⟩
  · rw [if_neg c, if_neg c, zq_X10_number_M_7]
    exact ⟨_, I, J, rfl, fun z => absurd z c, h, zp_frr I, zp_frLr J⟩
theorem zp_taM {w : Nat} {W : Int64} (hw : zp_wd w W) (lo hi : Int32) (h1000 : hi.toInt < 1000) (hn : n ≤ 800) (hW : zpW T n A) (h : zpM T n A I J) : ∃ (r : Int32) (N : Nat → Nat → Int32) (P : Nat → Nat → Int64), zF_X10_number_ zW_M [.ref 0, .long W, .int lo, .int hi] (I, J) = some (some (.int r), (N, P)) ∧ ((zp_ta T n w lo.toInt hi.toInt A).1.2.2.2.1 = 0 → r.toInt = (zp_ta T n w lo.toInt hi.toInt A).2) ∧ zpM T n (zp_ta T n w lo.toInt hi.toInt A).1 N P ∧ zp_fr I N ∧ zp_frL J P := by
  obtain ⟨K, P, q1, q2, q3, q4⟩ := zp_asM (J := J) hw hn hW h
  obtain ⟨r, N, P2, r1, r2, r3, r4, r5⟩ := zp_nuM (J := P) lo hi h1000 hn (zp_W_tw w hW) q2
  rw [zf_X10_number__M, zc_X10_number__M_0 _ _ _ _ _ q1, zc_X10_number__M_5 _ _ _ _ _ r1, zq_X10_number__M_12]
  exact ⟨r, N, P2, rfl, r2, r3, zp_frt q3 r4, zp_frLt q4 r5⟩
theorem zp_tsM (hn : n ≤ 800) (hW : zpW T n A) (h : zpM T n A I J) : ∃ N P, zF_X10_ends zW_M [.ref 0] (I, J) = some (none, (N, P)) ∧ zpM T n (zp_ts T n A) N P ∧ zp_fr I N ∧ zp_frL J P := by
  have h8 := h.2.2.1
  have h12 := h.2.2.2.2.2.1
  have b := zp_W_b hW
  rw [zf_X10_ends_M, zq_X10_ends_M_0, h8]
  unfold zp_ts
  by_cases d : A.1 = 3
  · rw [if_pos (by rw [d]; rfl), zq_X10_ends_M_13, h12, if_pos d]
    by_cases c : A.2.2.2.1 = 0
    · obtain ⟨N, P, r1, r2, r3, r4⟩ := zp_advM hn b.2.1 h
      rw [if_pos c, if_pos c, zc_X10_ends_M_20 _ _ r1, zq_X10_ends_M_24]
      exact ⟨N, P, rfl, r2, r3, r4⟩
    · rw [if_neg c, if_neg c, zq_X10_ends_M_24]
      exact ⟨I, J, rfl, h, zp_frr I, zp_frLr J⟩
  · obtain ⟨N, r1, r2, r3⟩ := zp_refM 1 h
    have k12 := r2.2.2.2.2.2.1
    have nz : ¬ (zp_ref 1 A).2.2.2.1 = 0 := by
      unfold zp_ref
      by_cases c : A.2.2.2.1 = 0
      · rw [if_pos c]
        exact (by decide : ¬ (1 : Int32) = 0)
      · rw [if_neg c]
        exact c
    rw [if_neg (show ¬ (Int32.ofNat A.1 : Int32) = 3 from zp_ne (j := 3) (by omega) (by omega) d), zc_X10_ends_M_8 _ _ r1, zq_X10_ends_M_13, k12, if_neg nz, zq_X10_ends_M_24, if_neg d]
    refine ⟨N, J, rfl, ?_, r3, zp_frLr J⟩
    by_cases c : A.2.2.2.1 = 0
    · rw [if_pos c]
      exact r2
    · rw [if_neg c]
      unfold zp_ref at r2
      rw [if_neg c] at r2
      exact r2
end ZPE
