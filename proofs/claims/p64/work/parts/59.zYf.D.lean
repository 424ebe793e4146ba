/-! A DAY OF THE REFERENCE: who moves, sits down, comes -/
theorem zd_gw {G : zt_G} {I : Nat → Nat → Int32} {J : Nat → Nat → Int64} (h : zt_Gs G (I, J)) {n i : Nat} {x : Int32} {b : Int × Int} (hr : G[n]? = some [b]) (h1 : b.1 ≤ x.toInt) (h2 : x.toInt ≤ b.2) : zt_Gs G (zm_w I n i x, J) := by
  intro m g hg j c hc
  show c.1 ≤ (zm_w I n i x m j).toInt ∧ (zm_w I n i x m j).toInt ≤ c.2
  by_cases e : m = n ∧ j = i
  · have em := e.1
    have ej := e.2
    subst em
    subst ej
    rw [hr] at hg
    cases hg
    have hc : [b][j % 1]? = some c := hc
    rw [Nat.mod_one] at hc
    cases hc
    rw [ze_wi]
    exact ⟨h1, h2⟩
  · rw [zh_w2 _ _ e]
    exact h m g hg j c hc
theorem zd_r16 : zo_g22[16]? = some [((-1 : Int), (99 : Int))] := rfl
theorem zd_r17 : zo_g22[17]? = some [((-1 : Int), (5 : Int))] := rfl
theorem zd_r18 : zo_g22[18]? = some [((-1 : Int), (60 : Int))] := rfl
theorem zd_r19 : zo_g22[19]? = some [((0 : Int), (99 : Int))] := rfl
theorem zd_r20 : zo_g22[20]? = some [((0 : Int), (1 : Int))] := rfl
theorem zd_r21 : zo_g22[21]? = some [((0 : Int), (99 : Int))] := rfl
theorem zd_r22 : zo_g22[22]? = some [((-1 : Int), (5 : Int))] := rfl
theorem zd_r23 : zo_g22[23]? = some [((-2147483648 : Int), (2147483647 : Int))] := rfl
theorem zd_r24 : zo_g22[24]? = some [((0 : Int), (1 : Int))] := rfl
theorem zd_r25 : zo_g22[25]? = some [((0 : Int), (99 : Int))] := rfl
theorem zd_r13 : zo_g22[13]? = some [((0 : Int), (99 : Int))] := rfl
theorem zd_m3 : ∀ k, k < 41 → (3 * Int32.ofNat k : Int32) = Int32.ofNat (3 * k) ∧ (3 * Int32.ofNat k + 1 : Int32) = Int32.ofNat (3 * k + 1) ∧ (3 * Int32.ofNat k + 2 : Int32) = Int32.ofNat (3 * k + 2) := by decide +kernel
theorem zd_modS : ∀ a, a < 6 → ∀ k, k < 7 → ∀ S, S < 7 → 1 ≤ S → (Int32.ofNat a + Int32.ofNat k - (Int32.ofNat a + Int32.ofNat k) / Int32.ofNat S * Int32.ofNat S : Int32) = Int32.ofNat ((a + k) % S) ∧ (a + k) % S < S ∧ (a + (k + 1)) % S = (if (a + k) % S + 1 < S then (a + k) % S + 1 else 0) := by decide +kernel
/-- the bench as the reference has laid it, and nothing more to be done on it -/
def zdMb (B : zdB) (I : Nat → Nat → Int32) : Prop := (I 7 5 = Int32.ofNat B.1.1 ∧ I 7 4 = Int32.ofNat B.1.2.1 ∧ I 7 6 = Int32.ofNat B.1.2.2 ∧ I 0 23 = Int32.ofNat B.2.2.2.2.2.2 ∧ I 0 24 = 0 ∧ I 0 25 = -1) ∧ (∀ c, c < B.1.1 → I 14 c = Int32.ofNat (B.2.1 c) ∧ I 15 c = Int32.ofNat (B.2.2.1 c)) ∧ ∀ k, k < B.1.2.2 → I 10 (3 * k) = Int32.ofNat (B.2.2.2.1 k) ∧ I 10 (3 * k + 1) = Int32.ofNat (B.2.2.2.2.1 k) ∧ I 10 (3 * k + 2) = Int32.ofNat (B.2.2.2.2.2.1 k)
/-- one who has a seat of his own told has one that there is -/
def zdMv (B : zdB) : Prop := zdXv B ∧ B.1.2.2 ≤ 40 ∧ ∀ c, c < B.1.1 → B.2.2.1 c < B.1.2.1
def zdM (B : zdB) (I : Nat → Nat → Int32) (J : Nat → Nat → Int64) (p : Nat → Int) : Prop := (∀ c, c < 5 → (-1 ≤ p c ∧ I 24 c = 1 ∧ (I 22 c).toInt = p c) ∨ (p c < -1 ∧ I 24 c = 0)) ∧ (∀ c, B.1.1 ≤ c → p c = -2) ∧ (∀ c, -3 ≤ p c ∧ p c ≤ 5) ∧ zt_Gs zo_g22 (I, J)
section ZDD
variable {B : zdB} {I N : Nat → Nat → Int32} {J : Nat → Nat → Int64} {p : Nat → Int}
theorem zdMb_f (h : zdMb B I) (hf : ∀ a b, a < 16 → N a b = I a b) : zdMb B N := by
  obtain ⟨⟨a, b, c, d, e, f⟩, g, k⟩ := h
  refine ⟨⟨?_, ?_, ?_, ?_, ?_, ?_⟩, fun q hq => ?_, fun q hq => ?_⟩
  · rw [hf 7 5 (by decide)]; exact a
  · rw [hf 7 4 (by decide)]; exact b
  · rw [hf 7 6 (by decide)]; exact c
  · rw [hf 0 23 (by decide)]; exact d
  · rw [hf 0 24 (by decide)]; exact e
  · rw [hf 0 25 (by decide)]; exact f
  · rw [hf 14 q (by decide), hf 15 q (by decide)]; exact g q hq
  · rw [hf 10 _ (by decide), hf 10 _ (by decide), hf 10 _ (by decide)]; exact k q hq
theorem zdm_callers : zF_X10_callers zW_M [.ref 0] (I, J) = some (some (.int (I 7 5)), (I, J)) := by
  rw [zf_X10_callers_M, zq_X10_callers_M_0, if_neg (by decide), show Int32.toNatClampNeg 5 = 5 by decide]
theorem zdm_seats : zF_X10_seats zW_M [.ref 0] (I, J) = some (some (.int (I 7 4)), (I, J)) := by
  rw [zf_X10_seats_M, zq_X10_seats_M_0, if_neg (by decide), show Int32.toNatClampNeg 4 = 4 by decide]
theorem zdm_free2 (hv : zdMv B) (hb : zdMb B I) (hx : zdM B I J p) {s : Nat} (hs : s ≤ 5) : ∀ (d c : Nat), c + d = B.1.1 → (∀ q, q < c → p q ≠ (s : Int)) → zv_X10_isFree_M_2 I J (Int32.ofNat s) (Int32.ofNat c) = some (some (.int (if zd_free B.1.1 p s = true then 1 else 0)), (I, J)) := by
  have hC := hv.1.1.1
  intro d
  induction d with
  | zero =>
    intro c h hq
    have ec : c = B.1.1 := by omega
    rw [zc_X10_isFree_M_2 _ _ _ _ zdm_callers, zq_X10_isFree_M_7, hb.1.1, if_pos ((zp_le (by omega) (by omega)).mpr (by omega)), zq_X10_isFree_M_37, if_pos (zd_free_i.mpr (fun q h => hq q (by omega)))]
  | succ d ih =>
    intro c h hq
    have hn : ¬ (Int32.ofNat B.1.1 : Int32) ≤ Int32.ofNat c := fun z => by have := (zp_le (by omega) (by omega)).mp z; omega
    rw [zc_X10_isFree_M_2 _ _ _ _ zdm_callers, zq_X10_isFree_M_7, hb.1.1, if_neg hn, zq_X10_isFree_M_10, if_neg (zp_in (by omega) (by omega)), zp_cl (by omega)]
    rcases hx.1 c (by omega) with ⟨z1, z2, z3⟩ | ⟨z1, z2⟩
    · rw [z2, if_neg (by decide), zq_X10_isFree_M_19, if_neg (zp_in (by omega) (by omega)), zp_cl (by omega)]
      by_cases e : p c = (s : Int)
      · rw [if_pos (Int32.toInt_inj.mp (by rw [z3, zp_o (by omega)]; exact e)), zq_X10_isFree_M_29, if_neg (fun z => zd_free_i.mp z c (by omega) e)]
      · rw [if_neg (fun z => e (by rw [← z3, z, zp_o (by omega)])), zq_X10_isFree_M_31, zp_o1 (by omega)]
        exact ih (c + 1) (by omega) (fun q hq2 => by
          by_cases c1 : q = c
          · rw [c1]
            exact e
          · exact hq q (by omega))
    · rw [z2, if_pos rfl, zq_X10_isFree_M_31, zp_o1 (by omega)]
      exact ih (c + 1) (by omega) (fun q hq2 => by
        by_cases c1 : q = c
        · rw [c1]
          omega
        · exact hq q (by omega))
theorem zdm_free (hv : zdMv B) (hb : zdMb B I) (hx : zdM B I J p) {s : Nat} (hs : s ≤ 5) : zF_X10_isFree zW_M [.ref 0, .int (Int32.ofNat s)] (I, J) = some (some (.int (if zd_free B.1.1 p s = true then 1 else 0)), (I, J)) := by
  rw [zf_X10_isFree_M, zq_X10_isFree_M_0]
  exact zdm_free2 hv hb hx hs B.1.1 0 (by omega) (fun q hq => absurd hq (Nat.not_lt_zero q))
/-- seats and what was sat on them alone may differ -/
def zdMf (I N : Nat → Nat → Int32) : Prop := ∀ a b, a ≠ 22 → a ≠ 23 → N a b = I a b
theorem zdMf_r : zdMf I I := fun _ _ _ _ => rfl
theorem zdMf_t {K : Nat → Nat → Int32} (h : zdMf I K) (h2 : zdMf K N) : zdMf I N := fun a b h1 h7 => (h2 a b h1 h7).trans (h a b h1 h7)
theorem zdm_take (hv : zdMv B) (hx : zdM B I J p) {c s : Nat} (hc : c < B.1.1) (hs : s ≤ 5) (hp : -1 ≤ p c) : ∃ N, zF_X10_takesSeat zW_M [.ref 0, .int (Int32.ofNat c), .int (Int32.ofNat s)] (I, J) = some (none, (N, J)) ∧ zdM B N J (zd_up p c s) ∧ zdMf I N := by
  have hC := hv.1.1.1
  refine ⟨zm_w (zm_w I 22 c (Int32.ofNat s)) 23 c 0, ?_, ⟨fun q hq => ?_, fun q hq => ?_, fun q => ?_, ?_⟩, fun a b h1 h2 => by rw [ze_wo h2, ze_wo h1]⟩
  · rw [zf_X10_takesSeat_M, zq_X10_takesSeat_M_0, if_neg (zp_in (by omega) (by omega)), if_neg (zp_in (by omega) (by omega)), zp_cl (by omega)]
  · rw [ze_wo (by decide), ze_wo (by decide), ze_wo (by decide)]
    by_cases e : q = c
    · subst e
      rcases hx.1 q hq with ⟨z1, z2, z3⟩ | ⟨z1, z2⟩
      · rw [zd_up_i, ze_wi, zp_o (by omega)]
        exact Or.inl ⟨by omega, z2, rfl⟩
      · omega
    · rw [zd_up_o e, ze_wj e]
      exact hx.1 q hq
  · rw [zd_up_o (by omega)]
    exact hx.2.1 q hq
  · by_cases e : q = c
    · rw [e, zd_up_i]
      omega
    · rw [zd_up_o e]
      exact hx.2.2.1 q
  · exact zd_gw (zd_gw hx.2.2.2 zd_r22 (by rw [zp_o (by omega)]; show (-1 : Int) ≤ _; omega) (by rw [zp_o (by omega)]; show _ ≤ (5 : Int); omega)) zd_r23 (by decide) (by decide)
theorem zdm_moves (hv : zdMv B) (hb : zdMb B I) (hx : zdM B I J p) {c s : Nat} (hc : c ≤ 4) (hs : s ≤ 5) : ∃ N, zF_X10_moves zW_M [.ref 0, .int (Int32.ofNat c), .int (Int32.ofNat s)] (I, J) = some (some (.int (if -1 ≤ p c ∧ zd_free B.1.1 p s = true then 1 else 0)), (N, J)) ∧ zdM B N J (if -1 ≤ p c ∧ zd_free B.1.1 p s = true then zd_up p c s else p) ∧ zdMf I N := by
  have hC := hv.1.1.1
  rw [zf_X10_moves_M, zq_X10_moves_M_0, if_neg (zp_in (by omega) (by omega)), zp_cl (by omega)]
  rcases hx.1 c (by omega) with ⟨z1, z2, z3⟩ | ⟨z1, z2⟩
  · rw [z2, if_neg (by decide), zc_X10_moves_M_9 _ _ _ _ (zdm_free hv hb hx hs), zq_X10_moves_M_14]
    by_cases e : zd_free B.1.1 p s = true
    · have hlt : c < B.1.1 := by
        by_cases q : c < B.1.1
        · exact q
        · have := hx.2.1 c (by omega)
          omega
      obtain ⟨N, q1, q2, q3⟩ := zdm_take hv hx hlt hs z1
      rw [if_pos e, if_neg (by decide), zc_X10_moves_M_19 _ _ _ _ q1, zq_X10_moves_M_25, if_pos ⟨z1, e⟩, if_pos ⟨z1, e⟩]
      exact ⟨N, rfl, q2, q3⟩
    · rw [if_neg e, if_pos rfl, zq_X10_moves_M_17, if_neg (fun z => e z.2), if_neg (fun z => e z.2)]
      exact ⟨I, rfl, hx, zdMf_r⟩
  · rw [z2, if_pos rfl, zq_X10_moves_M_17, if_neg (by omega), if_neg (by omega)]
    exact ⟨I, rfl, hx, zdMf_r⟩
theorem zdm_sit2 (hv : zdMv B) {c : Nat} (hc : c < B.1.1) : ∀ (d k : Nat) (I : Nat → Nat → Int32) (p : Nat → Int) (l3 : Option Value), k + d = B.1.2.1 → p c = -1 → zdMb B I → zdM B I J p → ∃ N, zv_X10_sitsDown_M_2 I J (Int32.ofNat c) (Int32.ofNat k) l3 = some (none, (N, J)) ∧ zdM B N J (zd_sit B.1.1 B.1.2.1 p c d ((B.2.2.1 c + k) % B.1.2.1)) ∧ zdMf I N := by
  obtain ⟨⟨⟨hC, hS, hst, hac, hsa⟩, hA, hE, hcm, ham⟩, hA4, hsc⟩ := id hv
  have a5 := hst c
  have sc := hsc c hc
  intro d
  induction d with
  | zero =>
    intro k I p l3 h hp hb hx
    refine ⟨I, ?_, hx, zdMf_r⟩
    rw [zc_X10_sitsDown_M_2 _ _ _ _ _ zdm_seats, zq_X10_sitsDown_M_7, hb.1.2.1, if_pos ((zp_le (by omega) (by omega)).mpr (by omega)), zq_X10_sitsDown_M_54]
  | succ d ih =>
    intro k I p l3 h hp hb hx
    obtain ⟨m1, m2, m3⟩ := zd_modS (B.2.2.1 c) (by omega) k (by omega) B.1.2.1 (by omega) (by omega)
    have h22 : I 22 c = -1 := by
      rcases hx.1 c (by omega) with ⟨z1, z2, z3⟩ | ⟨z1, z2⟩
      · exact Int32.toInt_inj.mp (by rw [z3, zh_m1]; exact hp)
      · omega
    have hn : ¬ (Int32.ofNat B.1.2.1 : Int32) ≤ Int32.ofNat k := fun z => by have := (zp_le (by omega) (by omega)).mp z; omega
    have z0 : ¬ (Int32.ofNat B.1.2.1 : Int32) = 0 := fun z => by
      have : (Int32.ofNat B.1.2.1).toInt = 0 := by rw [z, ze_i0]
      rw [zp_o (by omega)] at this
      omega
    rw [zc_X10_sitsDown_M_2 _ _ _ _ _ zdm_seats, zq_X10_sitsDown_M_7, hb.1.2.1, if_neg hn, zq_X10_sitsDown_M_10, if_neg (zp_in (by omega) (by omega)), zp_cl (by omega), if_pos h22, zq_X10_sitsDown_M_20, if_neg (zp_in (by omega) (by omega)), zp_cl (by omega), (hb.2.1 c hc).2, zc_X10_sitsDown_M_26 _ _ _ _ _ _ zdm_seats, zq_X10_sitsDown_M_32, hb.1.2.1, if_neg z0, m1]
    generalize hs : (B.2.2.1 c + k) % B.1.2.1 = s at m2 m3
    rw [zc_X10_sitsDown_M_33 _ _ _ _ _ _ (zdm_free hv hb hx (show s ≤ 5 by omega)), zq_X10_sitsDown_M_39]
    unfold zd_sit
    by_cases e : zd_free B.1.1 p s = true
    · obtain ⟨N, q1, q2, q3⟩ := zdm_take hv hx hc (show s ≤ 5 by omega) (by omega)
      rw [if_pos e, if_neg (by decide), if_pos e, zc_X10_sitsDown_M_42 _ _ _ _ _ q1, zq_X10_sitsDown_M_48, zp_o1 (by omega)]
      refine ⟨N, ?_, q2, q3⟩
      have hb2 : N 7 4 = Int32.ofNat B.1.2.1 := (q3 7 4 (by decide) (by decide)).trans hb.1.2.1
      have hne : ¬ N 22 c = -1 := by
        rcases q2.1 c (by omega) with ⟨z1, z2, z3⟩ | ⟨z1, z2⟩
        · intro z
          rw [z, zd_up_i, zh_m1] at z3
          omega
        · rw [zd_up_i] at z1
          omega
      rw [zc_X10_sitsDown_M_2 _ _ _ _ _ zdm_seats, zq_X10_sitsDown_M_7, hb2]
      by_cases c9 : B.1.2.1 ≤ k + 1
      · rw [if_pos ((zp_le (by omega) (by omega)).mpr c9), zq_X10_sitsDown_M_54]
      · rw [if_neg (fun z => c9 ((zp_le (by omega) (by omega)).mp z)), zq_X10_sitsDown_M_10, if_neg (zp_in (by omega) (by omega)), zp_cl (by omega), if_neg hne, zq_X10_sitsDown_M_54]
    · rw [if_neg e, if_pos rfl, if_neg e, zq_X10_sitsDown_M_48, zp_o1 (by omega), ← m3]
      exact ih (k + 1) I p _ (by omega) hp hb hx
theorem zdm_sit (hv : zdMv B) (hb : zdMb B I) (hx : zdM B I J p) {c : Nat} (hc : c < B.1.1) (hp : p c = -1) : ∃ N, zF_X10_sitsDown zW_M [.ref 0, .int (Int32.ofNat c)] (I, J) = some (none, (N, J)) ∧ zdM B N J (zd_sit B.1.1 B.1.2.1 p c B.1.2.1 (B.2.2.1 c)) ∧ zdMf I N := by
  obtain ⟨N, q1, q2, q3⟩ := zdm_sit2 (J := J) hv hc B.1.2.1 0 I p none (by omega) hp hb hx
  rw [Nat.add_zero, Nat.mod_eq_of_lt (hv.2.2 c hc)] at q2
  refine ⟨N, ?_, q2, q3⟩
  rw [zf_X10_sitsDown_M, zq_X10_sitsDown_M_0]
  exact q1
theorem zdm_ft4 (hv : zdMv B) (hb : zdMb B I) (hx : zdM B I J p) : ∀ (d c : Nat) (l1 : Int32) (x : Int), c + d = B.1.1 → l1.toInt = x → (x = -1 ∨ (0 ≤ x ∧ x < B.1.1)) → ∃ r : Int32, zv_X10_firstThere_M_4 I J l1 (Int32.ofNat c) = some (some (.int r), (I, J)) ∧ r.toInt = zd_for (zd_ff B p) d c x := by
  obtain ⟨⟨⟨hC, hS, hst, hac, hsa⟩, hA, hE, hcm, ham⟩, hA4, hsc⟩ := id hv
  intro d
  induction d with
  | zero =>
    intro c l1 x h hl hr
    refine ⟨l1, ?_, hl⟩
    rw [zc_X10_firstThere_M_4 _ _ _ _ zdm_callers, zq_X10_firstThere_M_9, hb.1.1, if_pos ((zp_le (by omega) (by omega)).mpr (by omega)), zq_X10_firstThere_M_49]
  | succ d ih =>
    intro c l1 x h hl hr
    have c61 := hcm c
    have hn : ¬ (Int32.ofNat B.1.1 : Int32) ≤ Int32.ofNat c := fun z => by have := (zp_le (by omega) (by omega)).mp z; omega
    have keep : Unit → zd_ff B p c x = x → ∃ r : Int32, zv_X10_firstThere_M_43 I J l1 (Int32.ofNat c) = some (some (.int r), (I, J)) ∧ r.toInt = zd_for (zd_ff B p) (d + 1) c x := by
      intro _ e
      obtain ⟨r, q1, q2⟩ := ih (c + 1) l1 x (by omega) hl hr
      refine ⟨r, ?_, ?_⟩
      · rw [zq_X10_firstThere_M_43, zp_o1 (by omega)]
        exact q1
      · show r.toInt = zd_for (zd_ff B p) d (c + 1) (zd_ff B p c x)
        rw [e]
        exact q2
    have take : Unit → zd_ff B p c x = (c : Int) → ∃ r : Int32, zv_X10_firstThere_M_41 I J l1 (Int32.ofNat c) = some (some (.int r), (I, J)) ∧ r.toInt = zd_for (zd_ff B p) (d + 1) c x := by
      intro _ e
      obtain ⟨r, q1, q2⟩ := ih (c + 1) (Int32.ofNat c) c (by omega) (zp_o (by omega)) (Or.inr (by omega))
      refine ⟨r, ?_, ?_⟩
      · rw [zq_X10_firstThere_M_41, zq_X10_firstThere_M_43, zp_o1 (by omega)]
        exact q1
      · show r.toInt = zd_for (zd_ff B p) d (c + 1) (zd_ff B p c x)
        rw [e]
        exact q2
    rw [zc_X10_firstThere_M_4 _ _ _ _ zdm_callers, zq_X10_firstThere_M_9, hb.1.1, if_neg hn, zq_X10_firstThere_M_12, if_neg (zp_in (by omega) (by omega)), zp_cl (by omega)]
    rcases hx.1 c (by omega) with ⟨z1, z2, z3⟩ | ⟨z1, z2⟩
    · rw [z2, if_neg (by decide), zq_X10_firstThere_M_21]
      by_cases c2 : x = -1
      · rw [if_pos (Int32.toInt_inj.mp (by rw [hl, zh_m1]; exact c2))]
        exact take () (by unfold zd_ff; rw [if_pos ⟨by omega, Or.inl c2⟩])
      · have hxn : x.toNat < B.1.1 := by omega
        have ex : Int32.toNatClampNeg l1 = x.toNat := zh_cl (by rw [hl]; omega)
        have x61 := hcm x.toNat
        rw [if_neg (fun z => c2 (by rw [← hl, z, zh_m1])), zq_X10_firstThere_M_26, if_neg (zp_in (by omega) (by omega)), if_neg (zh_in (n := 5) (by omega) (by omega)), ex, zp_cl (by omega), (hb.2.1 _ hxn).1, (hb.2.1 c (by omega)).1]
        by_cases c3 : B.2.1 c < B.2.1 x.toNat
        · rw [if_neg (fun z => by have := (zp_le (by omega) (by omega)).mp z; omega)]
          exact take () (by unfold zd_ff; rw [if_pos ⟨by omega, Or.inr c3⟩])
        · rw [if_pos ((zp_le (by omega) (by omega)).mpr (by omega))]
          exact keep () (by unfold zd_ff; rw [if_neg (by omega)])
    · rw [z2, if_pos rfl]
      exact keep () (by unfold zd_ff; rw [if_neg (by omega)])
theorem zdm_ft (hv : zdMv B) (hb : zdMb B I) (hx : zdM B I J p) : ∃ r : Int32, zF_X10_firstThere zW_M [.ref 0] (I, J) = some (some (.int r), (I, J)) ∧ r.toInt = zd_ft B p := by
  obtain ⟨r, q1, q2⟩ := zdm_ft4 hv hb hx B.1.1 0 (-1) (-1) (by omega) zh_m1 (Or.inl rfl)
  exact ⟨r, (zf_X10_firstThere_M _ _).trans ((zq_X10_firstThere_M_0 _ _).trans q1), q2⟩
/-- which moves were done, as far as the day has come: to minute n, and of its own the first k -/
def zdH (B : zdB) (n k : Nat) (I : Nat → Nat → Int32) (dn : Nat → Bool) : Prop := (∀ q, q < B.1.2.2 → (B.2.2.2.2.2.1 q < n ∨ (B.2.2.2.2.2.1 q = n ∧ q < k)) → I 20 q = if dn q = true then 1 else 0) ∧ ∀ q, dn q = true → B.2.2.2.2.2.1 q < n ∨ (B.2.2.2.2.2.1 q = n ∧ q < k)
theorem zdm_mvs (hv : zdMv B) {n : Nat} (hn : n ≤ 60) : ∀ (d k : Nat) (I : Nat → Nat → Int32) (x : zdP), k + d = B.1.2.2 → zdMb B I → zdM B I J x.1 → zdH B n k I x.2 → ∃ N, zv_X10_minute_M_2 I J (Int32.ofNat n) (Int32.ofNat k) = zv_X10_minute_M_92 N J (Int32.ofNat n) (Int32.ofNat 0) ∧ zdM B N J (zd_for (zd_mv B n) d k x).1 ∧ zdH B n B.1.2.2 N (zd_for (zd_mv B n) d k x).2 ∧ ∀ a b, a ≠ 20 → a ≠ 22 → a ≠ 23 → N a b = I a b := by
  obtain ⟨⟨⟨hC, hS, hst, hac, hsa⟩, hA, hE, hcm, ham⟩, hA4, hsc⟩ := id hv
  have c6 : Int32.toNatClampNeg 6 = 6 := by decide
  intro d
  induction d with
  | zero =>
    intro k I x h hb hx hh
    have ek : k = B.1.2.2 := by omega
    refine ⟨I, ?_, hx, by rw [← ek]; exact hh, fun _ _ _ _ _ => rfl⟩
    rw [zq_X10_minute_M_2, if_neg (by decide), c6, hb.1.2.2.1, if_pos ((zp_le (by omega) (by omega)).mpr (by omega)), zq_X10_minute_M_61, if_pos hb.1.2.2.2.2.2, zq_X10_minute_M_90]
    rfl
  | succ d ih =>
    intro k I x h hb hx hh
    obtain ⟨b0, b1, b2⟩ := hb.2.2 k (by omega)
    obtain ⟨i0, i1, i2⟩ := zd_m3 k (by omega)
    have a4 := hac k
    have a5 := hsa k
    have a6 := ham k
    have hnk : ¬ (Int32.ofNat B.1.2.2 : Int32) ≤ Int32.ofNat k := fun z => by have := (zp_le (by omega) (by omega)).mp z; omega
    have go : ∀ (N : Nat → Nat → Int32), (∀ a b, a ≠ 20 → a ≠ 22 → a ≠ 23 → N a b = I a b) → zdM B N J (zd_mv B n k x).1 → zdH B n (k + 1) N (zd_mv B n k x).2 → ∃ N', zv_X10_minute_M_55 N J (Int32.ofNat n) (Int32.ofNat k) = zv_X10_minute_M_92 N' J (Int32.ofNat n) (Int32.ofNat 0) ∧ zdM B N' J (zd_for (zd_mv B n) (d + 1) k x).1 ∧ zdH B n B.1.2.2 N' (zd_for (zd_mv B n) (d + 1) k x).2 ∧ ∀ a b, a ≠ 20 → a ≠ 22 → a ≠ 23 → N' a b = I a b := by
      intro N h1 h2 h3
      obtain ⟨N', r1, r2, r3, r4⟩ := ih (k + 1) N (zd_mv B n k x) (by omega) (zdMb_f hb (fun a b ha => h1 a b (by omega) (by omega) (by omega))) h2 h3
      refine ⟨N', ?_, r2, r3, fun a b q1 q2 q3 => (r4 a b q1 q2 q3).trans (h1 a b q1 q2 q3)⟩
      rw [zq_X10_minute_M_55, zp_o1 (by omega)]
      exact r1
    rw [zq_X10_minute_M_2, if_neg (by decide), c6, hb.1.2.2.1, if_neg hnk, zq_X10_minute_M_13, i2, if_neg (zp_in (by omega) (by omega)), zp_cl (by omega), b2]
    by_cases c1 : B.2.2.2.2.2.1 k = n
    · obtain ⟨N, q1, q2, q3⟩ := zdm_moves hv hb hx a4 a5
      rw [if_pos (by rw [c1]), zq_X10_minute_M_27, i1, i0, if_neg (zp_in (by omega) (by omega)), if_neg (zp_in (by omega) (by omega)), zp_cl (by omega), zp_cl (by omega), b0, b1, zc_X10_minute_M_51 _ _ _ _ _ _ _ q1, zq_X10_minute_M_54, if_neg (zp_in (by omega) (by omega)), zp_cl (by omega)]
      have hnew : x.2 k = false := by
        by_cases z : x.2 k = true
        · rcases hh.2 k z with w | w <;> omega
        · simpa using z
      have e : zd_mv B n k x = if -1 ≤ x.1 (B.2.2.2.1 k) ∧ zd_free B.1.1 x.1 (B.2.2.2.2.1 k) = true then (zd_up x.1 (B.2.2.2.1 k) (B.2.2.2.2.1 k), fun q => if q = k then true else x.2 q) else x := by
        unfold zd_mv
        by_cases c2 : -1 ≤ x.1 (B.2.2.2.1 k) ∧ zd_free B.1.1 x.1 (B.2.2.2.2.1 k) = true
        · rw [if_pos ⟨c1, c2⟩, if_pos c2]
        · rw [if_neg (fun z => c2 z.2), if_neg c2]
      have nar : vp_nar .boolean (if -1 ≤ x.1 (B.2.2.2.1 k) ∧ zd_free B.1.1 x.1 (B.2.2.2.2.1 k) = true then 1 else 0) = if -1 ≤ x.1 (B.2.2.2.1 k) ∧ zd_free B.1.1 x.1 (B.2.2.2.2.1 k) = true then 1 else 0 := by
        by_cases c2 : -1 ≤ x.1 (B.2.2.2.1 k) ∧ zd_free B.1.1 x.1 (B.2.2.2.2.1 k) = true
        · rw [if_pos c2]
          decide
        · rw [if_neg c2]
          decide
      rw [nar]
      refine go _ (fun a b h1 h2 h3 => by rw [ze_wo h1, q3 a b h2 h3]) ?_ ?_
      · have hm : zdM B N J (zd_mv B n k x).1 := by
          rw [e]
          by_cases c2 : -1 ≤ x.1 (B.2.2.2.1 k) ∧ zd_free B.1.1 x.1 (B.2.2.2.2.1 k) = true
          · rw [if_pos c2] at q2 ⊢
            exact q2
          · rw [if_neg c2] at q2 ⊢
            exact q2
        refine ⟨fun c hc => ?_, hm.2.1, hm.2.2.1, zd_gw hm.2.2.2 zd_r20 ?_ ?_⟩
        · rw [ze_wo (by decide), ze_wo (by decide)]
          exact hm.1 c hc
        · show (0 : Int) ≤ _
          split <;> decide
        · show _ ≤ (1 : Int)
          split <;> decide
      · refine ⟨fun q hq hlt => ?_, fun q hq => ?_⟩
        · by_cases c3 : q = k
          · subst c3
            rw [ze_wi, e]
            by_cases c2 : -1 ≤ x.1 (B.2.2.2.1 q) ∧ zd_free B.1.1 x.1 (B.2.2.2.2.1 q) = true
            · rw [if_pos c2, if_pos c2, if_pos (show (if q = q then true else x.2 q) = true from if_pos rfl)]
            · rw [if_neg c2, if_neg c2, hnew, if_neg (by decide)]
          · rw [ze_wj c3, q3 20 q (by decide) (by decide), hh.1 q hq (by omega), e]
            by_cases c2 : -1 ≤ x.1 (B.2.2.2.1 k) ∧ zd_free B.1.1 x.1 (B.2.2.2.2.1 k) = true
            · rw [if_pos c2]
              show _ = if (if q = k then true else x.2 q) = true then _ else _
              rw [if_neg c3]
            · rw [if_neg c2]
        · rw [e] at hq
          by_cases c2 : -1 ≤ x.1 (B.2.2.2.1 k) ∧ zd_free B.1.1 x.1 (B.2.2.2.2.1 k) = true
          · rw [if_pos c2] at hq
            have hq : (if q = k then true else x.2 q) = true := hq
            by_cases c3 : q = k
            · rw [c3]
              exact Or.inr ⟨c1, by omega⟩
            · rw [if_neg c3] at hq
              rcases hh.2 q hq with w | w
              · exact Or.inl w
              · exact Or.inr ⟨w.1, by omega⟩
          · rw [if_neg c2] at hq
            rcases hh.2 q hq with w | w
            · exact Or.inl w
            · exact Or.inr ⟨w.1, by omega⟩
    · have e : zd_mv B n k x = x := by
        unfold zd_mv
        rw [if_neg (fun z => c1 z.1)]
      rw [if_neg (zp_ne (by omega) (by omega) c1)]
      refine go I (fun _ _ _ _ _ => rfl) (by rw [e]; exact hx) ?_
      rw [e]
      refine ⟨fun q hq hlt => hh.1 q hq ?_, fun q hq => ?_⟩
      · rcases hlt with w | w
        · exact Or.inl w
        · refine Or.inr ⟨w.1, ?_⟩
          by_cases c3 : q = k
          · rw [c3] at w
            exact absurd w.1 c1
          · omega
      · rcases hh.2 q hq with w | w
        · exact Or.inl w
        · exact Or.inr ⟨w.1, by omega⟩
theorem zdm_sds (hv : zdMv B) (n : Int32) : ∀ (d c : Nat) (I : Nat → Nat → Int32) (p : Nat → Int), c + d = B.1.1 → zdMb B I → zdM B I J p → ∃ N, zv_X10_minute_M_92 I J n (Int32.ofNat c) = zv_X10_minute_M_132 N J n (Int32.ofNat 0) ∧ zdM B N J (zd_for (zd_sd B) d c p) ∧ zdMf I N := by
  obtain ⟨⟨⟨hC, hS, hst, hac, hsa⟩, hA, hE, hcm, ham⟩, hA4, hsc⟩ := id hv
  intro d
  induction d with
  | zero =>
    intro c I p h hb hx
    refine ⟨I, ?_, hx, zdMf_r⟩
    rw [zc_X10_minute_M_92 _ _ _ _ zdm_callers, zq_X10_minute_M_97, hb.1.1, if_pos ((zp_le (by omega) (by omega)).mpr (by omega)), zq_X10_minute_M_130]
    rfl
  | succ d ih =>
    intro c I p h hb hx
    have hn : ¬ (Int32.ofNat B.1.1 : Int32) ≤ Int32.ofNat c := fun z => by have := (zp_le (by omega) (by omega)).mp z; omega
    rw [zc_X10_minute_M_92 _ _ _ _ zdm_callers, zq_X10_minute_M_97, hb.1.1, if_neg hn, zq_X10_minute_M_100, if_neg (zp_in (by omega) (by omega)), zp_cl (by omega)]
    show ∃ N, _ ∧ zdM B N J (zd_for (zd_sd B) d (c + 1) (zd_sd B c p)) ∧ _
    have stay : p c ≠ -1 → ∃ N, zv_X10_minute_M_124 I J n (Int32.ofNat c) = zv_X10_minute_M_132 N J n (Int32.ofNat 0) ∧ zdM B N J (zd_for (zd_sd B) d (c + 1) (zd_sd B c p)) ∧ zdMf I N := by
      intro c1
      have es : zd_sd B c p = p := if_neg c1
      obtain ⟨K, r1, r2, r3⟩ := ih (c + 1) I (zd_sd B c p) (by omega) hb (by rw [es]; exact hx)
      refine ⟨K, ?_, r2, r3⟩
      rw [zq_X10_minute_M_124, zp_o1 (by omega)]
      exact r1
    rcases hx.1 c (by omega) with ⟨z1, z2, z3⟩ | ⟨z1, z2⟩
    · rw [z2, if_neg (by decide), zq_X10_minute_M_109, if_neg (zp_in (by omega) (by omega)), zp_cl (by omega)]
      by_cases c1 : p c = -1
      · obtain ⟨N, q1, q2, q3⟩ := zdm_sit hv hb hx (show c < B.1.1 by omega) c1
        have es : zd_sd B c p = zd_sit B.1.1 B.1.2.1 p c B.1.2.1 (B.2.2.1 c) := if_pos c1
        obtain ⟨K, r1, r2, r3⟩ := ih (c + 1) N (zd_sd B c p) (by omega) (zdMb_f hb (fun a b ha => q3 a b (by omega) (by omega))) (by rw [es]; exact q2)
        refine ⟨K, ?_, r2, zdMf_t q3 r3⟩
        rw [if_pos (Int32.toInt_inj.mp (by rw [z3, zh_m1]; exact c1)), zc_X10_minute_M_119 _ _ _ _ q1, zq_X10_minute_M_124, zp_o1 (by omega)]
        exact r1
      · rw [if_neg (fun z => c1 (by rw [← z3, z, zh_m1]))]
        exact stay c1
    · rw [z2, if_pos rfl]
      exact stay (by omega)
theorem zd_bit0 : ∀ c, c < 5 → (if (((0 : Int32) >>> (Int32.ofNat c &&& 31)) &&& 1) = 1 then (1 : Int32) else 0) = 0 := by decide +kernel
theorem zdm_cms (hv : zdMv B) {n : Nat} (hn : n ≤ 60) : ∀ (d c : Nat) (I : Nat → Nat → Int32) (p : Nat → Int), c + d = B.1.1 → zdMb B I → zdM B I J p → ∃ N, zv_X10_minute_M_132 I J (Int32.ofNat n) (Int32.ofNat c) = zv_X10_minute_M_203 N J (Int32.ofNat n) (Int32.ofNat 0) ∧ zdM B N J (zd_for (zd_cm B n) d c p) ∧ ∀ a b, (a < 21 ∨ 24 < a) → N a b = I a b := by
  obtain ⟨⟨⟨hC, hS, hst, hac, hsa⟩, hA, hE, hcm, ham⟩, hA4, hsc⟩ := id hv
  have nar1 : vp_nar .boolean 1 = 1 := by decide
  intro d
  induction d with
  | zero =>
    intro c I p h hb hx
    refine ⟨I, ?_, hx, fun _ _ _ => rfl⟩
    rw [zc_X10_minute_M_132 _ _ _ _ zdm_callers, zq_X10_minute_M_137, hb.1.1, if_pos ((zp_le (by omega) (by omega)).mpr (by omega)), zq_X10_minute_M_201]
    rfl
  | succ d ih =>
    intro c I p h hb hx
    have c61 := hcm c
    have hnc : ¬ (Int32.ofNat B.1.1 : Int32) ≤ Int32.ofNat c := fun z => by have := (zp_le (by omega) (by omega)).mp z; omega
    have hbit : zF_X10_isBit zW_M [.int (I 0 24), .int (Int32.ofNat c)] (I, J) = some (some (.int 0), (I, J)) := by rw [zh_isBitV, hb.1.2.2.2.2.1, zd_bit0 c (by omega)]
    rw [zc_X10_minute_M_132 _ _ _ _ zdm_callers, zq_X10_minute_M_137, hb.1.1, if_neg hnc, zc_X10_minute_M_140 _ _ _ _ hbit, zq_X10_minute_M_148, if_pos rfl, zq_X10_minute_M_151, if_neg (zp_in (by omega) (by omega)), zp_cl (by omega), (hb.2.1 c (by omega)).1]
    show ∃ N, _ ∧ zdM B N J (zd_for (zd_cm B n) d (c + 1) (zd_cm B n c p)) ∧ _
    by_cases c1 : B.2.1 c = n
    · rw [if_pos (by rw [c1]), zq_X10_minute_M_164, if_neg (zp_in (by omega) (by omega)), if_neg (zp_in (by omega) (by omega)), if_neg (zp_in (by omega) (by omega)), if_neg (zp_in (by omega) (by omega)), zp_cl (by omega), nar1]
      have k13 : zm_w I 24 c 1 13 c = I 13 c := ze_wo (by decide)
      rw [k13]
      have g13 := zh_ga hx.2.2.2 zd_r13 c
      have x0 : zdM B (zm_w (zm_w (zm_w I 24 c 1) 21 c (I 13 c)) 22 c (-1)) J (zd_up p c (-1)) := by
        refine ⟨fun q hq => ?_, fun q hq => ?_, fun q => ?_, zd_gw (zd_gw (zd_gw hx.2.2.2 zd_r24 (by decide) (by decide)) zd_r21 g13.1 g13.2) zd_r22 (by decide) (by decide)⟩
        · rw [ze_wo (by decide), ze_wo (by decide)]
          by_cases e : q = c
          · subst e
            rw [ze_wi, ze_wi, zd_up_i]
            exact Or.inl ⟨by decide, rfl, zh_m1⟩
          · rw [ze_wj e, ze_wj e, ze_wo (by decide), ze_wo (by decide), zd_up_o e]
            exact hx.1 q hq
        · rw [zd_up_o (by omega)]
          exact hx.2.1 q hq
        · by_cases e : q = c
          · rw [e, zd_up_i]
            decide
          · rw [zd_up_o e]
            exact hx.2.2.1 q
      have f0 : ∀ a b, (a < 21 ∨ 24 < a) → zm_w (zm_w (zm_w I 24 c 1) 21 c (I 13 c)) 22 c (-1) a b = I a b := fun a b ha => by rw [ze_wo (by omega), ze_wo (by omega), ze_wo (by omega)]
      have b0 := zdMb_f hb (fun a b ha => f0 a b (by omega))
      generalize zm_w (zm_w (zm_w I 24 c 1) 21 c (I 13 c)) 22 c (-1) = I0 at x0 f0 b0
      obtain ⟨N, q1, q2, q3⟩ := zdm_sit hv b0 x0 (show c < B.1.1 by omega) zd_up_i
      have es : zd_cm B n c p = zd_sit B.1.1 B.1.2.1 (zd_up p c (-1)) c B.1.2.1 (B.2.2.1 c) := if_pos c1
      obtain ⟨K, r1, r2, r3⟩ := ih (c + 1) N (zd_cm B n c p) (by omega) (zdMb_f b0 (fun a b ha => q3 a b (by omega) (by omega))) (by rw [es]; exact q2)
      refine ⟨K, ?_, r2, fun a b ha => (r3 a b ha).trans ((q3 a b (by omega) (by omega)).trans (f0 a b ha))⟩
      rw [zc_X10_minute_M_190 _ _ _ _ q1, zq_X10_minute_M_195, zp_o1 (by omega)]
      exact r1
    · have es : zd_cm B n c p = p := if_neg c1
      obtain ⟨K, r1, r2, r3⟩ := ih (c + 1) I (zd_cm B n c p) (by omega) hb (by rw [es]; exact hx)
      refine ⟨K, ?_, r2, r3⟩
      rw [if_neg (zp_ne (by omega) (by omega) c1), zq_X10_minute_M_161, zq_X10_minute_M_195, zp_o1 (by omega)]
      exact r1
end ZDD
