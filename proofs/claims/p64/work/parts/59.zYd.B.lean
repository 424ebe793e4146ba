/-! A DAY OF THE CLASS: who moves, sits down, comes -/
def zd_bit (x : Int64) (k : Nat) : Bool := x.toBitVec.getLsbD k
theorem zd_one : ∀ k, k < 64 → ∀ q, q < 64 → ((1 : Int64) <<< (Int32.toInt64 (Int32.ofNat k) &&& 63)).toBitVec.getLsbD q = decide (q = k) := by decide +kernel
theorem zd_bit_or (x : Int64) {k q : Nat} (hk : k < 64) (hq : q < 64) : zd_bit (x ||| ((1 : Int64) <<< (Int32.toInt64 (Int32.ofNat k) &&& 63))) q = if q = k then true else zd_bit x q := by
  unfold zd_bit
  rw [Int64.toBitVec_or, BitVec.getLsbD_or, zd_one k hk q hq]
  by_cases c : q = k
  · rw [if_pos c, decide_eq_true c, Bool.or_true]
  · rw [if_neg c, decide_eq_false c, Bool.or_false]
theorem zd_sh : ∀ m, m < 64 → (((Int32.toInt64 (Int32.ofNat m)).toUInt64 &&& Int64.toUInt64 63).toBitVec % (64 : BitVec 64)).toNat = m := by decide +kernel
theorem zd_and1 (w : BitVec 64) : (w &&& 1#64 = 0#64) ↔ w.getLsbD 0 = false := by
  have e : (w &&& 1#64).toNat = w.toNat % 2 := by
    rw [BitVec.toNat_and, show (1#64 : BitVec 64).toNat = 2 ^ 1 - 1 by decide, Nat.and_two_pow_sub_one_eq_mod]
  have g : w.getLsbD 0 = decide (w.toNat % 2 = 1) := by
    unfold BitVec.getLsbD
    rw [Nat.testBit_zero]
  rw [g, decide_eq_false_iff_not]
  constructor
  · intro h
    rw [h] at e
    have e : 0 = w.toNat % 2 := e
    omega
  · intro h
    apply BitVec.eq_of_toNat_eq
    rw [e]
    show w.toNat % 2 = 0
    omega
theorem zd_test (x : Int64) {m : Nat} (hm : m < 64) : (lg_cmp (((Int64.toUInt64 x >>> ((Int32.toInt64 (Int32.ofNat m)).toUInt64 &&& Int64.toUInt64 63)).toInt64) &&& 1) 0 = 0) ↔ zd_bit x m = false := by
  rw [lg_cmp_eq, ← Int64.toBitVec_inj, Int64.toBitVec_and, UInt64.toBitVec_toInt64, UInt64.toBitVec_shiftRight, BitVec.ushiftRight_eq', zd_sh m hm, Int64.toBitVec_toUInt64]
  have := zd_and1 (x.toBitVec >>> m)
  rw [BitVec.getLsbD_ushiftRight, Nat.add_zero] at this
  exact this
/-- the class's bench, cells 8 on -/
def zdXb (B : zdB) (I : Nat → Nat → Int32) : Prop := (I 8 6 = Int32.ofNat B.1.1 ∧ I 8 5 = Int32.ofNat B.1.2.1 ∧ I 8 7 = Int32.ofNat B.1.2.2 ∧ I 8 3 = Int32.ofNat B.2.2.2.2.2.2) ∧ (∀ c, c < 5 → I 11 c = Int32.ofNat (B.2.1 c)) ∧ (∀ c, c < 5 → I 12 c = Int32.ofNat (B.2.2.1 c)) ∧ ∀ k, k < 41 → I 15 k = Int32.ofNat (B.2.2.2.1 k) ∧ I 16 k = Int32.ofNat (B.2.2.2.2.1 k) ∧ I 17 k = Int32.ofNat (B.2.2.2.2.2.1 k)
def zdXv (B : zdB) : Prop := zdV B ∧ B.1.2.2 ≤ 41 ∧ (1 ≤ B.2.2.2.2.2.2 ∧ B.2.2.2.2.2.2 ≤ 30) ∧ (∀ c, B.2.1 c ≤ 61) ∧ ∀ k, B.2.2.2.2.2.1 k ≤ 60
def zdX (B : zdB) (I : Nat → Nat → Int32) (p : Nat → Int) : Prop := (∀ c, c < 5 → (I 1 c).toInt = p c) ∧ (∀ c, B.1.1 ≤ c → p c = -2) ∧ (∀ c, -3 ≤ p c ∧ p c ≤ 5) ∧ (∀ c, c < B.1.1 → 0 ≤ p c → (I 7 (p c).toNat).toInt = c) ∧ ∀ s, s < 6 → (I 7 s).toInt = -1 ∨ ∃ c, c < B.1.1 ∧ (I 7 s).toInt = (c : Int) ∧ p c = (s : Int)
/-- places and seats alone may differ -/
def zdXf (I N : Nat → Nat → Int32) : Prop := ∀ a b, a ≠ 1 → a ≠ 7 → N a b = I a b
section ZDB
variable {B : zdB} {I N : Nat → Nat → Int32} {J : Nat → Nat → Int64} {p : Nat → Int}
theorem zdXf_r : zdXf I I := fun _ _ _ _ => rfl
theorem zdXf_t {K : Nat → Nat → Int32} (h : zdXf I K) (h2 : zdXf K N) : zdXf I N := fun a b h1 h7 => (h2 a b h1 h7).trans (h a b h1 h7)
theorem zdXb_f (h : zdXb B I) (hf : ∀ a b, 8 ≤ a → N a b = I a b) : zdXb B N := by
  obtain ⟨⟨a, b, c, d⟩, e, f, g⟩ := h
  refine ⟨⟨?_, ?_, ?_, ?_⟩, fun q hq => ?_, fun q hq => ?_, fun q hq => ?_⟩
  · rw [hf 8 6 (by decide)]; exact a
  · rw [hf 8 5 (by decide)]; exact b
  · rw [hf 8 7 (by decide)]; exact c
  · rw [hf 8 3 (by decide)]; exact d
  · rw [hf 11 q (by decide)]; exact e q hq
  · rw [hf 12 q (by decide)]; exact f q hq
  · rw [hf 15 q (by decide), hf 16 q (by decide), hf 17 q (by decide)]; exact g q hq
theorem zdXb_x (h : zdXb B I) (hf : zdXf I N) : zdXb B N := zdXb_f h (fun a b ha => hf a b (by omega) (by omega))
theorem zdx_put (h : zdX B I p) (hC : B.1.1 ≤ 5) {c : Nat} (hc : c < B.1.1) {v : Int} (hv : -3 ≤ v ∧ v ≤ 5) (hf : v < 0 ∨ zd_free B.1.1 p v.toNat = true) (h1 : ∀ q, q < 5 → (N 1 q).toInt = if q = c then v else p q) (h7 : ∀ s : Nat, s < 6 → (N 7 s).toInt = if (s : Int) = v then (c : Int) else if (s : Int) = p c then -1 else (I 7 s).toInt) : zdX B N (zd_up p c v) := by
  obtain ⟨a, b, r, s1, s2⟩ := h
  refine ⟨fun q hq => h1 q hq, fun q hq => ?_, fun q => ?_, fun q hq h0 => ?_, fun s hs => ?_⟩
  · rw [zd_up_o (by omega)]
    exact b q hq
  · by_cases e : q = c
    · rw [e, zd_up_i]
      exact hv
    · rw [zd_up_o e]
      exact r q
  · by_cases e : q = c
    · subst e
      rw [zd_up_i] at h0 ⊢
      rw [h7 v.toNat (by omega), if_pos (by omega)]
    · rw [zd_up_o e] at h0 ⊢
      have hr := r q
      have i := s1 q hq h0
      have n1 : ¬ (((p q).toNat : Nat) : Int) = v := by
        intro z
        rcases hf with hf | hf
        · omega
        · have := zd_free_i.mp hf q hq
          omega
      have n2 : ¬ (((p q).toNat : Nat) : Int) = p c := by
        intro z
        have z2 : p q = p c := by omega
        rw [z2] at i
        have := s1 c hc (by omega)
        omega
      rw [h7 (p q).toNat (by omega), if_neg n1, if_neg n2]
      exact i
  · by_cases e1 : (s : Int) = v
    · exact Or.inr ⟨c, hc, by rw [h7 s hs, if_pos e1], by rw [zd_up_i]; exact e1.symm⟩
    · by_cases e2 : (s : Int) = p c
      · exact Or.inl (by rw [h7 s hs, if_neg e1, if_pos e2])
      · rcases s2 s hs with q | ⟨q, hq, hi, hp⟩
        · exact Or.inl (by rw [h7 s hs, if_neg e1, if_neg e2]; exact q)
        · refine Or.inr ⟨q, hq, by rw [h7 s hs, if_neg e1, if_neg e2]; exact hi, ?_⟩
          rw [zd_up_o (fun z => e2 (by rw [← hp, z]))]
          exact hp
theorem zdx_free (h : zdX B I p) {s : Nat} (hs : s < 6) : (I 7 s = -1) ↔ zd_free B.1.1 p s = true := by
  obtain ⟨a, b, r, s1, s2⟩ := h
  rw [zd_free_i]
  constructor
  · intro e c hc z
    have i := s1 c hc (by omega)
    rw [z, Int.toNat_natCast, e, zh_m1] at i
    omega
  · intro e
    rcases s2 s hs with q | ⟨q, hq, hi, hp⟩
    · exact Int32.toInt_inj.mp (q.trans zh_m1.symm)
    · exact absurd hp (e q hq)
theorem zdx_leave (h : zdX B I p) {c : Nat} (hc : c < 5) : zF_X2_leaveSeat zW_DB [.ref 0, .int (Int32.ofNat c)] (I, J) = some (none, ((if p c < 0 then I else zm_w I 7 (p c).toNat (-1)), J)) := by
  have e1 : (I 1 c).toInt = p c := h.1 c hc
  have r := h.2.2.1 c
  rw [zf_X2_leaveSeat_DB, zq_X2_leaveSeat_DB_0, if_neg (zp_in (by omega) hc), zp_cl (by omega)]
  by_cases n : p c < 0
  · rw [if_pos n, if_pos (by rw [ze_lt, e1, ze_i0]; exact n), zq_X2_leaveSeat_DB_21]
  · have ec : Int32.toNatClampNeg (I 1 c) = (p c).toNat := zh_cl (n := (p c).toNat) (by rw [e1]; omega)
    rw [if_neg n, if_neg (by rw [ze_lt, e1, ze_i0]; exact n), zq_X2_leaveSeat_DB_9, if_neg (zp_in (by omega) hc), zp_cl (by omega), if_neg (zh_in (n := 6) (by omega) (by omega)), ec, zq_X2_leaveSeat_DB_21]
theorem zdx_N0 (h : zdX B I p) (c : Nat) : (∀ a b, a ≠ 7 → (if p c < 0 then I else zm_w I 7 (p c).toNat (-1)) a b = I a b) ∧ ∀ s : Nat, ((if p c < 0 then I else zm_w I 7 (p c).toNat (-1)) 7 s).toInt = if (s : Int) = p c then -1 else (I 7 s).toInt := by
  by_cases n : p c < 0
  · rw [if_pos n]
    exact ⟨fun _ _ _ => rfl, fun s => by rw [if_neg (by omega)]⟩
  · rw [if_neg n]
    refine ⟨fun a b ha => ze_wo ha, fun s => ?_⟩
    by_cases e : (s : Int) = p c
    · have e2 : s = (p c).toNat := by omega
      rw [if_pos e, e2, ze_wi, zh_m1]
    · rw [if_neg e, ze_wj (by omega)]
/-- one takes a seat that is free -/
theorem zdx_take (hv : zdXv B) (h : zdX B I p) {c s : Nat} (hc : c < B.1.1) (hs : s < 6) (hf : zd_free B.1.1 p s = true) : zdX B (zm_w (zm_w (if p c < 0 then I else zm_w I 7 (p c).toNat (-1)) 7 s (Int32.ofNat c)) 1 c (Int32.ofNat s)) (zd_up p c s) := by
  obtain ⟨n1, n7⟩ := zdx_N0 h c
  have hC := hv.1.1
  refine zdx_put h hC hc (by omega) (Or.inr (by rw [Int.toNat_natCast]; exact hf)) (fun q hq => ?_) (fun q hq => ?_)
  · by_cases e : q = c
    · rw [if_pos e, e, ze_wi, zp_o (by omega)]
    · rw [if_neg e, ze_wj e, ze_wo (by decide), n1 1 q (by decide)]
      exact h.1 q hq
  · rw [ze_wo (by decide)]
    by_cases e : q = s
    · rw [if_pos (show (q : Int) = (s : Int) by omega), e, ze_wi, zp_o (by omega)]
    · rw [if_neg (show ¬ (q : Int) = (s : Int) by omega), ze_wj e]
      exact n7 q
theorem zdx_takef (h : zdX B I p) (c s : Nat) : zdXf I (zm_w (zm_w (if p c < 0 then I else zm_w I 7 (p c).toNat (-1)) 7 s (Int32.ofNat c)) 1 c (Int32.ofNat s)) := fun a b h1 h7 => by rw [ze_wo h1, ze_wo h7, (zdx_N0 h c).1 a b h7]
theorem zdx_mvs (hv : zdXv B) {n : Nat} (hn : n ≤ 60) : ∀ (d k : Nat) (I : Nat → Nat → Int32) (J : Nat → Nat → Int64) (x : zdP) (l4 l5 : Option Value), k + d = B.1.2.2 → zdXb B I → zdX B I x.1 → (∀ q, q < 41 → zd_bit (J 0 9) q = x.2 q) → ∃ N K, zv_X2_moveAll_DB_2 I J (Int32.ofNat n) (Int32.ofNat k) l4 l5 = some (none, (N, K)) ∧ zdX B N (zd_for (zd_mv B n) d k x).1 ∧ (∀ q, q < 41 → zd_bit (K 0 9) q = (zd_for (zd_mv B n) d k x).2 q) ∧ zdXf I N := by
  obtain ⟨⟨hC, hS, hst, hac, hsa⟩, hA, hE, hcm, ham⟩ := id hv
  intro d
  induction d with
  | zero =>
    intro k I J x l4 l5 h hb hx hd
    refine ⟨I, J, ?_, hx, hd, zdXf_r⟩
    rw [zq_X2_moveAll_DB_2, hb.1.2.2.1, if_pos ((zp_le (by omega) (by omega)).mpr (by omega)), zq_X2_moveAll_DB_100]
  | succ d ih =>
    intro k I J x l4 l5 h hb hx hd
    obtain ⟨b15, b16, b17⟩ := hb.2.2.2 k (by omega)
    have a4 := hac k
    have a5 := hsa k
    have a6 := ham k
    have go : ∀ (N : Nat → Nat → Int32) (K : Nat → Nat → Int64) (y : zdP) (a b : Int32), zd_mv B n k x = y → zdXf I N → zdX B N y.1 → (∀ q, q < 41 → zd_bit (K 0 9) q = y.2 q) → ∃ N' K', zv_X2_moveAll_DB_94 N K (Int32.ofNat n) (Int32.ofNat k) a b = some (none, (N', K')) ∧ zdX B N' (zd_for (zd_mv B n) (d + 1) k x).1 ∧ (∀ q, q < 41 → zd_bit (K' 0 9) q = (zd_for (zd_mv B n) (d + 1) k x).2 q) ∧ zdXf I N' := by
      intro N K y a b e h1 h2 h3
      subst e
      obtain ⟨N', K', r1, r2, r3, r4⟩ := ih (k + 1) N K (zd_mv B n k x) (some (.int a)) (some (.int b)) (by omega) (zdXb_x hb h1) h2 h3
      refine ⟨N', K', ?_, r2, r3, zdXf_t h1 r4⟩
      rw [zq_X2_moveAll_DB_94, zp_o1 (by omega)]
      exact r1
    have stay : ¬ (B.2.2.2.2.2.1 k = n ∧ -1 ≤ x.1 (B.2.2.2.1 k) ∧ zd_free B.1.1 x.1 (B.2.2.2.2.1 k) = true) → ∀ (a b : Int32), ∃ N' K', zv_X2_moveAll_DB_94 I J (Int32.ofNat n) (Int32.ofNat k) a b = some (none, (N', K')) ∧ zdX B N' (zd_for (zd_mv B n) (d + 1) k x).1 ∧ (∀ q, q < 41 → zd_bit (K' 0 9) q = (zd_for (zd_mv B n) (d + 1) k x).2 q) ∧ zdXf I N' := fun hc a b => go I J x a b (by unfold zd_mv; rw [if_neg hc]) zdXf_r hx hd
    rw [zq_X2_moveAll_DB_2, hb.1.2.2.1, if_neg (fun z => by have := (zp_le (by omega) (by omega)).mp z; omega), zq_X2_moveAll_DB_10, if_neg (zp_in (by omega) (by omega)), if_neg (zp_in (by omega) (by omega)), if_neg (zp_in (by omega) (by omega)), zp_cl (by omega), b15, b16, b17]
    by_cases c1 : B.2.2.2.2.2.1 k = n
    · rw [if_pos (by rw [c1]), zq_X2_moveAll_DB_36, if_neg (zp_in (by omega) (by omega)), zp_cl (by omega)]
      have e1 : (I 1 (B.2.2.2.1 k)).toInt = x.1 (B.2.2.2.1 k) := hx.1 _ (by omega)
      by_cases c2 : x.1 (B.2.2.2.1 k) < -1
      · rw [if_pos (by rw [ze_lt, e1, zh_m1]; exact c2)]
        exact stay (by omega) _ _
      · rw [if_neg (by rw [ze_lt, e1, zh_m1]; exact c2), zq_X2_moveAll_DB_47, if_neg (zp_in (by omega) (by omega)), zp_cl (by omega)]
        by_cases c3 : zd_free B.1.1 x.1 (B.2.2.2.2.1 k) = true
        · have hlt : B.2.2.2.1 k < B.1.1 := by
            by_cases q : B.2.2.2.1 k < B.1.1
            · exact q
            · have := hx.2.1 (B.2.2.2.1 k) (by omega)
              omega
          rw [if_pos ((zdx_free hx (by omega)).mpr c3), zc_X2_moveAll_DB_58 _ _ _ _ _ _ (zdx_leave hx (by omega)), zq_X2_moveAll_DB_64, if_neg (zp_in (by omega) (by omega)), if_neg (zp_in (by omega) (by omega)), zp_cl (by omega), zp_cl (by omega)]
          refine go _ _ (zd_up x.1 (B.2.2.2.1 k) (B.2.2.2.2.1 k), fun q => if q = k then true else x.2 q) _ _ (by unfold zd_mv; rw [if_pos ⟨c1, by omega, c3⟩]) (zdx_takef hx _ _) (zdx_take hv hx hlt (by omega) c3) (fun q hq => ?_)
          show zd_bit (zm_wl J 0 9 _ 0 9) q = if q = k then true else x.2 q
          have ew : zm_wl J 0 9 (J 0 9 ||| (1 <<< (Int32.toInt64 (Int32.ofNat k) &&& 63))) 0 9 = (J 0 9 ||| (1 <<< (Int32.toInt64 (Int32.ofNat k) &&& 63))) := if_pos ⟨rfl, rfl⟩
          rw [ew, zd_bit_or _ (by omega) (by omega), hd q hq]
        · rw [if_neg (fun z => c3 ((zdx_free hx (by omega)).mp z))]
          exact stay (fun z => c3 z.2.2) _ _
    · rw [if_neg (zp_ne (by omega) (by omega) c1)]
      exact stay (fun z => c1 z.1) _ _
theorem zdx_sit17 (hv : zdXv B) {c : Nat} (hc : c < B.1.1) : ∀ (d i s : Nat) (I : Nat → Nat → Int32) (p : Nat → Int), i + d = B.1.2.1 → s ≤ 5 → zdXb B I → zdX B I p → p c < 0 → ∃ N, zv_X2_sitDown_DB_17 I J (Int32.ofNat c) (Int32.ofNat s) (Int32.ofNat i) = some (none, (N, J)) ∧ zdX B N (zd_sit B.1.1 B.1.2.1 p c d s) ∧ zdXf I N := by
  obtain ⟨⟨hC, hS, hst, hac, hsa⟩, hA, hE, hcm, ham⟩ := id hv
  intro d
  induction d with
  | zero =>
    intro i s I p h hs hb hx hp
    refine ⟨I, ?_, hx, zdXf_r⟩
    rw [zq_X2_sitDown_DB_17, hb.1.2.1, if_pos ((zp_le (by omega) (by omega)).mpr (by omega)), zq_X2_sitDown_DB_75]
  | succ d ih =>
    intro i s I p h hs hb hx hp
    rw [zq_X2_sitDown_DB_17, hb.1.2.1, if_neg (fun z => by have := (zp_le (by omega) (by omega)).mp z; omega), zq_X2_sitDown_DB_26, if_neg (zp_in (by omega) (by omega)), zp_cl (by omega)]
    unfold zd_sit
    by_cases c3 : zd_free B.1.1 p s = true
    · rw [if_pos ((zdx_free hx (by omega)).mpr c3), if_pos c3, zq_X2_sitDown_DB_36, if_neg (zp_in (by omega) (by omega)), if_neg (zp_in (by omega) (by omega)), zp_cl (by omega), zp_cl (by omega)]
      have ht := zdx_take hv hx hc (by omega) c3
      have hf := zdx_takef hx c s
      rw [if_pos hp] at ht hf
      exact ⟨_, rfl, ht, hf⟩
    · rw [if_neg (fun z => c3 ((zdx_free hx (by omega)).mp z)), if_neg c3, zq_X2_sitDown_DB_51, hb.1.2.1, zp_o1 (by omega)]
      by_cases c4 : s + 1 < B.1.2.1
      · rw [if_neg (fun z => by have := (zp_le (by omega) (by omega)).mp z; omega), zq_X2_sitDown_DB_61, zq_X2_sitDown_DB_68, zp_o1 (by omega), zp_o1 (by omega), if_pos c4]
        exact ih (i + 1) (s + 1) I p (by omega) (by omega) hb hx hp
      · rw [if_pos ((zp_le (by omega) (by omega)).mpr (by omega)), zq_X2_sitDown_DB_67, zq_X2_sitDown_DB_68, zp_o1 (by omega), if_neg c4]
        exact ih (i + 1) 0 I p (by omega) (by omega) hb hx hp
theorem zdx_sit (hv : zdXv B) {c : Nat} (hc : c < B.1.1) (hb : zdXb B I) (hx : zdX B I p) (hp : p c < 0) : ∃ N, zF_X2_sitDown zW_DB [.ref 0, .ref 8, .int (Int32.ofNat c)] (I, J) = some (none, (N, J)) ∧ zdX B N (zd_sit B.1.1 B.1.2.1 (zd_up p c (-1)) c B.1.2.1 (B.2.2.1 c)) ∧ zdXf I N := by
  obtain ⟨⟨hC, hS, hst, hac, hsa⟩, hA, hE, hcm, ham⟩ := id hv
  have f0 : zdXf I (zm_w I 1 c (-1)) := fun a b h1 h7 => ze_wo h1
  have x0 : zdX B (zm_w I 1 c (-1)) (zd_up p c (-1)) := zdx_put hx hC hc (by decide) (Or.inl (by decide)) (fun q hq => by
    by_cases e : q = c
    · rw [if_pos e, e, ze_wi, zh_m1]
    · rw [if_neg e, ze_wj e]
      exact hx.1 q hq) (fun s hs => by rw [if_neg (by omega), if_neg (by omega), ze_wo (by decide)])
  have b0 := zdXb_x hb f0
  obtain ⟨N, q1, q2, q3⟩ := zdx_sit17 (J := J) hv hc B.1.2.1 0 (B.2.2.1 c) (zm_w I 1 c (-1)) (zd_up p c (-1)) (by omega) (hst c) b0 x0 (by rw [zd_up_i]; decide)
  refine ⟨N, ?_, q2, zdXf_t f0 q3⟩
  rw [zf_X2_sitDown_DB, zq_X2_sitDown_DB_0, if_neg (zp_in (by omega) (by omega)), if_neg (zp_in (by omega) (by omega)), zp_cl (by omega), b0.2.2.1 c (by omega)]
  exact q1
theorem zdx_sds (hv : zdXv B) (n : Int32) : ∀ (d c : Nat) (I : Nat → Nat → Int32) (p : Nat → Int), c + d = B.1.1 → zdXb B I → zdX B I p → ∃ N, zv_X2_settle_DB_21 I J n (Int32.ofNat c) = zv_X2_settle_DB_51 N J n (Int32.ofNat B.1.1) ∧ zdX B N (zd_for (zd_sd B) d c p) ∧ zdXf I N := by
  obtain ⟨⟨hC, hS, hst, hac, hsa⟩, hA, hE, hcm, ham⟩ := id hv
  intro d
  induction d with
  | zero =>
    intro c I p h hb hx
    refine ⟨I, ?_, hx, zdXf_r⟩
    rw [zq_X2_settle_DB_21, hb.1.1, if_pos ((zp_le (by omega) (by omega)).mpr (by omega)), show c = B.1.1 by omega]
  | succ d ih =>
    intro c I p h hb hx
    have e1 : (I 1 c).toInt = p c := hx.1 c (by omega)
    rw [zq_X2_settle_DB_21, hb.1.1, if_neg (fun z => by have := (zp_le (by omega) (by omega)).mp z; omega), zq_X2_settle_DB_29, if_neg (zp_in (by omega) (by omega)), zp_cl (by omega)]
    show ∃ N, _ ∧ zdX B N (zd_for (zd_sd B) d (c + 1) (zd_sd B c p)) ∧ _
    by_cases c1 : p c = -1
    · obtain ⟨N, q1, q2, q3⟩ := zdx_sit (J := J) hv (show c < B.1.1 by omega) hb hx (by omega)
      rw [zd_up_id c1] at q2
      have es : zd_sd B c p = zd_sit B.1.1 B.1.2.1 p c B.1.2.1 (B.2.2.1 c) := if_pos c1
      obtain ⟨K, r1, r2, r3⟩ := ih (c + 1) N (zd_sd B c p) (by omega) (zdXb_x hb q3) (by rw [es]; exact q2)
      refine ⟨K, ?_, r2, zdXf_t q3 r3⟩
      rw [if_pos (Int32.toInt_inj.mp (by rw [e1, zh_m1]; exact c1)), zc_X2_settle_DB_39 _ _ _ _ q1, zq_X2_settle_DB_45, zp_o1 (by omega)]
      exact r1
    · have es : zd_sd B c p = p := if_neg c1
      obtain ⟨K, r1, r2, r3⟩ := ih (c + 1) I (zd_sd B c p) (by omega) hb (by rw [es]; exact hx)
      refine ⟨K, ?_, r2, r3⟩
      rw [if_neg (fun z => c1 (by rw [← e1, z, zh_m1])), zq_X2_settle_DB_45, zp_o1 (by omega)]
      exact r1
theorem zdx_cms (hv : zdXv B) {n : Nat} (hn : n ≤ 60) : ∀ (d c : Nat) (I : Nat → Nat → Int32) (p : Nat → Int), c + d = B.1.1 → (∀ q, c ≤ q → q < B.1.1 → B.2.1 q = n → p q < 0) → zdXb B I → zdX B I p → ∃ N, zv_X2_settle_DB_53 I J (Int32.ofNat n) (Int32.ofNat c) = some (none, (N, J)) ∧ zdX B N (zd_for (zd_cm B n) d c p) ∧ zdXf I N := by
  obtain ⟨⟨hC, hS, hst, hac, hsa⟩, hA, hE, hcm, ham⟩ := id hv
  intro d
  induction d with
  | zero =>
    intro c I p h hp hb hx
    refine ⟨I, ?_, hx, zdXf_r⟩
    rw [zq_X2_settle_DB_53, hb.1.1, if_pos ((zp_le (by omega) (by omega)).mpr (by omega)), zq_X2_settle_DB_83]
  | succ d ih =>
    intro c I p h hp hb hx
    rw [zq_X2_settle_DB_53, hb.1.1, if_neg (fun z => by have := (zp_le (by omega) (by omega)).mp z; omega), zq_X2_settle_DB_61, if_neg (zp_in (by omega) (by omega)), zp_cl (by omega), hb.2.1 c (by omega)]
    have hc61 := hcm c
    show ∃ N, _ ∧ zdX B N (zd_for (zd_cm B n) d (c + 1) (zd_cm B n c p)) ∧ _
    by_cases c1 : B.2.1 c = n
    · obtain ⟨N, q1, q2, q3⟩ := zdx_sit (J := J) hv (show c < B.1.1 by omega) hb hx (hp c (Nat.le_refl c) (by omega) c1)
      have es : zd_cm B n c p = zd_sit B.1.1 B.1.2.1 (zd_up p c (-1)) c B.1.2.1 (B.2.2.1 c) := if_pos c1
      have hot : ∀ (k s : Nat) (p : Nat → Int) (q : Nat), q ≠ c → zd_sit B.1.1 B.1.2.1 p c k s q = p q := by
        intro k
        induction k with
        | zero => exact fun _ _ _ _ => rfl
        | succ k ihk =>
          intro s p q hq
          unfold zd_sit
          split
          · exact zd_up_o hq
          · exact ihk _ p q hq
      obtain ⟨K, r1, r2, r3⟩ := ih (c + 1) N (zd_cm B n c p) (by omega) (fun q h1 h2 h3 => by
        rw [es, hot _ _ _ q (by omega), zd_up_o (by omega)]
        exact hp q (by omega) h2 h3) (zdXb_x hb q3) (by rw [es]; exact q2)
      refine ⟨K, ?_, r2, zdXf_t q3 r3⟩
      rw [if_pos (by rw [c1]), zc_X2_settle_DB_71 _ _ _ _ q1, zq_X2_settle_DB_77, zp_o1 (by omega)]
      exact r1
    · have es : zd_cm B n c p = p := if_neg c1
      obtain ⟨K, r1, r2, r3⟩ := ih (c + 1) I (zd_cm B n c p) (by omega) (fun q h1 h2 h3 => by
        rw [es]
        exact hp q (by omega) h2 h3) hb (by rw [es]; exact hx)
      refine ⟨K, ?_, r2, r3⟩
      rw [if_neg (zp_ne (by omega) (by omega) c1), zq_X2_settle_DB_77, zp_o1 (by omega)]
      exact r1
/-- all that comes ahead of a minute's call -/
theorem zdx_set (hv : zdXv B) {n : Nat} (hn : n ≤ 60) {x : zdP} (hQ : zdQ B n x.1) (hb : zdXb B I) (hx : zdX B I x.1) (hd : ∀ q, q < 41 → zd_bit (J 0 9) q = x.2 q) (hz : zd_bit (J 0 8) n = false → ∀ k, k < B.1.2.2 → B.2.2.2.2.2.1 k ≠ n) : ∃ N K, zF_X2_settle zW_DB [.ref 0, .ref 8, .int (Int32.ofNat n)] (I, J) = some (none, (N, K)) ∧ zdX B N (zd_set B n x).1 ∧ (∀ q, q < 41 → zd_bit (K 0 9) q = (zd_set B n x).2 q) ∧ zdXf I N := by
  have mid : ∃ N K, zF_X2_settle zW_DB [.ref 0, .ref 8, .int (Int32.ofNat n)] (I, J) = zv_X2_settle_DB_19 N K (Int32.ofNat n) ∧ zdX B N (zd_for (zd_mv B n) B.1.2.2 0 x).1 ∧ (∀ q, q < 41 → zd_bit (K 0 9) q = (zd_for (zd_mv B n) B.1.2.2 0 x).2 q) ∧ zdXf I N := by
    rw [zf_X2_settle_DB, zq_X2_settle_DB_0]
    by_cases c : zd_bit (J 0 8) n = false
    · have e : zd_for (zd_mv B n) B.1.2.2 0 x = x := zd_for_id _ _ _ (fun q _ hq => by
        unfold zd_mv
        rw [if_neg (fun z => hz c q (by omega) z.1)])
      rw [if_pos ((zd_test _ (by omega)).mpr c), e]
      exact ⟨I, J, rfl, hx, hd, zdXf_r⟩
    · obtain ⟨N, K, q1, q2, q3, q4⟩ := zdx_mvs hv hn B.1.2.2 0 I J x none none (by omega) hb hx hd
      rw [if_neg (fun z => c ((zd_test _ (by omega)).mp z)), zc_X2_settle_DB_13 _ _ _ ((zf_X2_moveAll_DB _ _ _).trans ((zq_X2_moveAll_DB_0 _ _ _).trans q1))]
      exact ⟨N, K, rfl, q2, q3, q4⟩
  obtain ⟨N, K, q1, q2, q3, q4⟩ := mid
  obtain ⟨N2, r1, r2, r3⟩ := zdx_sds (J := K) hv (Int32.ofNat n) B.1.1 0 N _ (by omega) (zdXb_x hb q4) q2
  have hQ1 : zdQ B n (zd_for (zd_mv B n) B.1.2.2 0 x).1 := zd_for_ind (P := fun _ y => zdQ B n y.1) B.1.2.2 0 x hQ (fun q y _ _ hy => zdQ_mv hv.1 hy)
  have hQ2 : zdQ B n (zd_for (zd_sd B) B.1.1 0 (zd_for (zd_mv B n) B.1.2.2 0 x).1) := zd_for_ind (P := fun _ y => zdQ B n y) B.1.1 0 _ hQ1 (fun q y _ hq hy => zdQ_sd hv.1 (by omega) hy)
  obtain ⟨N3, s1, s2, s3⟩ := zdx_cms (J := K) hv hn B.1.1 0 N2 _ (by omega) (fun q _ _ h3 => by
    by_cases z : (zd_for (zd_sd B) B.1.1 0 (zd_for (zd_mv B n) B.1.2.2 0 x).1) q = -2
    · rw [z]
      decide
    · have := hQ2.2.1 q z
      omega) (zdXb_x (zdXb_x hb q4) r3) r2
  refine ⟨N3, K, ?_, s2, q3, zdXf_t q4 (zdXf_t r3 s3)⟩
  rw [q1, zq_X2_settle_DB_19]
  refine r1.trans ?_
  rw [zq_X2_settle_DB_51]
  exact s1
end ZDB
