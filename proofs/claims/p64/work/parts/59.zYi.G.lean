/-! A DAY OF THE CLASS, written down; today's day -/
def zd_fW : zm_L := [(.inr (.int, 305), [])]
section ZDG0
variable (I : Nat → Nat → Int32) (J : Nat → Nat → Int64)
noncomputable def zd_fV (pc : Nat) (ls : List (Option Value)) (M : zm_I) : zm_R := zm_V zT_J7_fill_53178 zd_fW (pc, ls, [], M)
theorem zd_f_0 (v : Int32) : zd_fV 0 [some (.ref 0), some (.int v), none, none] (I, J) = zd_fV 5 [some (.ref 0), some (.int v), some (.int 0), some (.int (Int32.ofNat 305))] (I, J) := zh_st (T := zT_J7_fill_53178) (wl := zd_fW) (S := (0, [some (.ref 0), some (.int v), none, none], [], (I, J))) (f := fun q => q (5, [some (.ref 0), some (.int v), some (.int 0), some (.int (Int32.ofNat 305))], [], (I, J))) (fun _ => rfl)
theorem zd_f_5 (v i n : Int32) : zd_fV 5 [some (.ref 0), some (.int v), some (.int i), some (.int n)] (I, J) = if n ≤ i then zd_fV 20 [some (.ref 0), some (.int v), some (.int i), some (.int n)] (I, J) else zd_fV 10 [some (.ref 0), some (.int v), some (.int i), some (.int n)] (I, J) := zh_st (T := zT_J7_fill_53178) (wl := zd_fW) (S := (5, [some (.ref 0), some (.int v), some (.int i), some (.int n)], [], (I, J))) (f := fun q => if n ≤ i then q (20, [some (.ref 0), some (.int v), some (.int i), some (.int n)], [], (I, J)) else q (10, [some (.ref 0), some (.int v), some (.int i), some (.int n)], [], (I, J))) (fun _ => rfl)
theorem zd_f_10 (v i n : Int32) : zd_fV 10 [some (.ref 0), some (.int v), some (.int i), some (.int n)] (I, J) = if i < 0 ∨ 305 ≤ i.toNatClampNeg then none else zd_fV 5 [some (.ref 0), some (.int v), some (.int (i + 1)), some (.int n)] (zm_w I 0 i.toNatClampNeg v, J) := zh_st (T := zT_J7_fill_53178) (wl := zd_fW) (S := (10, [some (.ref 0), some (.int v), some (.int i), some (.int n)], [], (I, J))) (f := fun q => if i < 0 ∨ 305 ≤ i.toNatClampNeg then none else q (5, [some (.ref 0), some (.int v), some (.int (i + 1)), some (.int n)], [], (zm_w I 0 i.toNatClampNeg v, J))) (fun _ => rfl)
theorem zd_f_20 (ls : List (Option Value)) : zd_fV 20 ls (I, J) = some (none, (I, J)) := zh_st (T := zT_J7_fill_53178) (wl := zd_fW) (S := (20, ls, [], (I, J))) (f := fun _ => some (none, (I, J))) (fun _ => rfl)
end ZDG0
theorem zd_fill5 (J : Nat → Nat → Int64) (v : Int32) : ∀ (d i : Nat) (I : Nat → Nat → Int32), i + d = 305 → ∃ N, zd_fV 5 [some (.ref 0), some (.int v), some (.int (Int32.ofNat i)), some (.int (Int32.ofNat 305))] (I, J) = some (none, (N, J)) ∧ (∀ q, i ≤ q → q < 305 → N 0 q = v) ∧ ∀ q, q < i → N 0 q = I 0 q := by
  intro d
  induction d with
  | zero =>
    intro i I h
    refine ⟨I, ?_, fun q h1 h2 => by omega, fun _ _ => rfl⟩
    rw [zd_f_5, if_pos ((zp_le (by omega) (by omega)).mpr (by omega)), zd_f_20]
  | succ d ih =>
    intro i I h
    obtain ⟨N, q1, q2, q3⟩ := ih (i + 1) (zm_w I 0 i v) (by omega)
    refine ⟨N, ?_, fun q h1 h2 => ?_, fun q hq => ?_⟩
    · rw [zd_f_5, if_neg (fun z => by have := (zp_le (by omega) (by omega)).mp z; omega), zd_f_10, if_neg (zp_in (by omega) (by omega)), zp_cl (by omega), zp_o1 (by omega)]
      exact q1
    · by_cases e : q = i
      · rw [q3 q (by omega), e, ze_wi]
      · exact q2 q (by omega) h2
    · rw [q3 q (by omega), ze_wj (by omega)]
theorem zd_fill (M : zm_I) : ∃ N, zF_J7_fill_53178 [(.inr (.int, 305), [])] [.ref 0, .int (-1)] M = some (none, (N, M.2)) ∧ ∀ q, q < 305 → N 0 q = -1 := by
  obtain ⟨N, q1, q2, -⟩ := zd_fill5 M.2 (-1) 305 0 M.1 rfl
  exact ⟨N, (zd_f_0 M.1 M.2 (-1)).trans q1, fun q hq => q2 q (Nat.zero_le q) hq⟩
theorem zd_i5 : ∀ m, m < 61 → ∀ c, c < 5 → (Int32.ofNat m * 5 + Int32.ofNat c : Int32) = Int32.ofNat (5 * m + c) := by decide +kernel
section ZDG
variable {B : zdB} {I N : Nat → Nat → Int32} {J : Nat → Nat → Int64} {p : Nat → Int}
theorem zdy_note2 (hC : B.1.1 ≤ 5) {m : Nat} (hm : m ≤ 60) (hp : ∀ c, -3 ≤ p c ∧ p c ≤ 5) : ∀ (d c : Nat) (I : Nat → Nat → Int32), c + d = B.1.1 → I 11 6 = Int32.ofNat B.1.1 → (∀ q, q < 5 → (I 2 q).toInt = p q) → (∀ q, 0 ≤ (I 3 q).toInt) → (∀ q, c ≤ q → q < 5 → I 9 (5 * m + q) = -1 ∧ I 10 (5 * m + q) = -1) → ∃ N, zv_X3_note_YB_2 I J (Int32.ofNat m) (Int32.ofNat c) = some (none, (N, J)) ∧ (∀ q, c ≤ q → q < B.1.1 → zdK p (N 9 (5 * m + q)) (N 10 (5 * m + q)) q) ∧ (∀ q r, q < 5 → (r ≠ m ∨ q < c) → N 9 (5 * r + q) = I 9 (5 * r + q) ∧ N 10 (5 * r + q) = I 10 (5 * r + q)) ∧ ∀ a b, a ≠ 9 → a ≠ 10 → N a b = I a b := by
  intro d
  induction d with
  | zero =>
    intro c I h hb hx hy hz
    refine ⟨I, ?_, fun q h1 h2 => by omega, fun _ _ _ _ => ⟨rfl, rfl⟩, fun _ _ _ _ => rfl⟩
    rw [zq_X3_note_YB_2, hb, if_pos ((zp_le (by omega) (by omega)).mpr (by omega)), zq_X3_note_YB_83]
  | succ d ih =>
    intro c I h hb hx hy hz
    have hnc : ¬ (Int32.ofNat B.1.1 : Int32) ≤ Int32.ofNat c := fun z => by have := (zp_le (by omega) (by omega)).mp z; omega
    have ix := zd_i5 m (by omega) c (by omega)
    have e2 : (I 2 c).toInt = p c := hx c (by omega)
    have r := hp c
    have y := hy c
    have go : ∀ (K : Nat → Nat → Int32), (∀ a b, a ≠ 9 → a ≠ 10 → K a b = I a b) → (∀ b, b ≠ 5 * m + c → K 9 b = I 9 b ∧ K 10 b = I 10 b) → zdK p (K 9 (5 * m + c)) (K 10 (5 * m + c)) c → ∃ N, zv_X3_note_YB_77 K J (Int32.ofNat m) (Int32.ofNat c) = some (none, (N, J)) ∧ (∀ q, c ≤ q → q < B.1.1 → zdK p (N 9 (5 * m + q)) (N 10 (5 * m + q)) q) ∧ (∀ q r, q < 5 → (r ≠ m ∨ q < c) → N 9 (5 * r + q) = I 9 (5 * r + q) ∧ N 10 (5 * r + q) = I 10 (5 * r + q)) ∧ ∀ a b, a ≠ 9 → a ≠ 10 → N a b = I a b := by
      intro K k1 k2 k3
      obtain ⟨N, q1, q2, q3, q4⟩ := ih (c + 1) K (by omega) (by rw [k1 11 6 (by decide) (by decide)]; exact hb) (fun q hq => by rw [k1 2 q (by decide) (by decide)]; exact hx q hq) (fun q => by rw [k1 3 q (by decide) (by decide)]; exact hy q) (fun q h1 h2 => by
        have w := k2 (5 * m + q) (by omega)
        rw [w.1, w.2]
        exact hz q (by omega) h2)
      refine ⟨N, ?_, fun q h1 h2 => ?_, fun q r hq hne => ?_, fun a b h1 h2 => (q4 a b h1 h2).trans (k1 a b h1 h2)⟩
      · rw [zq_X3_note_YB_77, zp_o1 (by omega)]
        exact q1
      · by_cases e : q = c
        · have w := q3 q m (by omega) (Or.inr (by omega))
          rw [w.1, w.2, e]
          exact k3
        · exact q2 q (by omega) h2
      · have w := q3 q r hq (by omega)
        have w2 := k2 (5 * r + q) (by omega)
        exact ⟨w.1.trans w2.1, w.2.trans w2.2⟩
    rw [zq_X3_note_YB_2, hb, if_neg hnc, zq_X3_note_YB_10, if_neg (zp_in (by omega) (by omega)), zp_cl (by omega)]
    by_cases c1 : p c < -1
    · rw [if_pos (by rw [ze_lt, e2, zh_m1]; exact c1)]
      have w := hz c (Nat.le_refl c) (by omega)
      refine go I (fun _ _ _ _ => rfl) (fun _ _ => ⟨rfl, rfl⟩) ⟨?_, ?_⟩
      · rw [w.2, if_neg (by omega)]
        exact zh_m1
      · rw [w.1]
        exact ⟨fun _ => c1, fun _ => zh_m1⟩
    · have k2 : ∀ v, zm_w I 9 (5 * m + c) v 2 c = I 2 c := fun v => ze_wo (by decide)
      rw [if_neg (by rw [ze_lt, e2, zh_m1]; exact c1), zq_X3_note_YB_23, if_neg (zp_in (by omega) (by omega)), ix, if_neg (zp_in (by omega) (by omega)), if_neg (zp_in (by omega) (by omega)), zp_cl (by omega), zp_cl (by omega), k2]
      have fin : ∀ s : Int32, s.toInt = (if 0 ≤ p c then p c else -1) → ∃ N, zv_X3_note_YB_76 (zm_w I 9 (5 * m + c) (I 3 c)) J (Int32.ofNat m) (Int32.ofNat c) s (Int32.ofNat (5 * m + c)) = some (none, (N, J)) ∧ (∀ q, c ≤ q → q < B.1.1 → zdK p (N 9 (5 * m + q)) (N 10 (5 * m + q)) q) ∧ (∀ q r, q < 5 → (r ≠ m ∨ q < c) → N 9 (5 * r + q) = I 9 (5 * r + q) ∧ N 10 (5 * r + q) = I 10 (5 * r + q)) ∧ ∀ a b, a ≠ 9 → a ≠ 10 → N a b = I a b := by
        intro s hs
        rw [zq_X3_note_YB_76, if_neg (zp_in (by omega) (by omega)), zp_cl (by omega)]
        refine go _ (fun a b h1 h2 => by rw [ze_wo h2, ze_wo h1]) (fun b hb2 => ⟨by rw [ze_wo (by decide), ze_wj hb2], by rw [ze_wj hb2, ze_wo (by decide)]⟩) ⟨?_, ?_⟩
        · rw [ze_wi]
          exact hs
        · rw [ze_wo (by decide), ze_wi]
          exact ⟨fun z => by omega, fun z => absurd z c1⟩
      by_cases c2 : p c < 0
      · rw [if_pos (by rw [ze_lt, e2, ze_i0]; exact c2), zq_X3_note_YB_75]
        exact fin (-1) (by rw [if_neg (by omega)]; exact zh_m1)
      · rw [if_neg (by rw [ze_lt, e2, ze_i0]; exact c2), zq_X3_note_YB_63, if_neg (zp_in (by omega) (by omega)), zp_cl (by omega), k2]
        exact fin (I 2 c) (by rw [if_pos (by omega)]; exact e2)
/-- the day in a diary's cells, and its bench -/
theorem zdy_s {n : Nat} (h : n < 18) (M N : zm_I) : (zm_sub2 [(1, 8), (11, 10)] (zm_mrg [(1, 8), (11, 10)] M N)).1 n = N.1 n ∧ (zm_sub2 [(1, 8), (11, 10)] (zm_mrg [(1, 8), (11, 10)] M N)).2 n = N.2 n := by
  match n, h with
  | 0, _ => exact ⟨rfl, rfl⟩
  | 1, _ => exact ⟨rfl, rfl⟩
  | 2, _ => exact ⟨rfl, rfl⟩
  | 3, _ => exact ⟨rfl, rfl⟩
  | 4, _ => exact ⟨rfl, rfl⟩
  | 5, _ => exact ⟨rfl, rfl⟩
  | 6, _ => exact ⟨rfl, rfl⟩
  | 7, _ => exact ⟨rfl, rfl⟩
  | 8, _ => exact ⟨rfl, rfl⟩
  | 9, _ => exact ⟨rfl, rfl⟩
  | 10, _ => exact ⟨rfl, rfl⟩
  | 11, _ => exact ⟨rfl, rfl⟩
  | 12, _ => exact ⟨rfl, rfl⟩
  | 13, _ => exact ⟨rfl, rfl⟩
  | 14, _ => exact ⟨rfl, rfl⟩
  | 15, _ => exact ⟨rfl, rfl⟩
  | 16, _ => exact ⟨rfl, rfl⟩
  | 17, _ => exact ⟨rfl, rfl⟩
  | n + 18, h => omega
theorem zdy_u {n : Nat} (h : n < 18) (M : zm_I) : (zm_sub2 [(1, 8), (11, 10)] M).1 n = M.1 (if n < 8 then 1 + n else 3 + n) ∧ (zm_sub2 [(1, 8), (11, 10)] M).2 n = M.2 (if n < 8 then 1 + n else 3 + n) := by
  match n, h with
  | 0, _ => exact ⟨rfl, rfl⟩
  | 1, _ => exact ⟨rfl, rfl⟩
  | 2, _ => exact ⟨rfl, rfl⟩
  | 3, _ => exact ⟨rfl, rfl⟩
  | 4, _ => exact ⟨rfl, rfl⟩
  | 5, _ => exact ⟨rfl, rfl⟩
  | 6, _ => exact ⟨rfl, rfl⟩
  | 7, _ => exact ⟨rfl, rfl⟩
  | 8, _ => exact ⟨rfl, rfl⟩
  | 9, _ => exact ⟨rfl, rfl⟩
  | 10, _ => exact ⟨rfl, rfl⟩
  | 11, _ => exact ⟨rfl, rfl⟩
  | 12, _ => exact ⟨rfl, rfl⟩
  | 13, _ => exact ⟨rfl, rfl⟩
  | 14, _ => exact ⟨rfl, rfl⟩
  | 15, _ => exact ⟨rfl, rfl⟩
  | 16, _ => exact ⟨rfl, rfl⟩
  | 17, _ => exact ⟨rfl, rfl⟩
  | n + 18, h => omega
theorem zo_l7 : zo_g7.length ≤ 18 := Nat.le_of_ble_eq_true (by decide +kernel)
theorem zdy_G {M N : zm_I} (h : ∀ n, n < 18 → M.1 n = N.1 n) (hG : zt_Gs zo_g7 N) : zt_Gs zo_g7 M := by
  intro n g hg i b hb
  have hn : n < 18 := Nat.lt_of_lt_of_le (List.getElem?_eq_some_iff.mp hg).1 zo_l7
  rw [h n hn]
  exact hG n g hg i b hb
theorem zdS_c {z : zdZ} {I N : Nat → Nat → Int32} {J K : Nat → Nat → Int64} (h : zdS B z I J) (h1 : ∀ n, n < 18 → N n = I n) (h2 : K 0 = J 0) : zdS B z N K := by
  obtain ⟨a, b, c, d, e, f, g⟩ := h
  refine ⟨?_, zdX_c b (fun q _ => by rw [h1 1 (by decide)]) (fun q _ => by rw [h1 7 (by decide)]), fun q hq => by rw [h1 5 (by decide)]; exact c q hq, fun q hq => by rw [h2]; exact d q hq, by rw [h1 0 (by decide)]; exact e, fun m hm hz k hk => f m hm (by rw [← h2]; exact hz) k hk, zdy_G (fun n hn => h1 n hn) g⟩
  obtain ⟨⟨a1, a2, a3, a4⟩, a5, a6, a7⟩ := a
  refine ⟨⟨by rw [h1 8 (by decide)]; exact a1, by rw [h1 8 (by decide)]; exact a2, by rw [h1 8 (by decide)]; exact a3, by rw [h1 8 (by decide)]; exact a4⟩, fun q hq => by rw [h1 11 (by decide)]; exact a5 q hq, fun q hq => by rw [h1 12 (by decide)]; exact a6 q hq, fun q hq => by rw [h1 15 (by decide), h1 16 (by decide), h1 17 (by decide)]; exact a7 q hq⟩
/-- what is written down up to minute n, and nothing behind -/
def zdL (B : zdB) (ms : Nat → Bool) (n : Nat) (I : Nat → Nat → Int32) : Prop := (∀ m, m < n → ∀ q, q < B.1.1 → zdK (zd_pl B ms m) (I 9 (5 * m + q)) (I 10 (5 * m + q)) q) ∧ ∀ m, n ≤ m → m ≤ 60 → ∀ q, q < 5 → I 9 (5 * m + q) = -1 ∧ I 10 (5 * m + q) = -1
theorem zdy_26 (hv : zdXv B) : ∀ (d n : Nat) (I : Nat → Nat → Int32) (J : Nat → Nat → Int64), n + d = 61 → zdS B (zd_st B (zd_bit 0) n) (zm_sub2 [(1, 8), (11, 10)] (I, J)).1 (zm_sub2 [(1, 8), (11, 10)] (I, J)).2 → zdL B (zd_bit 0) n I → ∃ N K, zv_X3_keep_YB_26 I J (Int32.ofNat n) = some (none, (N, K)) ∧ zdS B (zd_st B (zd_bit 0) 61) (zm_sub2 [(1, 8), (11, 10)] (N, K)).1 (zm_sub2 [(1, 8), (11, 10)] (N, K)).2 ∧ zdL B (zd_bit 0) 61 N ∧ N 0 1 = 1 ∧ ∀ a b, 11 ≤ a → N a b = I a b := by
  have e60 : (60 : Int32).toInt = 60 := by decide
  have hC := hv.1.1
  have stop : ∀ (I : Nat → Nat → Int32) (J : Nat → Nat → Int64) (l : Int32), zdS B (zd_st B (zd_bit 0) 61) (zm_sub2 [(1, 8), (11, 10)] (I, J)).1 (zm_sub2 [(1, 8), (11, 10)] (I, J)).2 → zdL B (zd_bit 0) 61 I → ∃ N K, zv_X3_keep_YB_77 I J l = some (none, (N, K)) ∧ zdS B (zd_st B (zd_bit 0) 61) (zm_sub2 [(1, 8), (11, 10)] (N, K)).1 (zm_sub2 [(1, 8), (11, 10)] (N, K)).2 ∧ zdL B (zd_bit 0) 61 N ∧ N 0 1 = 1 ∧ ∀ a b, 11 ≤ a → N a b = I a b := by
    intro I J l h1 h2
    refine ⟨zm_w I 0 1 1, J, zq_X3_keep_YB_77 _ _ _, zdS_c h1 (fun n hn => ?_) rfl, ⟨fun m hm q hq => ?_, fun m h1 h2 => by omega⟩, ze_wi, fun a b ha => ze_wo (by omega)⟩
    · rw [(zdy_u hn _).1, (zdy_u hn _).1]
      funext b
      exact ze_wo (by split <;> omega)
    · rw [ze_wo (by decide), ze_wo (by decide)]
      exact h2.1 m hm q hq
  intro d
  induction d with
  | zero =>
    intro n I J h hs hl
    have en : n = 61 := by omega
    subst en
    rw [zq_X3_keep_YB_26, if_pos (by rw [ze_lt, e60, zp_o (by omega)]; omega)]
    exact stop I J _ hs hl
  | succ d ih =>
    intro n I J h hs hl
    rw [zq_X3_keep_YB_26, if_neg (fun z => by rw [ze_lt, e60, zp_o (by omega)] at z; omega), zq_X3_keep_YB_32]
    by_cases c : I 11 6 ≤ I 1 7
    · obtain ⟨hd, hn1⟩ := zdS_dead hv (by omega) hs c
      have hd1 := (hd (61 - n)).1
      rw [show n + (61 - n) = 61 by omega] at hd1
      rw [if_pos c]
      refine stop I J _ (by rw [hd1]; exact hs) ⟨fun m hm q hq => ?_, fun m h1 h2 => by omega⟩
      by_cases e : m < n
      · exact hl.1 m e q hq
      · have w := hl.2 m (by omega) (by omega) q (by omega)
        have hp := (hd (m - n)).2
        rw [show n + (m - n) = m by omega] at hp
        have hlt := hn1 q
        rw [w.1, w.2, hp]
        refine ⟨?_, ?_⟩
        · rw [if_neg (by omega)]
          exact zh_m1
        · rw [zh_m1]
          exact ⟨fun _ => hlt, fun _ => rfl⟩
    · obtain ⟨N1, K1, q1, q2, q3⟩ := zdS_set hv (by omega) hs
      rw [if_neg c, zc_X3_keep_YB_46 _ _ _ q1]
      have o9 : ∀ a b, (a = 0 ∨ a = 9 ∨ a = 10) → (zm_mrg [(1, 8), (11, 10)] (I, J) (N1, K1)).1 a b = I a b := fun a b ha => by
        rcases ha with rfl | rfl | rfl <;> rfl
      have q3' : ∀ a b, 11 ≤ a → a ≤ 20 → (zm_mrg [(1, 8), (11, 10)] (I, J) (N1, K1)).1 a b = I a b := fun a b h1 h2 => by
        have u := fun n (hn : n < 18) => congrFun (zdy_u hn (I, J)).1 b
        have s := fun n (hn : n < 18) => congrFun (zdy_s hn (I, J) (N1, K1)).1 b
        have v := congrFun (zdy_u (n := a - 3) (by omega) (zm_mrg [(1, 8), (11, 10)] (I, J) (N1, K1))).1 b
        rw [if_neg (by omega), show 3 + (a - 3) = a by omega] at v
        have u2 := u (a - 3) (by omega)
        rw [if_neg (by omega), show 3 + (a - 3) = a by omega] at u2
        have w := q3 (a - 3) b (by omega) (by omega)
        rw [← v, s (a - 3) (by omega)]
        exact w.trans u2
      have q2' : zdS B ((zd_at B n (zd_st B (zd_bit 0) n)).1, (zd_st B (zd_bit 0) n).2.1, (zd_at B n (zd_st B (zd_bit 0) n)).2) (zm_sub2 [(1, 8), (11, 10)] (zm_mrg [(1, 8), (11, 10)] (I, J) (N1, K1))).1 (zm_sub2 [(1, 8), (11, 10)] (zm_mrg [(1, 8), (11, 10)] (I, J) (N1, K1))).2 := zdS_c q2 (fun n hn => (zdy_s hn (I, J) (N1, K1)).1) (zdy_s (n := 0) (by decide) (I, J) (N1, K1)).2
      have o21 : ∀ a b, 21 ≤ a → (zm_mrg [(1, 8), (11, 10)] (I, J) (N1, K1)).1 a b = I a b := fun a b ha => by
        have e : zm_in [(1, 8), (11, 10)] a = false := by
          simp only [zm_in, Bool.or_false, Bool.or_eq_false_iff, Bool.and_eq_false_iff]
          refine ⟨Or.inr ?_, Or.inr ?_⟩
          · cases z : Nat.ble (a + 1) (1 + 8) with
            | false => rfl
            | true => have := Nat.le_of_ble_eq_true z; omega
          · cases z : Nat.ble (a + 1) (11 + 10) with
            | false => rfl
            | true => have := Nat.le_of_ble_eq_true z; omega
        simp only [zm_mrg, e]
      generalize hM : zm_mrg [(1, 8), (11, 10)] (I, J) (N1, K1) = M1 at o9 q3' q2' o21
      have hpl : zd_pl B (zd_bit 0) n = (zd_at B n (zd_st B (zd_bit 0) n)).1 := rfl
      have hx := q2'.2.1
      have hC6 : M1.1 11 6 = Int32.ofNat B.1.1 := q2'.1.1.1
      obtain ⟨N2, r1, r2, r3, r4⟩ := zdy_note2 (J := M1.2) hC (show n ≤ 60 by omega) hx.2.2.1 B.1.1 0 M1.1 (by omega) hC6 hx.1 (fun q => by
        have g : (0 : Int) ≤ ((zm_sub2 [(1, 8), (11, 10)] M1).1 2 q).toInt ∧ ((zm_sub2 [(1, 8), (11, 10)] M1).1 2 q).toInt ≤ 99 := zh_ga (b := (.ofNat 0, .ofNat 99)) q2'.2.2.2.2.2.2 rfl q
        exact g.1) (fun q _ hq => by
        rw [o9 9 _ (by omega), o9 10 _ (by omega)]
        exact hl.2 n (Nat.le_refl n) (by omega) q hq)
      have q2'' : zdS B ((zd_at B n (zd_st B (zd_bit 0) n)).1, (zd_st B (zd_bit 0) n).2.1, (zd_at B n (zd_st B (zd_bit 0) n)).2) (zm_sub2 [(1, 8), (11, 10)] (N2, M1.2)).1 (zm_sub2 [(1, 8), (11, 10)] (N2, M1.2)).2 := zdS_c q2' (fun n hn => by
        rw [(zdy_u hn _).1, (zdy_u hn _).1]
        funext b
        exact r4 _ b (by split <;> omega) (by split <;> omega)) rfl
      obtain ⟨N3, K3, s1, s2, s3⟩ := zdS_fin hv (show n ≤ 60 by omega) q2''
      have f1 : zF_X3_note zW_YB [.ref 0, .ref 11, .int (Int32.ofNat n)] (M1.1, M1.2) = some (none, (N2, M1.2)) := (zf_X3_note_YB _ _ _).trans ((zq_X3_note_YB_0 _ _ _).trans r1)
      have t9 : ∀ a b, (a = 0 ∨ a = 9 ∨ a = 10) → (zm_mrg [(1, 8), (11, 10)] (N2, M1.2) (N3, K3)).1 a b = N2 a b := fun a b ha => by
        rcases ha with rfl | rfl | rfl <;> rfl
      have s2' : zdS B (zd_st B (zd_bit 0) (n + 1)) (zm_sub2 [(1, 8), (11, 10)] (zm_mrg [(1, 8), (11, 10)] (N2, M1.2) (N3, K3))).1 (zm_sub2 [(1, 8), (11, 10)] (zm_mrg [(1, 8), (11, 10)] (N2, M1.2) (N3, K3))).2 := zdS_c s2 (fun n hn => (zdy_s hn (N2, M1.2) (N3, K3)).1) (zdy_s (n := 0) (by decide) (N2, M1.2) (N3, K3)).2
      obtain ⟨N4, K4, t1, t2, t3, t4, t5⟩ := ih (n + 1) (zm_mrg [(1, 8), (11, 10)] (N2, M1.2) (N3, K3)).1 (zm_mrg [(1, 8), (11, 10)] (N2, M1.2) (N3, K3)).2 (by omega) s2' ⟨fun m hm q hq => by
        rw [t9 9 _ (by omega), t9 10 _ (by omega)]
        by_cases e : m = n
        · rw [e, hpl]
          exact r2 q (Nat.zero_le q) hq
        · have w := r3 q m (by omega) (Or.inl e)
          rw [w.1, w.2, o9 9 _ (by omega), o9 10 _ (by omega)]
          exact hl.1 m (by omega) q hq, fun m h1 h2 q hq => by
        have w := r3 q m hq (Or.inl (by omega))
        rw [t9 9 _ (by omega), t9 10 _ (by omega), w.1, w.2, o9 9 _ (by omega), o9 10 _ (by omega)]
        exact hl.2 m (by omega) h2 q hq⟩
      refine ⟨N4, K4, ?_, t2, t3, t4, fun a b ha => ?_⟩
      · rw [zc_X3_keep_YB_55 _ _ _ f1, zc_X3_keep_YB_61 _ _ _ s1, zq_X3_keep_YB_71, zp_o1 (by omega)]
        exact t1
      · rw [t5 a b ha]
        by_cases h20 : a ≤ 20
        · have v := congrFun (zdy_u (n := a - 3) (by omega) (zm_mrg [(1, 8), (11, 10)] (N2, M1.2) (N3, K3))).1 b
          rw [if_neg (by omega), show 3 + (a - 3) = a by omega] at v
          have u2 := congrFun (zdy_u (n := a - 3) (by omega) (N2, M1.2)).1 b
          rw [if_neg (by omega), show 3 + (a - 3) = a by omega] at u2
          have s := congrFun (zdy_s (n := a - 3) (by omega) (N2, M1.2) (N3, K3)).1 b
          have w := s3 (a - 3) b (by omega)
          rw [← v, s]
          show N3 (a - 3) b = _
          rw [w, u2]
          show N2 a b = _
          rw [r4 a b (by omega) (by omega), q3' a b ha h20]
        · have e : zm_in [(1, 8), (11, 10)] a = false := by
            simp only [zm_in, Bool.or_false, Bool.or_eq_false_iff, Bool.and_eq_false_iff]
            refine ⟨Or.inr ?_, Or.inr ?_⟩
            · cases z : Nat.ble (a + 1) (1 + 8) with
              | false => rfl
              | true => have := Nat.le_of_ble_eq_true z; omega
            · cases z : Nat.ble (a + 1) (11 + 10) with
              | false => rfl
              | true => have := Nat.le_of_ble_eq_true z; omega
          simp only [zm_mrg, e]
          show N2 a b = _
          rw [r4 a b (by omega) (by omega), o21 a b (by omega)]
end ZDG
