/-! CHANCE without machines: who goes in at a call, and sums over all ways to miss -/
section ZCA
variable {B : zdB} {ms ms' : Nat → Bool}
theorem zca_fin {n : Nat} {x : zdW} (h : 0 < n → n % B.2.2.2.2.2.2 = 0 → ms (n / B.2.2.2.2.2.2 - 1) = ms' (n / B.2.2.2.2.2.2 - 1)) : zd_fin B ms n x = zd_fin B ms' n x := by
  unfold zd_fin
  by_cases c : 0 < n ∧ n % B.2.2.2.2.2.2 = 0
  · rw [h c.1 c.2]
  · rw [if_neg (fun z => c ⟨z.1, z.2.1⟩), if_neg (fun z => c ⟨z.1, z.2.1⟩)]
/-- a call misses at which nobody is there: as one that is heard -/
theorem zca_finN {n : Nat} {x : zdW} (h : zd_ft B x.1 = -1) : zd_fin B ms n x = x := by
  unfold zd_fin
  rw [if_pos h]
  split <;> rfl
theorem zca_call {E n : Nat} (hE : 1 ≤ E) (h0 : 0 < n) (hn : n % E = 0) : ∃ j, n = (j + 1) * E ∧ n / E - 1 = j := by
  have h := Nat.div_add_mod n E
  rw [hn, Nat.add_zero] at h
  have h1 : n / E ≠ 0 := fun e => by
    rw [e] at h
    omega
  refine ⟨n / E - 1, ?_, rfl⟩
  rw [Nat.sub_add_cancel (Nat.pos_of_ne_zero h1), Nat.mul_comm]
  exact h.symm
/-- a day hangs on the calls behind it alone -/
theorem zca_dep (hE : 1 ≤ B.2.2.2.2.2.2) : ∀ n, (∀ j, (j + 1) * B.2.2.2.2.2.2 < n → ms j = ms' j) → zd_st B ms n = zd_st B ms' n
  | 0, _ => rfl
  | n + 1, h => by
    have ih := zca_dep hE n (fun j hj => h j (by omega))
    show zd_nx B ms n (zd_st B ms n) = zd_nx B ms' n (zd_st B ms' n)
    rw [ih]
    unfold zd_nx
    rw [zca_fin (ms := ms) (ms' := ms') (fun h0 hn => by
      obtain ⟨j, e1, e2⟩ := zca_call hE h0 hn
      rw [e2]
      exact h j (by omega))]
theorem zca_at (hE : 1 ≤ B.2.2.2.2.2.2) {n : Nat} (h : ∀ j, (j + 1) * B.2.2.2.2.2.2 < n → ms j = ms' j) : zd_pl B ms n = zd_pl B ms' n := by
  unfold zd_pl
  rw [zca_dep hE n h]
/-- who is called at call i, if anybody is there -/
def zca_W (B : zdB) (ms : Nat → Bool) (i : Nat) : Int := zd_ft B (zd_pl B ms ((i + 1) * B.2.2.2.2.2.2))
theorem zca_mono {E i j : Nat} (h : (j + 1) * E < (i + 1) * E) : j < i := by
  have := Nat.lt_of_mul_lt_mul_right h
  omega
theorem zca_W_dep (hE : 1 ≤ B.2.2.2.2.2.2) {i : Nat} (h : ∀ j, j < i → ms j = ms' j) : zca_W B ms i = zca_W B ms' i := by
  unfold zca_W
  rw [zca_at hE (fun j hj => h j (zca_mono hj))]
theorem zca_sit {C S : Nat} {c q : Nat} (hq : c ≠ q) : ∀ (k s : Nat) (p : Nat → Int), zd_sit C S p q k s c = p c
  | 0, _, _ => rfl
  | k + 1, s, p => by
    unfold zd_sit
    split
    · exact zd_up_o hq
    · exact zca_sit hq k _ p
theorem zca_set {n c : Nat} {x : zdP} (h : x.1 c = -3) (hn : B.2.1 c ≠ n) : (zd_set B n x).1 c = -3 := by
  have a1 : (zd_for (zd_mv B n) B.1.2.2 0 x).1 c = -3 := by
    refine zd_for_ind (P := fun _ (y : zdP) => y.1 c = -3) B.1.2.2 0 x h (fun q y _ _ hy => ?_)
    unfold zd_mv
    split
    · next z =>
      have hne : c ≠ B.2.2.2.1 q := fun e => by
        have := z.2.1
        rw [← e, hy] at this
        omega
      exact (zd_up_o hne).trans hy
    · exact hy
  have a2 : zd_for (zd_sd B) B.1.1 0 (zd_for (zd_mv B n) B.1.2.2 0 x).1 c = -3 := by
    refine zd_for_ind (P := fun _ (y : Nat → Int) => y c = -3) B.1.1 0 _ a1 (fun q y _ _ hy => ?_)
    unfold zd_sd
    split
    · next z =>
      have hne : c ≠ q := fun e => by
        rw [← e, hy] at z
        omega
      rw [zca_sit hne]
      exact hy
    · exact hy
  refine zd_for_ind (P := fun _ (y : Nat → Int) => y c = -3) B.1.1 0 _ a2 (fun q y _ _ hy => ?_)
  unfold zd_cm
  split
  · next z =>
    have hne : c ≠ q := fun e => by
      rw [← e] at z
      exact hn z
    rw [zca_sit hne, zd_up_o hne]
    exact hy
  · exact hy
/-- who has gone in is not there any more -/
theorem zca_gone (hB : zdV B) {c : Nat} : ∀ n, (zd_st B ms n).2.1 c ≠ -1 → (zd_st B ms n).1 c = -3
  | 0, h => absurd rfl h
  | n + 1, h => by
    have hI := zdI_st (ms := ms) hB n
    have hp : (zd_st B ms n).2.1 c ≠ -1 → (zd_at B n (zd_st B ms n)).1 c = -3 := fun h => by
      have g := zca_gone hB n h
      have hc := hI.2.1 c (by rw [g]; decide)
      exact zca_set (x := ((zd_st B ms n).1, (zd_st B ms n).2.2)) g (by omega)
    have e1 : (zd_st B ms (n + 1)).1 = (zd_fin B ms n ((zd_at B n (zd_st B ms n)).1, (zd_st B ms n).2.1)).1 := rfl
    have e2 : (zd_st B ms (n + 1)).2.1 = (zd_fin B ms n ((zd_at B n (zd_st B ms n)).1, (zd_st B ms n).2.1)).2 := rfl
    rw [e2] at h
    rw [e1]
    unfold zd_fin at h ⊢
    split
    · next z =>
      rw [if_pos z] at h
      split
      · next y =>
        rw [if_pos y] at h
        exact hp h
      · next y =>
        rw [if_neg y] at h
        by_cases e : c = (zd_ft B (zd_at B n (zd_st B ms n)).1).toNat
        · rw [← e]
          exact zd_up_i
        · have h : zd_up (zd_st B ms n).2.1 (zd_ft B (zd_at B n (zd_st B ms n)).1).toNat n c ≠ -1 := h
          rw [zd_up_o e] at h
          show zd_up (zd_at B n (zd_st B ms n)).1 _ (-3) c = -3
          rw [zd_up_o e]
          exact hp h
    · next z =>
      rw [if_neg z] at h
      exact hp h
theorem zca_goneW (hB : zdV B) {c i : Nat} (h : (zd_st B ms ((i + 1) * B.2.2.2.2.2.2)).2.1 c ≠ -1) : zca_W B ms i ≠ (c : Int) := by
  intro e
  have g := zca_gone hB _ h
  have hI := zdI_st (ms := ms) hB ((i + 1) * B.2.2.2.2.2.2)
  have hc := hI.2.1 c (by rw [g]; decide)
  have hp : zd_pl B ms ((i + 1) * B.2.2.2.2.2.2) c = -3 := zca_set (x := ((zd_st B ms ((i + 1) * B.2.2.2.2.2.2)).1, (zd_st B ms ((i + 1) * B.2.2.2.2.2.2)).2.2)) g (by omega)
  unfold zca_W at e
  rcases zd_ft_b B (zd_pl B ms ((i + 1) * B.2.2.2.2.2.2)) with h1 | ⟨-, -, h1⟩
  · omega
  · rw [e, show ((c : Int)).toNat = c from rfl, hp] at h1
    omega
theorem zca_still {n : Nat} (h : ¬ (0 < n ∧ n % B.2.2.2.2.2.2 = 0)) : (zd_st B ms (n + 1)).2.1 = (zd_st B ms n).2.1 := by
  show (zd_fin B ms n ((zd_at B n (zd_st B ms n)).1, (zd_st B ms n).2.1)).2 = _
  unfold zd_fin
  rw [if_neg (fun z => h ⟨z.1, z.2.1⟩)]
theorem zca_between {i : Nat} : ∀ d, d < B.2.2.2.2.2.2 → (zd_st B ms (i * B.2.2.2.2.2.2 + 1 + d)).2.1 = (zd_st B ms (i * B.2.2.2.2.2.2 + 1)).2.1
  | 0, _ => rfl
  | d + 1, h => by
    rw [show i * B.2.2.2.2.2.2 + 1 + (d + 1) = i * B.2.2.2.2.2.2 + 1 + d + 1 by omega, zca_still, zca_between d (by omega)]
    intro z
    have e : (i * B.2.2.2.2.2.2 + 1 + d) % B.2.2.2.2.2.2 = 1 + d := by
      rw [show i * B.2.2.2.2.2.2 + 1 + d = (1 + d) + i * B.2.2.2.2.2.2 by omega, Nat.add_mul_mod_self_right, Nat.mod_eq_of_lt (by omega)]
    omega
theorem zca_upto (hE : 1 ≤ B.2.2.2.2.2.2) (i : Nat) : (zd_st B ms ((i + 1) * B.2.2.2.2.2.2)).2.1 = (zd_st B ms (i * B.2.2.2.2.2.2 + 1)).2.1 := by
  have h := zca_between (B := B) (ms := ms) (i := i) (B.2.2.2.2.2.2 - 1) (by omega)
  rw [show i * B.2.2.2.2.2.2 + 1 + (B.2.2.2.2.2.2 - 1) = (i + 1) * B.2.2.2.2.2.2 by rw [Nat.succ_mul]; omega] at h
  exact h
/-- has c gone in at one of the first i calls -/
def zca_g (B : zdB) (ms : Nat → Bool) (i c : Nat) : Nat := if (zd_st B ms (i * B.2.2.2.2.2.2 + 1)).2.1 c = -1 then 0 else 1
theorem zca_step (hB : zdV B) (hE : 1 ≤ B.2.2.2.2.2.2) (i c : Nat) : zca_g B ms (i + 1) c = zca_g B ms i c + (if ms i = false ∧ zca_W B ms i = (c : Int) then 1 else 0) := by
  have hn : 0 < (i + 1) * B.2.2.2.2.2.2 := Nat.mul_pos (by omega) hE
  have hm : (i + 1) * B.2.2.2.2.2.2 % B.2.2.2.2.2.2 = 0 := Nat.mul_mod_left _ _
  have hd : (i + 1) * B.2.2.2.2.2.2 / B.2.2.2.2.2.2 - 1 = i := by rw [Nat.mul_div_cancel _ hE]; omega
  have hu := zca_upto (ms := ms) hE i
  have hW := zca_goneW (ms := ms) hB (c := c) (i := i)
  rw [hu] at hW
  have e2 : (zd_st B ms ((i + 1) * B.2.2.2.2.2.2 + 1)).2.1 = (zd_fin B ms ((i + 1) * B.2.2.2.2.2.2) (zd_pl B ms ((i + 1) * B.2.2.2.2.2.2), (zd_st B ms ((i + 1) * B.2.2.2.2.2.2)).2.1)).2 := rfl
  have eW : zd_ft B (zd_pl B ms ((i + 1) * B.2.2.2.2.2.2)) = zca_W B ms i := rfl
  unfold zca_g
  rw [e2, hu]
  by_cases a : ms i = false
  · have e3 : zd_fin B ms ((i + 1) * B.2.2.2.2.2.2) (zd_pl B ms ((i + 1) * B.2.2.2.2.2.2), (zd_st B ms (i * B.2.2.2.2.2.2 + 1)).2.1) = if zd_ft B (zd_pl B ms ((i + 1) * B.2.2.2.2.2.2)) = -1 then (zd_pl B ms ((i + 1) * B.2.2.2.2.2.2), (zd_st B ms (i * B.2.2.2.2.2.2 + 1)).2.1) else (zd_up (zd_pl B ms ((i + 1) * B.2.2.2.2.2.2)) (zd_ft B (zd_pl B ms ((i + 1) * B.2.2.2.2.2.2))).toNat (-3), zd_up (zd_st B ms (i * B.2.2.2.2.2.2 + 1)).2.1 (zd_ft B (zd_pl B ms ((i + 1) * B.2.2.2.2.2.2))).toNat ((i + 1) * B.2.2.2.2.2.2 : Nat)) := by
      unfold zd_fin
      rw [hd]
      exact if_pos ⟨hn, hm, a⟩
    rw [eW] at e3
    by_cases b : zca_W B ms i = -1
    · have hno : ¬ (ms i = false ∧ zca_W B ms i = (c : Int)) := fun z => by
        have := z.2
        omega
      rw [e3.trans (if_pos b), if_neg hno]
      exact (Nat.add_zero _).symm
    · rw [e3.trans (if_neg b)]
      by_cases d : zca_W B ms i = (c : Int)
      · have hg : (zd_st B ms (i * B.2.2.2.2.2.2 + 1)).2.1 c = -1 := Classical.byContradiction (fun h => hW h d)
        have hy : ms i = false ∧ zca_W B ms i = (c : Int) := ⟨a, d⟩
        rw [if_pos hg, if_pos hy, d]
        show (if zd_up (zd_st B ms (i * B.2.2.2.2.2.2 + 1)).2.1 c ((i + 1) * B.2.2.2.2.2.2 : Nat) c = -1 then 0 else 1) = 0 + 1
        rw [zd_up_i, if_neg (by omega)]
      · have hne : c ≠ (zca_W B ms i).toNat := fun e => by
          rcases zd_ft_b B (zd_pl B ms ((i + 1) * B.2.2.2.2.2.2)) with h1 | ⟨h1, -⟩
          · rw [eW] at h1
            exact b h1
          · rw [eW] at h1
            omega
        have hno : ¬ (ms i = false ∧ zca_W B ms i = (c : Int)) := fun z => d z.2
        rw [if_neg hno]
        show (if zd_up (zd_st B ms (i * B.2.2.2.2.2.2 + 1)).2.1 (zca_W B ms i).toNat ((i + 1) * B.2.2.2.2.2.2 : Nat) c = -1 then 0 else 1) = _
        rw [zd_up_o hne]
        exact (Nat.add_zero _).symm
  · have e3 : zd_fin B ms ((i + 1) * B.2.2.2.2.2.2) (zd_pl B ms ((i + 1) * B.2.2.2.2.2.2), (zd_st B ms (i * B.2.2.2.2.2.2 + 1)).2.1) = (zd_pl B ms ((i + 1) * B.2.2.2.2.2.2), (zd_st B ms (i * B.2.2.2.2.2.2 + 1)).2.1) := by
      unfold zd_fin
      rw [hd]
      exact if_neg (fun z => a z.2.2)
    have hno : ¬ (ms i = false ∧ zca_W B ms i = (c : Int)) := fun z => a z.1
    rw [e3, if_neg hno]
    exact (Nat.add_zero _).symm
theorem zca_g_dep (hE : 1 ≤ B.2.2.2.2.2.2) {i c : Nat} (h : ∀ j, j < i → ms j = ms' j) : zca_g B ms i c = zca_g B ms' i c := by
  unfold zca_g
  rw [zca_dep (ms := ms) (ms' := ms') hE (i * B.2.2.2.2.2.2 + 1) (fun j hj => h j (by
    have : (j + 1) * B.2.2.2.2.2.2 ≤ i * B.2.2.2.2.2.2 := by omega
    have := Nat.le_of_mul_le_mul_right this hE
    omega))]
theorem zca_g0 (c : Nat) (hE : 1 ≤ B.2.2.2.2.2.2) : zca_g B ms 0 c = 0 := by
  unfold zca_g
  rw [Nat.zero_mul, zca_still (by omega)]
  rfl
end ZCA
/-! SUMS -/
def zca_S (F : Nat → Nat) : Nat → Nat
  | 0 => 0
  | n + 1 => zca_S F n + F n
theorem zca_S_c {F G : Nat → Nat} : ∀ n, (∀ x, x < n → F x = G x) → zca_S F n = zca_S G n
  | 0, _ => rfl
  | n + 1, h => by
    show zca_S F n + F n = zca_S G n + G n
    rw [zca_S_c n (fun x hx => h x (by omega)), h n (by omega)]
theorem zca_S_add (F G : Nat → Nat) : ∀ n, zca_S (fun x => F x + G x) n = zca_S F n + zca_S G n
  | 0 => rfl
  | n + 1 => by
    show zca_S (fun x => F x + G x) n + (F n + G n) = zca_S F n + F n + (zca_S G n + G n)
    rw [zca_S_add F G n]
    omega
theorem zca_S_mul (a : Nat) (F : Nat → Nat) : ∀ n, zca_S (fun x => a * F x) n = a * zca_S F n
  | 0 => rfl
  | n + 1 => by
    show zca_S (fun x => a * F x) n + a * F n = a * (zca_S F n + F n)
    rw [zca_S_mul a F n, Nat.mul_add]
theorem zca_S_app (F : Nat → Nat) (n : Nat) : ∀ m, zca_S F (n + m) = zca_S F n + zca_S (fun x => F (n + x)) m
  | 0 => rfl
  | m + 1 => by
    show zca_S F (n + m) + F (n + m) = zca_S F n + (zca_S (fun x => F (n + x)) m + F (n + m))
    rw [zca_S_app F n m]
    omega
theorem zca_S_two (F : Nat → Nat) : ∀ n, zca_S F (2 * n) = zca_S (fun y => F (2 * y) + F (2 * y + 1)) n
  | 0 => rfl
  | n + 1 => by
    rw [show 2 * (n + 1) = 2 * n + 1 + 1 by omega]
    show zca_S F (2 * n) + F (2 * n) + F (2 * n + 1) = zca_S (fun y => F (2 * y) + F (2 * y + 1)) n + (F (2 * n) + F (2 * n + 1))
    rw [zca_S_two F n]
    omega
/-- a way to miss, as bits; its weight -/
def zca_ms (x : Nat) : Nat → Bool := fun j => x.testBit j
def zca_w (o h : Nat) : Nat → Nat → Nat
  | 0, _ => 1
  | k + 1, x => zca_w o h k x * (if x.testBit k = true then o else h)
theorem zca_w_c {o h : Nat} {x y : Nat} : ∀ k, (∀ j, j < k → x.testBit j = y.testBit j) → zca_w o h k x = zca_w o h k y
  | 0, _ => rfl
  | k + 1, hh => by
    unfold zca_w
    rw [zca_w_c k (fun j hj => hh j (by omega)), hh k (by omega)]
theorem zca_bitO {x k : Nat} (hx : x < 2 ^ k) : (2 ^ k + x).testBit k = true := by rw [Nat.testBit_two_pow_add_eq, Nat.testBit_lt_two_pow hx]; rfl
theorem zca_bitL {x k j : Nat} (hj : j < k) : (2 ^ k + x).testBit j = x.testBit j := Nat.testBit_two_pow_add_gt hj x
/-- the sum over all ways of the first k calls -/
def zca_T (o h k : Nat) (F : Nat → Nat) : Nat := zca_S (fun x => zca_w o h k x * F x) (2 ^ k)
theorem zca_T_c {o h k : Nat} {F G : Nat → Nat} (hF : ∀ x, x < 2 ^ k → F x = G x) : zca_T o h k F = zca_T o h k G := zca_S_c _ (fun x hx => by rw [hF x hx])
theorem zca_T_add (o h k : Nat) (F G : Nat → Nat) : zca_T o h k (fun x => F x + G x) = zca_T o h k F + zca_T o h k G := by
  unfold zca_T
  rw [← zca_S_add]
  exact zca_S_c _ (fun x _ => Nat.mul_add _ _ _)
theorem zca_T_mul (o h k a : Nat) (F : Nat → Nat) : zca_T o h k (fun x => a * F x) = a * zca_T o h k F := by
  unfold zca_T
  rw [← zca_S_mul]
  exact zca_S_c _ (fun x _ => by rw [Nat.mul_left_comm])
/-- by the last call -/
theorem zca_T_last (o h k : Nat) (F : Nat → Nat) : zca_T o h (k + 1) F = zca_T o h k (fun x => h * F x + o * F (2 ^ k + x)) := by
  unfold zca_T
  rw [show 2 ^ (k + 1) = 2 ^ k + 2 ^ k by rw [Nat.pow_succ]; omega, zca_S_app, ← zca_S_add]
  refine zca_S_c _ (fun x hx => ?_)
  have w1 : zca_w o h (k + 1) x = zca_w o h k x * h := by
    show zca_w o h k x * (if x.testBit k = true then o else h) = _
    rw [Nat.testBit_lt_two_pow hx, if_neg (by decide)]
  have w2 : zca_w o h (k + 1) (2 ^ k + x) = zca_w o h k x * o := by
    show zca_w o h k (2 ^ k + x) * (if (2 ^ k + x).testBit k = true then o else h) = _
    rw [zca_bitO hx, if_pos rfl, zca_w_c (x := 2 ^ k + x) (y := x) k (fun j hj => zca_bitL hj)]
  show zca_w o h (k + 1) x * F x + zca_w o h (k + 1) (2 ^ k + x) * F (2 ^ k + x) = zca_w o h k x * (h * F x + o * F (2 ^ k + x))
  rw [w1, w2, Nat.mul_add, Nat.mul_assoc, Nat.mul_assoc]
/-- by the first call: x is behind those that were -/
theorem zca_w_first (o h : Nat) : ∀ (r y : Nat) (b : Bool), zca_w o h (r + 1) (2 * y + b.toNat) = (if b = true then o else h) * zca_w o h r y
  | 0, y, b => by
    unfold zca_w zca_w
    have : (2 * y + b.toNat).testBit 0 = b := by
      rw [Nat.testBit_zero]
      cases b
      · exact decide_eq_false (by show ¬ (2 * y + 0) % 2 = 1; omega)
      · exact decide_eq_true (by show (2 * y + 1) % 2 = 1; omega)
    rw [this, Nat.one_mul, Nat.mul_one]
  | r + 1, y, b => by
    have e : zca_w o h (r + 1 + 1) (2 * y + b.toNat) = zca_w o h (r + 1) (2 * y + b.toNat) * (if (2 * y + b.toNat).testBit (r + 1) = true then o else h) := rfl
    have e2 : (2 * y + b.toNat).testBit (r + 1) = y.testBit r := by
      rw [Nat.testBit_succ]
      congr 1
      cases b
      · show (2 * y + 0) / 2 = y
        omega
      · show (2 * y + 1) / 2 = y
        omega
    rw [e, zca_w_first o h r y b, e2, Nat.mul_assoc]
    rfl
def zca_Q (o h : Nat) (G : Nat → Nat) (i x r : Nat) : Nat := zca_T o h r (fun y => G (x + 2 ^ i * y))
theorem zca_Q_0 (o h : Nat) (G : Nat → Nat) (i x : Nat) : zca_Q o h G i x 0 = G x := by
  show 0 + 1 * G (x + 2 ^ i * 0) = G x
  rw [Nat.mul_zero, Nat.add_zero, Nat.one_mul, Nat.zero_add]
theorem zca_Q_s (o h : Nat) (G : Nat → Nat) (i x r : Nat) : zca_Q o h G i x (r + 1) = h * zca_Q o h G (i + 1) x r + o * zca_Q o h G (i + 1) (x + 2 ^ i) r := by
  unfold zca_Q zca_T
  rw [show 2 ^ (r + 1) = 2 * 2 ^ r by rw [Nat.pow_succ]; omega, zca_S_two, ← zca_S_mul, ← zca_S_mul, ← zca_S_add]
  refine zca_S_c _ (fun y _ => ?_)
  have a0 := zca_w_first o h r y false
  have a1 := zca_w_first o h r y true
  have a0 : zca_w o h (r + 1) (2 * y) = h * zca_w o h r y := a0
  have a1 : zca_w o h (r + 1) (2 * y + 1) = o * zca_w o h r y := a1
  show zca_w o h (r + 1) (2 * y) * G (x + 2 ^ i * (2 * y)) + zca_w o h (r + 1) (2 * y + 1) * G (x + 2 ^ i * (2 * y + 1)) = h * (zca_w o h r y * G (x + 2 ^ (i + 1) * y)) + o * (zca_w o h r y * G (x + 2 ^ i + 2 ^ (i + 1) * y))
  rw [a0, a1, show 2 ^ i * (2 * y) = 2 ^ (i + 1) * y by rw [Nat.pow_succ, Nat.mul_assoc], show 2 ^ i * (2 * y + 1) = 2 ^ i + 2 ^ (i + 1) * y by rw [Nat.mul_add, Nat.mul_one, Nat.add_comm, ← Nat.mul_assoc, ← Nat.pow_succ], ← Nat.add_assoc, Nat.mul_assoc, Nat.mul_assoc]
/-- gone in by k calls: of ten to the k -/
theorem zca_main {B : zdB} (hB : zdV B) (hE : 1 ≤ B.2.2.2.2.2.2) {o h : Nat} (ho : h + o = 10) (k c : Nat) : zca_T o h (k + 1) (fun x => zca_g B (zca_ms x) (k + 1) c) = 10 * zca_T o h k (fun x => zca_g B (zca_ms x) k c) + h * zca_T o h k (fun x => if zca_W B (zca_ms x) k = (c : Int) then 1 else 0) := by
  rw [zca_T_last, ← zca_T_mul, ← zca_T_mul, ← zca_T_add]
  refine zca_T_c (fun x hx => ?_)
  have d1 : zca_g B (zca_ms (2 ^ k + x)) k c = zca_g B (zca_ms x) k c := zca_g_dep hE (fun j hj => zca_bitL hj)
  have b0 : zca_ms x k = false := Nat.testBit_lt_two_pow hx
  have b1 : zca_ms (2 ^ k + x) k = true := zca_bitO hx
  have s0 := zca_step (ms := zca_ms x) hB hE k c
  have s1 := zca_step (ms := zca_ms (2 ^ k + x)) hB hE k c
  have hno : ¬ (zca_ms (2 ^ k + x) k = false ∧ zca_W B (zca_ms (2 ^ k + x)) k = (c : Int)) := fun z => by
    have := z.1
    rw [b1] at this
    cases this
  rw [if_neg hno, d1] at s1
  have s1 := s1.trans (Nat.add_zero _)
  rw [s0, s1]
  by_cases d : zca_W B (zca_ms x) k = (c : Int)
  · rw [if_pos ⟨b0, d⟩, if_pos d, Nat.mul_add, ← ho, Nat.add_mul]
    omega
  · have hn2 : ¬ (zca_ms x k = false ∧ zca_W B (zca_ms x) k = (c : Int)) := fun z => d z.2
    rw [if_neg hn2, if_neg d, ← ho, Nat.add_mul]
    exact (Nat.add_zero _).symm
