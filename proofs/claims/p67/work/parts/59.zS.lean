/-! WHAT IS KEPT BESIDE: the tape, the fault, the benches -/
def zR_v (ks : List Nat) (k : Nat) : Int := match zK_ix ks k with
  | some _ => 1
  | none => 0
def zR_M (M : zm_I) : Nat → Nat → Int32 := fun n => M.1 (165 + n)
def zR_t (I I' : Nat → Nat → Int32) : Prop := I 51 1 = I' 0 6 ∧ (∀ i : Nat, (i : Int) < (I 51 1).toInt → zp_sg (I' 5 i).toInt (I 52 i).toInt) ∧ I 51 2 = I' 0 14 ∧ I 51 3 = I' 0 15
def zR (ks : List Nat) (M : zm_I) : Prop := zR_t M.1 (zR_M M) ∧ zqC 1 0 M.1 (zR_M M) ∧ (∀ k i, k < 3 → zK_ix ks k = some i → zqC (196 + 10 * i) (k + 1) M.1 (zR_M M)) ∧ ∀ k, k < 3 → (M.1 176 k).toInt = zR_v ks k
/-- a bench of the class as another -/
def zR_x (a a2 : Nat) (I I2 : Nat → Nat → Int32) : Prop := (∀ j, j < 8 → I2 a2 j = I a j) ∧ (∀ b, b < 6 → I2 (a2 + 1) b = I (a + 1) b) ∧ (∀ c, c < 5 → I2 (a2 + 2) c = I (a + 2) c ∧ I2 (a2 + 3) c = I (a + 3) c ∧ I2 (a2 + 4) c = I (a + 4) c ∧ I2 (a2 + 5) c = I (a + 5) c ∧ I2 (a2 + 6) c = I (a + 6) c) ∧ ∀ k : Nat, k < 40 → (k : Int) < (I a 7).toInt → I2 (a2 + 7) k = I (a + 7) k ∧ I2 (a2 + 8) k = I (a + 8) k ∧ I2 (a2 + 9) k = I (a + 9) k
theorem zR_q {a a2 s s2 : Nat} {I I2 I' I2' : Nat → Nat → Int32} (h : zqC a s I I') (hx : zR_x a a2 I I2) (hy : zR_y s s2 I' I2') : zqC a2 s2 I2 I2' := by
  obtain ⟨⟨h1, h2, h3, ⟨h4, h5, h6⟩, h7, h8⟩, ⟨h9, h10, h10a, h10b⟩, h11, h12⟩ := h
  obtain ⟨x, xb, xc, xd⟩ := hx
  obtain ⟨y0, yb, yc, yd, ye⟩ := hy
  have x5 := x 5 (by decide)
  have x6 := x 6 (by decide)
  have x7 := x 7 (by decide)
  refine ⟨⟨?_, ?_, ?_, ⟨?_, ?_, ?_⟩, fun j hj hl => ?_, fun c hc hl => ?_⟩, ⟨?_, ?_, ?_, ?_⟩, fun c hc hl => ?_, fun k hk hl => ?_⟩
  · rw [x 0 (by decide), y0, h1]
  · rw [x5, yb 4 (by decide), h2]
  · rw [x6, yb 5 (by decide), h3]
  · have := yb 0 (by decide)
    rw [Nat.add_zero, Nat.add_zero] at this
    rw [x 1 (by decide), this, h4]
  · rw [x 3 (by decide), yb 2 (by decide), h5]
  · rw [x 4 (by decide), yb 3 (by decide), h6]
  · rw [x5] at hl
    rw [xb j hj, yc j hj]
    exact h7 j hj hl
  · rw [x6] at hl
    obtain ⟨c2, c3, c4, c5, c6⟩ := xc c hc
    have e : ∀ q, q < 5 → I2' 9 (25 * s2 + 5 * c + q) = I' 9 (25 * s + 5 * c + q) := fun q hq => by
      have := yd (5 * c + q) (by omega)
      rw [← Nat.add_assoc, ← Nat.add_assoc] at this
      exact this
    have e0 := e 0 (by decide)
    rw [Nat.add_zero, Nat.add_zero] at e0
    rw [c2, c3, c4, c5, c6, e0, e 1 (by decide), e 2 (by decide), e 3 (by decide), e 4 (by decide)]
    exact h8 c hc hl
  · rw [x 2 (by decide), yb 1 (by decide), h9]
  · rw [x7, yb 6 (by decide), h10]
  · rw [x7]; exact h10a
  · rw [x7]; exact h10b
  · rw [x6] at hl
    obtain ⟨-, -, c4, -, -⟩ := xc c hc
    rw [c4, x5]
    exact h11 c hc hl
  · rw [x7] at hl
    obtain ⟨d7, d8, d9⟩ := xd k hk hl
    have e : ∀ q, q < 3 → I2' 10 (120 * s2 + 3 * k + q) = I' 10 (120 * s + 3 * k + q) := fun q hq => by
      have := ye (3 * k + q) (by omega)
      rw [← Nat.add_assoc, ← Nat.add_assoc] at this
      exact this
    have e0 := e 0 (by decide)
    rw [Nat.add_zero, Nat.add_zero] at e0
    rw [d7, d8, d9, e0, e 1 (by decide), e 2 (by decide)]
    exact h12 k hk hl
theorem zR_xr {a : Nat} {I I2 : Nat → Nat → Int32} (h : ∀ q b, q ≤ 9 → I2 (a + q) b = I (a + q) b) : zR_x a a I I2 :=
  ⟨fun j _ => h 0 j (by decide), fun b _ => h 1 b (by decide), fun c _ => ⟨h 2 c (by decide), h 3 c (by decide), h 4 c (by decide), h 5 c (by decide), h 6 c (by decide)⟩, fun k _ _ => ⟨h 7 k (by decide), h 8 k (by decide), h 9 k (by decide)⟩⟩
/-- what a call may not write -/
def zR_rw (W : zt_W) (n : Nat) : Bool := !W.any (fun w => Nat.beq w.1 n)
theorem zR_rn {W : zt_W} {n : Nat} (h : zR_rw W n = true) (b : Nat) : zt_hit W n b = false := zt_hit_no (by unfold zR_rw at h; rw [Bool.not_eq_true'] at h; exact h) b
def zR_no (W : zt_W) (n : Nat) (l : List Nat) : Bool := l.all (fun b => !zt_hit W n b)
theorem zR_nn {W : zt_W} {n : Nat} {l : List Nat} (h : zR_no W n l = true) : ∀ b, b ∈ l → zt_hit W n b = false := fun b hb => by
  have := List.all_eq_true.mp h b hb
  rw [Bool.not_eq_true'] at this
  exact this
def zR_hB (W : zt_W) : Bool := [2, 3, 4, 5, 6, 7, 8, 9, 10].all (zR_rw W) && zR_no W 1 (List.range 8)
def zR_hT (W : zt_W) : Bool := zR_rw W 52 && zR_no W 51 [1, 2, 3]
def zR_hS (W : zt_W) : Bool := [8, 9, 10].all (zR_rw W) && zR_no W 6 (List.range 4) && zR_no W 7 (List.range 28)
def zR_hU (W : zt_W) : Bool := zR_rw W 5 && zR_no W 0 [6, 14, 15]
theorem zR_fb {W : zt_W} (hw : zR_hB W = true) {M N : zm_I} (f : zt_fr W M N) : zR_x 1 1 M.1 N.1 := by
  unfold zR_hB at hw
  simp only [Bool.and_eq_true] at hw
  obtain ⟨w2, w1⟩ := hw
  have w1 := zR_nn w1
  have r : ∀ n b, n ∈ [2, 3, 4, 5, 6, 7, 8, 9, 10] → N.1 n b = M.1 n b := fun n b hn => (f n b (zR_rn (List.all_eq_true.mp w2 n hn) b)).1
  exact ⟨fun j hj => (f 1 j (w1 j (List.mem_range.mpr hj))).1, fun b _ => r 2 b (by decide), fun c _ => ⟨r 3 c (by decide), r 4 c (by decide), r 5 c (by decide), r 6 c (by decide), r 7 c (by decide)⟩, fun k _ _ => ⟨r 8 k (by decide), r 9 k (by decide), r 10 k (by decide)⟩⟩
theorem zR_ft {W : zt_W} (hw : zR_hT W = true) {M N : zm_I} (f : zt_fr W M N) : (N.1 51 1 = M.1 51 1 ∧ N.1 51 2 = M.1 51 2 ∧ N.1 51 3 = M.1 51 3) ∧ ∀ i, N.1 52 i = M.1 52 i := by
  unfold zR_hT at hw
  simp only [Bool.and_eq_true] at hw
  have w1 := zR_nn hw.2
  exact ⟨⟨(f 51 1 (w1 1 (by decide))).1, (f 51 2 (w1 2 (by decide))).1, (f 51 3 (w1 3 (by decide))).1⟩, fun i => (f 52 i (zR_rn hw.1 i)).1⟩
theorem zR_fs {W : zt_W} (hw : zR_hS W = true) {M N : zm_I} (f : zt_fr W M N) : ∀ s, s < 4 → zR_y s s M.1 N.1 := by
  unfold zR_hS at hw
  simp only [Bool.and_eq_true] at hw
  obtain ⟨⟨w8, w6⟩, w7⟩ := hw
  have w6 := zR_nn w6
  have w7 := zR_nn w7
  have r : ∀ n b, n ∈ [8, 9, 10] → N.1 n b = M.1 n b := fun n b hn => (f n b (zR_rn (List.all_eq_true.mp w8 n hn) b)).1
  intro s hs
  exact ⟨(f 6 s (w6 s (List.mem_range.mpr hs))).1, fun b hb => (f 7 _ (w7 _ (List.mem_range.mpr (by omega)))).1, fun b _ => r 8 _ (by decide), fun b _ => r 9 _ (by decide), fun b _ => r 10 _ (by decide)⟩
theorem zR_fu {W : zt_W} (hw : zR_hU W = true) {M N : zm_I} (f : zt_fr W M N) : (N.1 0 6 = M.1 0 6 ∧ N.1 0 14 = M.1 0 14 ∧ N.1 0 15 = M.1 0 15) ∧ ∀ i, N.1 5 i = M.1 5 i := by
  unfold zR_hU at hw
  simp only [Bool.and_eq_true] at hw
  have w1 := zR_nn hw.2
  exact ⟨⟨(f 0 6 (w1 6 (by decide))).1, (f 0 14 (w1 14 (by decide))).1, (f 0 15 (w1 15 (by decide))).1⟩, fun i => (f 5 i (zR_rn hw.1 i)).1⟩
theorem zR_xc {a a2 : Nat} {I I2 K K2 : Nat → Nat → Int32} (h : zR_x a a2 I I2) (e : ∀ q b, q ≤ 9 → K (a + q) b = I (a + q) b) (e2 : ∀ q b, q ≤ 9 → K2 (a2 + q) b = I2 (a2 + q) b) : zR_x a a2 K K2 := by
  obtain ⟨x, xb, xc, xd⟩ := h
  have z : ∀ b, K a b = I a b := fun b => e 0 b (by decide)
  have z2 : ∀ b, K2 a2 b = I2 a2 b := fun b => e2 0 b (by decide)
  refine ⟨fun j hj => (z2 j).trans ((x j hj).trans (z j).symm), fun b hb => (e2 1 b (by decide)).trans ((xb b hb).trans (e 1 b (by decide)).symm), fun c hc => ?_, fun k hk hl => ?_⟩
  · obtain ⟨c2, c3, c4, c5, c6⟩ := xc c hc
    exact ⟨(e2 2 c (by decide)).trans (c2.trans (e 2 c (by decide)).symm), (e2 3 c (by decide)).trans (c3.trans (e 3 c (by decide)).symm), (e2 4 c (by decide)).trans (c4.trans (e 4 c (by decide)).symm), (e2 5 c (by decide)).trans (c5.trans (e 5 c (by decide)).symm), (e2 6 c (by decide)).trans (c6.trans (e 6 c (by decide)).symm)⟩
  · rw [z 7] at hl
    obtain ⟨d7, d8, d9⟩ := xd k hk hl
    exact ⟨(e2 7 k (by decide)).trans (d7.trans (e 7 k (by decide)).symm), (e2 8 k (by decide)).trans (d8.trans (e 8 k (by decide)).symm), (e2 9 k (by decide)).trans (d9.trans (e 9 k (by decide)).symm)⟩
theorem zR_yr' {s : Nat} {I I2 : Nat → Nat → Int32} (h : ∀ n b, n < 31 → I2 n b = I n b) : zR_y s s I I2 := ⟨h _ _ (by decide), fun _ _ => h _ _ (by decide), fun _ _ => h _ _ (by decide), fun _ _ => h _ _ (by decide), fun _ _ => h _ _ (by decide)⟩
theorem zR_yc {s s2 : Nat} {I I2 K K2 : Nat → Nat → Int32} (h : zR_y s s2 I I2) (e : ∀ n b, n < 31 → K n b = I n b) (e2 : ∀ n b, n < 31 → K2 n b = I2 n b) : zR_y s s2 K K2 := ⟨(e2 _ _ (by decide)).trans (h.1.trans (e _ _ (by decide)).symm), fun b hb => (e2 _ _ (by decide)).trans ((h.2.1 b hb).trans (e _ _ (by decide)).symm), fun b hb => (e2 _ _ (by decide)).trans ((h.2.2.1 b hb).trans (e _ _ (by decide)).symm), fun b hb => (e2 _ _ (by decide)).trans ((h.2.2.2.1 b hb).trans (e _ _ (by decide)).symm), fun b hb => (e2 _ _ (by decide)).trans ((h.2.2.2.2 b hb).trans (e _ _ (by decide)).symm)⟩
section ZRS
variable {ks : List Nat} {M N1 N2 : zm_I} {I I' : Nat → Nat → Int32}
theorem zR_S {n : Nat} (h : n < 164) (b : Nat) : (zm_sub2 [(0, 164)] M).1 n b = M.1 n b := by
  have e := (zy_s1 (a := 0) h M).1
  rw [Nat.zero_add] at e
  rw [e]
theorem zR_T {n : Nat} (h : n < 31) (b : Nat) : (zm_sub2 [(165, 31)] (zm_mrg [(0, 164)] M N1)).1 n b = zR_M M n b := by
  rw [(zy_1M h M N1).1, (zy_s1 (a := 165) h M).1]
  rfl
theorem zR_T1 {M1 : zm_I} {n : Nat} (h : n < 31) (b : Nat) : (zm_sub2 [(165, 31)] M1).1 n b = zR_M M1 n b := by
  rw [(zy_s1 (a := 165) h M1).1]
  rfl
theorem zR_bd (hI : zy_I ks M) : (0 : Int) ≤ (M.1 51 1).toInt ∧ (M.1 51 1).toInt ≤ 800 := by
  have h : (0 : Int) ≤ ((zm_sub2 [(0, 164)] M).1 51 1).toInt ∧ ((zm_sub2 [(0, 164)] M).1 51 1).toInt ≤ 800 := hI.1 51 _ rfl 1 _ rfl
  rw [zR_S (by decide)] at h
  exact h
theorem zR_2x {n : Nat} (h : n < 164) (b : Nat) : (zy_2 M N1 N2).1 n b = N1.1 n b := by rw [(zy_2X h M N1 N2).1]
theorem zR_2m {n : Nat} (h : n < 31) (b : Nat) : zR_M (zy_2 M N1 N2) n b = N2.1 n b := by
  show (zy_2 M N1 N2).1 (165 + n) b = _
  rw [(zy_2M h M N1 N2).1]
theorem zR_2o {n : Nat} (h : 196 ≤ n) (b : Nat) : (zy_2 M N1 N2).1 n b = M.1 n b := by
  have e := ((zy_m0 (a := 165) (z := 31) (n := n) (by omega) (zm_mrg [(0, 164)] M N1) N2).1).trans (zy_m0 (a := 0) (z := 164) (n := n) (by omega) M N1).1
  show (zm_mrg [(165, 31)] (zm_mrg [(0, 164)] M N1) N2).1 n b = _
  rw [e]
/-- from today's bench, the slots, the tape and what is kept: the whole -/
theorem zR_of (hR : zR ks M) {M2 : zm_I} (hq : zqC 1 0 M2.1 (zR_M M2)) (hm : ∀ s, 1 ≤ s → s < 4 → zR_y s s (zR_M M) (zR_M M2)) (ht : zR_t M2.1 (zR_M M2)) (hi : ∀ n b, 196 ≤ n → M2.1 n b = M.1 n b) (hk : ∀ k, k < 3 → M2.1 176 k = M.1 176 k) : zR ks M2 :=
  ⟨ht, hq, fun k i hk3 hix => zR_q (hR.2.2.1 k i hk3 hix) (zR_xr (fun q b _ => hi _ b (by omega))) (hm (k + 1) (by omega) (by omega)), fun k hk3 => by rw [hk k hk3]; exact hR.2.2.2 k hk3⟩
theorem zR_2b (hR : zR ks M) {WX WM : zt_W} (f1 : zt_fr WX (zm_sub2 [(0, 164)] M) N1) (f2 : zt_fr WM (zm_sub2 [(165, 31)] (zm_mrg [(0, 164)] M N1)) N2) (hX : zR_hB WX = true) (hM : zR_hS WM = true) (hk : zR_rw WM 11 = true) (ht : zR_t (zy_2 M N1 N2).1 (zR_M (zy_2 M N1 N2))) : zR ks (zy_2 M N1 N2) := by
  have x1 := zR_fb hX f1
  have y1 := zR_fs hM f2
  obtain ⟨-, hq, -, -⟩ := id hR
  refine zR_of hR (zR_q hq (zR_xc x1 (fun q b hq => (zR_S (by omega) b).symm) (fun q b hq => zR_2x (by omega) b)) (zR_yc (y1 0 (by decide)) (fun n b hn => (zR_T hn b).symm) (fun n b hn => zR_2m hn b))) (fun s _ hs => zR_yc (y1 s hs) (fun n b hn => (zR_T hn b).symm) (fun n b hn => zR_2m hn b)) ht (fun n b hn => zR_2o hn b) (fun k _ => ?_)
  have := (f2 11 k (zR_rn hk k)).1
  rw [zR_T (by decide)] at this
  exact (zR_2m (n := 11) (by decide) k).trans this
theorem zR_2t (hR : zR ks M) {WX WM : zt_W} (f1 : zt_fr WX (zm_sub2 [(0, 164)] M) N1) (f2 : zt_fr WM (zm_sub2 [(165, 31)] (zm_mrg [(0, 164)] M N1)) N2) (hX : zR_hT WX = true) (hM : zR_hU WM = true) : zR_t (zy_2 M N1 N2).1 (zR_M (zy_2 M N1 N2)) := by
  obtain ⟨⟨a1, a2, a3⟩, xb⟩ := zR_ft hX f1
  obtain ⟨⟨b6, b14, b15⟩, y5⟩ := zR_fu hM f2
  rw [zR_S (by decide)] at a1 a2 a3
  rw [zR_T (by decide)] at b6 b14 b15
  obtain ⟨⟨t1, t2, t3, t4⟩, -, -, -⟩ := id hR
  refine ⟨?_, fun i hi => ?_, ?_, ?_⟩
  · rw [zR_2x (by decide), zR_2m (by decide), a1, b6, t1]
  · rw [zR_2x (by decide), a1] at hi
    rw [zR_2m (by decide), zR_2x (by decide), xb i, y5 i, zR_T (by decide), zR_S (by decide)]
    exact t2 i hi
  · rw [zR_2x (by decide), zR_2m (by decide), a2, b14, t3]
  · rw [zR_2x (by decide), zR_2m (by decide), a3, b15, t4]
def zR_h (WX WM : zt_W) : Bool := zR_hB WX && zR_hT WX && (zR_hS WM && zR_hU WM && zR_rw WM 11)
theorem zR_2 (hR : zR ks M) {WX WM : zt_W} (f1 : zt_fr WX (zm_sub2 [(0, 164)] M) N1) (f2 : zt_fr WM (zm_sub2 [(165, 31)] (zm_mrg [(0, 164)] M N1)) N2) (hw : zR_h WX WM = true) : zR ks (zy_2 M N1 N2) := by
  unfold zR_h at hw
  simp only [Bool.and_eq_true] at hw
  exact zR_2b hR f1 f2 hw.1.1 hw.2.1.1 hw.2.2 (zR_2t hR f1 f2 hw.1.2 hw.2.1.2)
theorem zR_tX (ht : zR_t I I') (h0 : 0 ≤ (I 51 1).toInt) (h8 : (I 51 1).toInt ≤ 800) : zpXt (fun i => (I 52 i).toInt) (I 51 1).toInt.toNat (fun k => I (51 + k)) ∧ zpMt (fun i => (I 52 i).toInt) (I 51 1).toInt.toNat I' := by
  have e : I 51 1 = Int32.ofNat (I 51 1).toInt.toNat := Int32.toInt_inj.mp (by rw [zp_o (by omega)]; omega)
  exact ⟨⟨e, fun i _ => rfl⟩, ⟨ht.1.symm.trans e, fun i hi => ht.2.1 i (by omega)⟩⟩
theorem zR_be (hI : zy_I ks M) (hR : zR ks M) {x y : Int32} (ho : zy_o2 ks M zF_X9_bench zF_X10_bench [] [] (.int x) (.int y) N1 N2) (f2 : zt_fr WM_bench (zm_sub2 [(165, 31)] (zm_mrg [(0, 164)] M N1)) N2) (hw : zR_rw WM_bench 11 = true) : x = y ∧ zR ks (zy_2 M N1 N2) := by
  have hb := zR_bd hI
  obtain ⟨⟨t1, t2, t3, t4⟩, hq, -, -⟩ := id hR
  obtain ⟨e, e1, e2, e3, e4, e5, e6⟩ := zp_benchR (I := (zm_sub2 [(0, 164)] M).1) (J := (zm_sub2 [(0, 164)] M).2) (I' := (zm_sub2 [(165, 31)] (zm_mrg [(0, 164)] M N1)).1) (J' := (zm_sub2 [(165, 31)] (zm_mrg [(0, 164)] M N1)).2) (by rw [zR_S (by decide)]; exact hb) (by rw [zR_S (by decide), zR_T (by decide)]; exact t1) (fun i hi => by rw [zR_S (by decide)] at hi; rw [zR_S (by decide), zR_T (by decide)]; exact t2 i hi) ho.1 ho.2
  have e6' : ∀ s, 1 ≤ s → s < 4 → zR_y s s (zR_M M) (zR_M (zy_2 M N1 N2)) := fun s h1 h4 => by
    obtain ⟨r1, r2, r3, r4, r5⟩ := e6 s h1 (by omega)
    exact zR_yc (I := (zm_sub2 [(165, 31)] (zm_mrg [(0, 164)] M N1)).1) (I2 := N2.1) ⟨r1, r2, r3, r4, r5⟩ (fun n b hn => (zR_T hn b).symm) (fun n b hn => zR_2m hn b)
  have hq' : zqC 1 0 (zy_2 M N1 N2).1 (zR_M (zy_2 M N1 N2)) := by
    rcases e5 with h | ⟨h1, h2, h3, h4, h5, h10⟩
    · exact zR_q h (zR_xr (fun q b hq => zR_2x (by omega) b)) (zR_yr' (fun n b hn => zR_2m hn b))
    · refine zR_q hq (zR_xr (fun q b hq => ?_)) (zR_yc (I := (zm_sub2 [(165, 31)] (zm_mrg [(0, 164)] M N1)).1) (I2 := N2.1) ⟨h2, fun b hb => ?_, fun b hb => ?_, fun b hb => ?_, fun b hb => ?_⟩ (fun n b hn => (zR_T hn b).symm) (fun n b hn => zR_2m hn b))
      · rw [zR_2x (by omega), h1 (1 + q) (by omega) (by omega), zR_S (by omega)]
      · have := h3 b hb
        rw [show 7 * 0 + b = b by omega]
        exact this
      · have := h4 b hb
        rw [show 6 * 0 + b = b by omega]
        exact this
      · have := h5 b hb
        rw [show 25 * 0 + b = b by omega]
        exact this
      · have := h10 b hb
        rw [show 120 * 0 + b = b by omega]
        exact this
  refine ⟨e, zR_of hR hq' e6' ⟨?_, fun i hi => ?_, ?_, ?_⟩ (fun n b hn => zR_2o hn b) (fun k hk => ?_)⟩
  · rw [zR_2x (by decide), zR_2m (by decide), e1, e2]
  · rw [zR_2x (by decide), e1] at hi
    have : ((0 : Int32).toInt) = 0 := by decide
    omega
  · rw [zR_2x (by decide), zR_2m (by decide)]
    exact e3
  · rw [zR_2x (by decide), zR_2m (by decide)]
    exact e4
  · have := (f2 11 k (zR_rn hw k)).1
    rw [zR_T (by decide)] at this
    exact (zR_2m (n := 11) (by decide) k).trans this
theorem zR_s2 {a b n : Nat} (h : n < 10) (M : zm_I) (c : Nat) : (zm_sub2 [(a, 10), (b, 10)] M).1 (10 + n) c = M.1 (b + n) c := by
  have e : zm_fw [(a, 10), (b, 10)] (10 + n) = b + n := by
    simp only [zm_fw]
    rw [if_neg (by omega), if_pos (by omega)]
    omega
  show M.1 (zm_fw [(a, 10), (b, 10)] (10 + n)) c = _
  rw [e]
/-- a copied bench says what the other said -/
theorem zR_cx {a b : Nat} (hab : a + 10 ≤ b ∨ b + 10 ≤ a) {M N : zm_I} (h : zy_cpy a b M N) (h7 : 0 ≤ (M.1 b 7).toInt ∧ (M.1 b 7).toInt ≤ 41) : zR_x b a M.1 (zm_mrg [(a, 10), (b, 10)] M N).1 := by
  obtain ⟨k, hk⟩ : ∃ k : Nat, (M.1 b 7).toInt = k := ⟨(M.1 b 7).toInt.toNat, by omega⟩
  have s : ∀ n, n < 10 → ∀ c, (zm_sub2 [(a, 10), (b, 10)] M).1 (10 + n) c = M.1 (b + n) c := fun n hn c => zR_s2 hn M c
  obtain ⟨D, f1, f2, f3, f4, f5, -⟩ := zp_cfX (J := (zm_sub2 [(a, 10), (b, 10)] M).2) (zm_sub2 [(a, 10), (b, 10)] M).1 (k := k) (by omega) ((s 0 (by decide) 7).trans (Int32.toInt_inj.mp (by rw [Nat.add_zero, hk, zp_o (by omega)])))
  have e : some (none, N) = (some (none, (D, (zm_sub2 [(a, 10), (b, 10)] M).2)) : zm_R) := h.1.symm.trans f1
  cases e
  have m : ∀ n, n < 10 → ∀ c, (zm_mrg [(a, 10), (b, 10)] M (D, (zm_sub2 [(a, 10), (b, 10)] M).2)).1 (a + n) c = D n c := fun n hn c => by rw [((zy_cp hab h.2.2 n).1 hn).1]
  have m0 := m 0 (by decide)
  rw [Nat.add_zero] at m0
  have g0 : ∀ j, j < 8 → D 0 j = M.1 b j := fun j hj => by
    have := s 0 (by decide) j
    rw [Nat.add_zero, Nat.add_zero] at this
    rw [f2 j hj, this]
  refine ⟨fun j hj => by rw [m0, g0 j hj], fun q hq => ?_, fun c hc => ?_, fun q hq hl => ?_⟩
  · rw [m 1 (by decide), f3 q hq]
    exact s 1 (by decide) q
  · obtain ⟨c2, c3, c4, c5, c6⟩ := f4 c hc
    rw [m 2 (by decide), m 3 (by decide), m 4 (by decide), m 5 (by decide), m 6 (by decide), c2, c3, c4, c5, c6]
    exact ⟨s 2 (by decide) c, s 3 (by decide) c, s 4 (by decide) c, s 5 (by decide) c, s 6 (by decide) c⟩
  · obtain ⟨d7, d8, d9⟩ := f5 q (by omega)
    rw [m 7 (by decide), m 8 (by decide), m 9 (by decide), d7, d8, d9]
    exact ⟨s 7 (by decide) q, s 8 (by decide) q, s 9 (by decide) q⟩
end ZRS
