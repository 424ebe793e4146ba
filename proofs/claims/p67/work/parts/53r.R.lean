/-! image and back of the reference, exactly -/
/-- a slot of the reference as another -/
def zR_y (s s2 : Nat) (I I2 : Nat → Nat → Int32) : Prop := I2 6 s2 = I 6 s ∧ (∀ b, b < 7 → I2 7 (7 * s2 + b) = I 7 (7 * s + b)) ∧ (∀ b, b < 6 → I2 8 (6 * s2 + b) = I 8 (6 * s + b)) ∧ (∀ b, b < 25 → I2 9 (25 * s2 + b) = I 9 (25 * s + b)) ∧ ∀ b, b < 120 → I2 10 (120 * s2 + b) = I 10 (120 * s + b)
section ZPR
variable {I : Nat → Nat → Int32} {J : Nat → Nat → Int64}
theorem zR_cp {a b : Nat} (ha : a ≤ 4) (hb : b ≤ 4) (hab : a < b ∨ b < a) (I : Nat → Nat → Int32) : ∃ N, zF_X10_copyBench zW_M [.ref 0, .int (Int32.ofNat a), .int (Int32.ofNat b)] (I, J) = some (none, (N, J)) ∧ zR_y a b I N ∧ (∀ s, s ≤ 4 → s ≠ b → zR_y s s I N) ∧ ∀ i j, (i < 6 ∨ 10 < i) → N i j = I i j := by
  obtain ⟨N, g1, g2, g3, g4, g5, g6, g7, g8, g9, g10, g11, g12⟩ := zp_cbM (J := J) ha hb hab I
  exact ⟨N, g1, ⟨g2, g3, g4, g5, g6⟩, fun s hs hne => ⟨g8 s hne, fun q hq => g9 _ (by omega), fun q hq => g10 _ (by omega), fun q hq => g11 _ (by omega), fun q hq => g12 _ (by omega)⟩, g7⟩
theorem zR_yr {s : Nat} {I2 : Nat → Nat → Int32} (h : ∀ i j, i ≠ 0 → i ≠ 11 → I2 i j = I i j) : zR_y s s I I2 := ⟨h _ _ (by decide) (by decide), fun _ _ => h _ _ (by decide) (by decide), fun _ _ => h _ _ (by decide) (by decide), fun _ _ => h _ _ (by decide) (by decide), fun _ _ => h _ _ (by decide) (by decide)⟩
theorem zR_yt {s t u : Nat} {I2 I3 : Nat → Nat → Int32} (h : zR_y s t I I2) (h2 : zR_y t u I2 I3) : zR_y s u I I3 := ⟨h2.1.trans h.1, fun b hb => (h2.2.1 b hb).trans (h.2.1 b hb), fun b hb => (h2.2.2.1 b hb).trans (h.2.2.1 b hb), fun b hb => (h2.2.2.2.1 b hb).trans (h.2.2.2.1 b hb), fun b hb => (h2.2.2.2.2 b hb).trans (h.2.2.2.2 b hb)⟩
theorem zR_inN {x : Int32} (h : x.toInt < 0 ∨ 3 ≤ x.toInt) : zh_inr (Int32.toInt64 x) 0 2 = 0 := by
  rw [ze_inr, Int32.toInt_toInt64, ze_l0, show (2 : Int64).toInt = 2 by decide, if_neg (by omega)]
theorem zR_inY {k : Nat} (h : k < 3) : zh_inr (Int32.toInt64 (Int32.ofNat k)) 0 2 = 1 := by
  rw [ze_inr, Int32.toInt_toInt64, ze_l0, show (2 : Int64).toInt = 2 by decide, zp_o (by omega), if_pos (by omega)]
theorem zR_imN {x : Int32} (h : x.toInt < 0 ∨ 3 ≤ x.toInt) : zF_X10_image zW_M [.ref 0, .int x] (I, J) = some (some (.int (-2)), (zm_w I 0 0 0, J)) := by
  rw [zf_X10_image_M, zc_X10_image_M_0 _ _ _ (zh_inV _ _ _ _ _), zR_inN h, zq_X10_image_M_14, if_pos rfl, zq_X10_image_M_17]
theorem zR_bkN {x : Int32} (h : x.toInt < 0 ∨ 3 ≤ x.toInt) : zF_X10_back zW_M [.ref 0, .int x] (I, J) = some (some (.int (-2)), (zm_w I 0 0 0, J)) := by
  rw [zf_X10_back_M, zc_X10_back_M_0 _ _ _ (zh_inV _ _ _ _ _), zR_inN h, zq_X10_back_M_14, if_pos rfl, zq_X10_back_M_17]
theorem zR_1k {k : Nat} (h : k < 3) : (1 : Int32) + Int32.ofNat k = Int32.ofNat (k + 1) := by
  match k, h with
  | 0, _ => decide
  | 1, _ => decide
  | 2, _ => decide
  | k + 3, h => omega
theorem zR_imY {k : Nat} (hk : k < 3) : ∃ N, zF_X10_image zW_M [.ref 0, .int (Int32.ofNat k)] (I, J) = some (some (.int 0), (N, J)) ∧ zR_y 0 (k + 1) I N ∧ (∀ s, s ≤ 4 → s ≠ k + 1 → zR_y s s I N) ∧ (∀ b, b ≠ 0 → N 0 b = I 0 b) ∧ (∀ b, N 5 b = I 5 b) ∧ N 11 k = 1 ∧ ∀ b, b ≠ k → N 11 b = I 11 b := by
  obtain ⟨N, g1, g2, g3, g4⟩ := zR_cp (J := J) (a := 0) (b := k + 1) (by decide) (by omega) (by omega) (zm_w I 0 0 0)
  have w0 : ∀ i j, i ≠ 0 → zm_w I 0 0 0 i j = I i j := fun i j hi => ze_wo hi
  have i0 : ∀ s, zR_y s s I (zm_w I 0 0 0) := fun s => zR_yr (fun i j h0 _ => w0 i j h0)
  have e11 : ∀ s, zR_y s s N (zm_w N 11 k 1) := fun s => zR_yr (fun i j _ h11 => ze_wo h11)
  have hcb : zF_X10_copyBench zW_M [.ref 0, .int 0, .int (Int32.ofNat (k + 1))] (zm_w I 0 0 0, J) = some (none, (N, J)) := g1
  have v1 : vp_nar .boolean 1 = 1 := by decide
  refine ⟨zm_w N 11 k 1, ?_, zR_yt (i0 0) (zR_yt g2 (e11 (k + 1))), fun s hs hne => zR_yt (i0 s) (zR_yt (g3 s hs hne) (e11 s)), fun b hb => ?_, fun b => ?_, ze_wi, fun b hb => ?_⟩
  · rw [zf_X10_image_M, zc_X10_image_M_0 _ _ _ (zh_inV _ _ _ _ _), zR_inY hk, zq_X10_image_M_14, if_neg (by decide), zc_X10_image_M_20 _ _ _ (by rw [zR_1k hk]; exact hcb), zq_X10_image_M_28, if_neg (zp_in (by omega) (by omega)), zp_cl (by omega), v1]
  · rw [ze_wo (by decide), g4 0 b (by omega), ze_wj hb]
  · rw [ze_wo (by decide), g4 5 b (by omega), w0 5 b (by decide)]
  · rw [ze_wj hb, g4 11 b (by omega), w0 11 b (by decide)]
theorem zR_bk0 {k : Nat} (hk : k < 3) (h0 : I 11 k = 0) : zF_X10_back zW_M [.ref 0, .int (Int32.ofNat k)] (I, J) = some (some (.int (-6)), (zm_w I 0 0 0, J)) := by
  rw [zf_X10_back_M, zc_X10_back_M_0 _ _ _ (zh_inV _ _ _ _ _), zR_inY hk, zq_X10_back_M_14, if_neg (by decide), zq_X10_back_M_20, if_neg (zp_in (by omega) (by omega)), zp_cl (by omega), ze_wo (by decide), if_pos h0, zq_X10_back_M_29]
theorem zR_bkY {k : Nat} (hk : k < 3) (h1 : ¬ I 11 k = 0) : ∃ N, zF_X10_back zW_M [.ref 0, .int (Int32.ofNat k)] (I, J) = some (some (.int 0), (N, J)) ∧ zR_y (k + 1) 0 I N ∧ (∀ s, s ≤ 4 → s ≠ 0 → zR_y s s I N) ∧ (∀ b, b ≠ 0 → N 0 b = I 0 b) ∧ (∀ b, N 5 b = I 5 b) ∧ ∀ b, N 11 b = I 11 b := by
  obtain ⟨N, g1, g2, g3, g4⟩ := zR_cp (J := J) (a := k + 1) (b := 0) (by omega) (by decide) (by omega) (zm_w I 0 0 0)
  have w0 : ∀ i j, i ≠ 0 → zm_w I 0 0 0 i j = I i j := fun i j hi => ze_wo hi
  have i0 : ∀ s, zR_y s s I (zm_w I 0 0 0) := fun s => zR_yr (fun i j h0 _ => w0 i j h0)
  have hcb : zF_X10_copyBench zW_M [.ref 0, .int (Int32.ofNat (k + 1)), .int 0] (zm_w I 0 0 0, J) = some (none, (N, J)) := g1
  refine ⟨N, ?_, zR_yt (i0 (k + 1)) g2, fun s hs hne => zR_yt (i0 s) (g3 s hs hne), fun b hb => ?_, fun b => ?_, fun b => ?_⟩
  · rw [zf_X10_back_M, zc_X10_back_M_0 _ _ _ (zh_inV _ _ _ _ _), zR_inY hk, zq_X10_back_M_14, if_neg (by decide), zq_X10_back_M_20, if_neg (zp_in (by omega) (by omega)), zp_cl (by omega), ze_wo (by decide), if_neg h1, zc_X10_back_M_32 _ _ _ (by rw [zR_1k hk]; exact hcb), zq_X10_back_M_40]
  · rw [g4 0 b (by omega), ze_wj hb]
  · rw [g4 5 b (by omega), w0 5 b (by decide)]
  · rw [g4 11 b (by omega), w0 11 b (by decide)]
end ZPR
