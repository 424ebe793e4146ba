/-! A CALLER'S LUCK keeps the chances right -/
theorem zcl_e16 : ∀ n, n < 102 → zo_g16[n]? = zo_g1[if n < 92 then 72 + n else n - 91]? := by decide +kernel
theorem zcl_e19 : ∀ n, n < 92 → zo_g19[n]? = zo_g16[n]? := by decide +kernel
theorem zcl_G16 {M : zm_I} (hG : zt_Gs zo_g1 M) : zt_Gs zo_g16 (zm_sub2 [(72, 92), (1, 10)] M) := fun n g hg i bd hbd => by
  have hn : n < 102 := (List.getElem?_eq_some_iff.mp hg).1
  have w := hG (if n < 92 then 72 + n else n - 91) g ((zcl_e16 n hn).symm.trans hg) i bd hbd
  rw [(zcg_s hn M).1]
  exact w
theorem zcl_G19 {M N : zm_I} (hN : zt_Gs zo_g16 N) : zt_Gs zo_g19 (zm_sub2 [(72, 92)] (zm_mrg [(72, 92), (1, 10)] M N)) := fun n g hg i bd hbd => by
  have hn : n < 92 := (List.getElem?_eq_some_iff.mp hg).1
  have w := hN n g ((zcl_e19 n hn).symm.trans hg) i bd hbd
  have e : zm_fw [(72, 92)] n = 72 + n := by
    unfold zm_fw
    rw [if_pos hn]
  have m := ((zcg_m M N (72 + n) i).1 (by omega) (by omega)).1
  rw [show 72 + n - 72 = n by omega] at m
  show bd.1 ≤ ((zm_mrg [(72, 92), (1, 10)] M N).1 (zm_fw [(72, 92)] n) i).toInt ∧ ((zm_mrg [(72, 92), (1, 10)] M N).1 (zm_fw [(72, 92)] n) i).toInt ≤ bd.2
  rw [e, m]
  exact w
/-- a number that is only read off -/
theorem zcl_read {K : zq_K} {F : zm_L → List Value → zm_I → zm_R} {w0 : zm_L} {G : zt_G} (hcon : zt_Con zo_Om (zo_Rel 0) (zo_hd, K) F) (hOm : zo_Om[K.1]? = some (w0, G)) (hf : K.2.1.2.2 = []) (hp : K.2.1.2.1 = []) (hw : K.2.2.1 = []) (ho : K.2.2.2 = [(some zt_ltop, [], [], [])]) {as : List Value} {M : zm_I} (hs : zt_sts [] M (fun _ => 0) K.2.1.1 as) (hG : zt_Gs G M) : ∃ r : Int64, F w0 as M = some (some (.long r), M) := by
  obtain ⟨v, N, q1, q2, q3, o, h1, h2⟩ := zp_get hcon hOm hf hs (fun c h => by rw [hp] at h; cases h) hG
  rw [hw] at q3
  have eN : N = M := Prod.ext (funext fun a => funext fun b => (q3 a b rfl).1) (funext fun a => funext fun b => (q3 a b rfl).2)
  rw [ho] at h1
  have e : o = (some zt_ltop, [], [], []) := List.mem_singleton.mp h1
  subst e
  subst eN
  obtain ⟨w, e1, r, e2, -⟩ := h2.1
  exact ⟨r, q1.trans (by rw [e1, e2])⟩
section ZCM
variable {X : Nat → Nat → Int32} {Q : Nat → Nat → Int64}
theorem zcl_keep (hG : zt_Gs zo_g1 (X, Q)) (hF : zcF (X, Q)) (hE : 0 < (X 1 6).toInt → 1 ≤ (X 1 3).toInt) (a0 a1 a2 : Int32) {x : Int64} {N1 : zm_I} (h1 : zF_X9_luckily zW_X [.ref 0, .int a0, .int a1, .int a2] (X, Q) = some (some (.long x), N1)) : zcF N1 := by
  have id1 : zm_mrg [(1, 10)] (X, Q) (zm_sub2 [(1, 10)] (X, Q)) = (X, Q) := zm_mrg_id _ _
  have hc := zp_hasCaller (zm_sub2 [(1, 10)] (X, Q)) a0
  rw [show (zm_sub2 [(1, 10)] (X, Q)).1 0 6 = X 1 6 from rfl] at hc
  have g6 : (0 : Int) ≤ (X 1 6).toInt ∧ (X 1 6).toInt ≤ 5 := hG 1 _ rfl 6 _ rfl
  have h1 := (zf_X9_luckily_X X Q a0 a1 a2).symm.trans h1
  rw [zc_X9_luckily_X_0 _ _ _ _ _ hc, id1, zq_X9_luckily_X_8] at h1
  by_cases c1 : 0 ≤ a0.toInt ∧ a0.toInt < (X 1 6).toInt
  rotate_left
  · rw [if_neg c1, if_pos rfl, zq_X9_luckily_X_19] at h1
    cases h1
    exact hF
  rw [if_pos c1, if_neg (by decide)] at h1
  rcases zcj_isX (X := X) (Q := Q) a1 a2 with ⟨k1, k2⟩ | ⟨k1, k2⟩
  rotate_left
  · rw [zc_X9_luckily_X_11 _ _ _ _ _ k2, zq_X9_luckily_X_16, if_pos rfl, zq_X9_luckily_X_19] at h1
    cases h1
    exact hF
  rw [zc_X9_luckily_X_11 _ _ _ _ _ k2, zq_X9_luckily_X_16, if_neg (by decide)] at h1
  have kk := k1.1
  have kw := k1.2
  obtain ⟨N, q1, q2, -, -, -⟩ := zcg_right hG hF (hE (by omega))
  have gN := (zd_det (w0 := zW_CB) (G := zo_g16) (zi_217 0 zo_hd) rfl rfl rfl rfl (zq_s1 zq_r0 (zq_s1 zq_r0 zq_s0)) (zcl_G16 hG) q1).1
  have gP := zcl_G19 (M := (X, Q)) gN
  have e : zv_X9_luckily_X_23 X Q a0 a1 a2 = zv_X9_luckily_X_34 (zm_mrg [(72, 92), (1, 10)] (X, Q) N).1 (zm_mrg [(72, 92), (1, 10)] (X, Q) N).2 a0 a1 a2 := zc_X9_luckily_X_23 X Q a0 a1 a2 q1
  have h1 := e.symm.trans h1
  generalize zm_mrg [(72, 92), (1, 10)] (X, Q) N = P at q2 gP h1
  have b0 : zt_v [] (zm_sub2 [(72, 92)] P) (fun _ => 0) (zj (.ofNat 0) (.ofNat 4)) (.int a0) := zg_v (by show (0 : Int) ≤ _; omega) (by show _ ≤ (4 : Int); omega)
  have b1 : zt_v [] (zm_sub2 [(72, 92)] P) (fun _ => 0) (zj (.ofNat 0) (.ofNat 10)) (.int a1) := zg_v (by show (0 : Int) ≤ _; omega) (by show _ ≤ (10 : Int); omega)
  have b2 : zt_v [] (zm_sub2 [(72, 92)] P) (fun _ => 0) (zj (.ofNat 0) (.ofNat 1)) (.int a2) := zg_v (by show (0 : Int) ≤ _; omega) (by show _ ≤ (1 : Int); omega)
  obtain ⟨r, g⟩ := zcl_read (w0 := zW_C) (G := zo_g19) (zi_222 0 zo_hd) rfl rfl rfl rfl rfl (as := [.ref 0, .ref 2, .int a0, .int a1]) (zq_s1 zq_r0 (zq_s1 zq_r0 (zq_s1 b0 (zq_s1 b1 zq_s0)))) gP
  obtain ⟨s, p⟩ := zcl_read (w0 := zW_C) (G := zo_g19) (zi_220 0 zo_hd) rfl rfl rfl rfl rfl (as := [.ref 0, .long r, .int a1, .int a2]) (zq_s1 zq_r0 (zq_s1 (zt_v_ltop r) (zq_s1 b1 (zq_s1 b2 zq_s0)))) gP
  rw [zc_X9_luckily_X_34 P.1 P.2 _ _ _ g, zm_mrg_id, zc_X9_luckily_X_54 P.1 P.2 _ _ _ _ p, zm_mrg_id, zq_X9_luckily_X_59] at h1
  cases h1
  exact Or.inr (fun _ => q2)
end ZCM
