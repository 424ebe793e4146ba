/-! THE LAW'S WALK: its loop, its start -/
section ZFW
variable {p : Program} {l : Launch} {e : Env} {s : State} {m : MethodId} {below : List Frame} {meth : Method} {c : Code} {b L : Nat} {xs : Nat → Int32} {D : va_G} {cA : FieldType → ClassId} {g : Nat → Nat}
theorem zf_case (hB : zf_B p s m meth c b L xs D cA g) {j : Nat} (hj : 6 * j + 6 ≤ L ∧ L ≤ 3072) (hk : zf_K p l e s m below meth c b D cA g zp_tail (zl_lb (zl_i j))) : ∀ n, n < 75 → zf_K p l e s m below meth c b D cA g (zf_pc n) (zl_lb (zl_i j)) := by
  intro n hn
  match n, hn with
  | 0, _ => exact (show zf_pc 0 = 348 by decide) ▸ zy_feed hB hj hk
  | 1, _ => exact (show zf_pc 1 = 411 by decide) ▸ zy_end hB hj hk
  | 2, _ => exact (show zf_pc 2 = 434 by decide) ▸ zy_bench hB hj hk
  | 3, _ => exact (show zf_pc 3 = 447 by decide) ▸ zy_fault hB hj hk
  | 4, _ => exact (show zf_pc 4 = 470 by decide) ▸ zy_seat hB hj hk
  | 5, _ => exact (show zf_pc 5 = 493 by decide) ▸ zy_caller hB hj hk
  | 6, _ => exact (show zf_pc 6 = 526 by decide) ▸ zy_age hB hj hk
  | 7, _ => exact (show zf_pc 7 = 559 by decide) ▸ zy_sits hB hj hk
  | 8, _ => exact (show zf_pc 8 = 592 by decide) ▸ zy_stands hB hj hk
  | 9, _ => exact (show zf_pc 9 = 615 by decide) ▸ zy_free hB hj hk
  | 10, _ => exact (show zf_pc 10 = 638 by decide) ▸ zy_goes hB hj hk
  | 11, _ => exact (show zf_pc 11 = 661 by decide) ▸ zy_called hB hj hk
  | 12, _ => exact (show zf_pc 12 = 684 by decide) ▸ zy_ends hB hj hk
  | 13, _ => exact (show zf_pc 13 = 707 by decide) ▸ zy_told hB hj hk
  | 14, _ => exact (show zf_pc 14 = 720 by decide) ▸ zy_forgotten hB hj hk
  | 15, _ => exact (show zf_pc 15 = 733 by decide) ▸ zy_gun hB hj hk
  | 16, _ => exact (show zf_pc 16 = 746 by decide) ▸ zy_waits hB hj hk
  | 17, _ => exact (show zf_pc 17 = 769 by decide) ▸ zy_worn hB hj hk
  | 18, _ => exact (show zf_pc 18 = 802 by decide) ▸ zy_dip hB hj hk
  | 19, _ => exact (show zf_pc 19 = 825 by decide) ▸ zy_deepest hB hj hk
  | 20, _ => exact (show zf_pc 20 = 838 by decide) ▸ zy_youngest hB hj hk
  | 21, _ => exact (show zf_pc 21 = 861 by decide) ▸ zy_oldest hB hj hk
  | 22, _ => exact (show zf_pc 22 = 884 by decide) ▸ zy_meets hB hj hk
  | 23, _ => exact (show zf_pc 23 = 917 by decide) ▸ zy_ripe hB hj hk
  | 24, _ => exact (show zf_pc 24 = 940 by decide) ▸ zy_window hB hj hk
  | 25, _ => exact (show zf_pc 25 = 963 by decide) ▸ zy_misses hB hj hk
  | 26, _ => exact (show zf_pc 26 = 986 by decide) ▸ zy_grown hB hj hk
  | 27, _ => exact (show zf_pc 27 = 1009 by decide) ▸ zy_beside hB hj hk
  | 28, _ => exact (show zf_pc 28 = 1042 by decide) ▸ zy_crowd hB hj hk
  | 29, _ => exact (show zf_pc 29 = 1055 by decide) ▸ zy_next hB hj hk
  | 30, _ => exact (show zf_pc 30 = 1078 by decide) ▸ zy_years hB hj hk
  | 31, _ => exact (show zf_pc 31 = 1101 by decide) ▸ zy_last hB hj hk
  | 32, _ => exact (show zf_pc 32 = 1114 by decide) ▸ zy_twins hB hj hk
  | 33, _ => exact (show zf_pc 33 = 1137 by decide) ▸ zy_opens hB hj hk
  | 34, _ => exact (show zf_pc 34 = 1160 by decide) ▸ zy_without hB hj hk
  | 35, _ => exact (show zf_pc 35 = 1183 by decide) ▸ zy_helps hB hj hk
  | 36, _ => exact (show zf_pc 36 = 1206 by decide) ▸ zy_less hB hj hk
  | 37, _ => exact (show zf_pc 37 = 1229 by decide) ▸ zy_tuned hB hj hk
  | 38, _ => exact (show zf_pc 38 = 1252 by decide) ▸ zy_moved hB hj hk
  | 39, _ => exact (show zf_pc 39 = 1285 by decide) ▸ zy_suits hB hj hk
  | 40, _ => exact (show zf_pc 40 = 1308 by decide) ▸ zy_hour hB hj hk
  | 41, _ => exact (show zf_pc 41 = 1331 by decide) ▸ zy_youth hB hj hk
  | 42, _ => exact (show zf_pc 42 = 1354 by decide) ▸ zy_best hB hj hk
  | 43, _ => exact (show zf_pc 43 = 1367 by decide) ▸ zy_plan hB hj hk
  | 44, _ => exact (show zf_pc 44 = 1390 by decide) ▸ zy_ways hB hj hk
  | 45, _ => exact (show zf_pc 45 = 1403 by decide) ▸ zy_every hB hj hk
  | 46, _ => exact (show zf_pc 46 = 1416 by decide) ▸ zy_calls hB hj hk
  | 47, _ => exact (show zf_pc 47 = 1429 by decide) ▸ zy_none hB hj hk
  | 48, _ => exact (show zf_pc 48 = 1442 by decide) ▸ zy_by hB hj hk
  | 49, _ => exact (show zf_pc 49 = 1465 by decide) ▸ zy_law hB hj hk
  | 50, _ => exact (show zf_pc 50 = 1478 by decide) ▸ zy_laws hB hj hk
  | 51, _ => exact (show zf_pc 51 = 1501 by decide) ▸ zy_sat hB hj hk
  | 52, _ => exact (show zf_pc 52 = 1534 by decide) ▸ zy_ask hB hj hk
  | 53, _ => exact (show zf_pc 53 = 1567 by decide) ▸ zy_marks hB hj hk
  | 54, _ => exact (show zf_pc 54 = 1590 by decide) ▸ zy_mark hB hj hk
  | 55, _ => exact (show zf_pc 55 = 1623 by decide) ▸ zy_under hB hj hk
  | 56, _ => exact (show zf_pc 56 = 1656 by decide) ▸ zy_rests hB hj hk
  | 57, _ => exact (show zf_pc 57 = 1689 by decide) ▸ zy_rest hB hj hk
  | 58, _ => exact (show zf_pc 58 = 1722 by decide) ▸ zy_swaps hB hj hk
  | 59, _ => exact (show zf_pc 59 = 1735 by decide) ▸ zy_swap hB hj hk
  | 60, _ => exact (show zf_pc 60 = 1748 by decide) ▸ zy_chance hB hj hk
  | 61, _ => exact (show zf_pc 61 = 1791 by decide) ▸ zy_luckily hB hj hk
  | 62, _ => exact (show zf_pc 62 = 1834 by decide) ▸ zy_mean hB hj hk
  | 63, _ => exact (show zf_pc 63 = 1867 by decide) ▸ zy_move hB hj hk
  | 64, _ => exact (show zf_pc 64 = 1910 by decide) ▸ zy_undo hB hj hk
  | 65, _ => exact (show zf_pc 65 = 1923 by decide) ▸ zy_anew hB hj hk
  | 66, _ => exact (show zf_pc 66 = 1936 by decide) ▸ zy_drawn hB hj hk
  | 67, _ => exact (show zf_pc 67 = 1969 by decide) ▸ zy_luck hB hj hk
  | 68, _ => exact (show zf_pc 68 = 2012 by decide) ▸ zy_rate hB hj hk
  | 69, _ => exact (show zf_pc 69 = 2035 by decide) ▸ zy_count hB hj hk
  | 70, _ => exact (show zf_pc 70 = zp_img by decide) ▸ zy_image hB hj hk
  | 71, _ => exact (show zf_pc 71 = zp_back by decide) ▸ zy_backL hB hj hk
  | 72, _ => exact (show zf_pc 72 = 2104 by decide) ▸ zy_row hB hj hk
  | 73, _ => exact (show zf_pc 73 = 2147 by decide) ▸ zy_write hB hj hk
  | 74, _ => exact (show zf_pc 74 = 2220 by decide) ▸ zy_paste hB hj hk
  | n + 75, h => omega
theorem zf_27 (hB : zf_B p s m meth c b L xs D cA g) {j : Nat} (hj : 6 * j + 6 ≤ L ∧ L ≤ 3072) (hk : zf_K p l e s m below meth c b D cA g zp_tail (zl_lb (zl_i j))) : zf_K p l e s m below meth c b D cA g 27 (zl_lb (zl_i j)) := by
  intro ks h M c0 s0 hks hg hD hc hs hI hR
  have hw := (zK_w hks).2.2.2.1
  generalize hx : (xs (6 * j) &&& 127) = x
  by_cases hr : x.toInt < 0 ∨ 74 < x.toInt
  · refine zf_step (S' := (zp_tail, zl_lb (zl_i j), [], M)) hB hg (zx_sw l L xs) rfl rfl hD hw (by omega) (by omega) (fun k => (zl_e27 hj xs (zL_w ks) M k).trans ?_) (hk ks h M c0 s0 hks hg hD hc hs hI hR)
    rw [hx]
    unfold zm_sw
    simp only []
    rw [if_pos hr]
    rfl
  · have hn : ∃ n : Nat, n < 75 ∧ x.toInt = (n : Int) := ⟨x.toInt.toNat, by omega, by omega⟩
    obtain ⟨n, hn, hxn⟩ := hn
    refine zf_step (S' := (zf_pc n, zl_lb (zl_i j), [], M)) hB hg (zx_sw l L xs) rfl rfl hD hw (by omega) (by omega) (fun k => (zl_e27 hj xs (zL_w ks) M k).trans ?_) (zf_case hB hj hk n hn ks h M c0 s0 hks hg hD hc hs hI hR)
    rw [hx]
    have hsz : zf_os.size = 75 := by decide +kernel
    have ho : zf_os[n]? = some zf_os[n] := Array.getElem?_eq_getElem (by omega)
    unfold zm_sw
    simp only []
    rw [if_neg hr, show (x.toInt - 0).toNat = n by omega, ho]
    unfold zf_pc
    rw [ho]
    rfl
theorem zf_out (hB : zf_B p s m meth c b L xs D cA g) (hL : L ≤ 3072) {j : Nat} (hj : 6 * j ≤ L) (hn : L < 6 * j + 6) : zf_K p l e s m below meth c b D cA g 18 (zl_lb (zl_i j)) := by
  intro ks h M c0 s0 hks hg hD hc hs hI hR
  have hw := (zK_w hks).2.2.2.1
  refine zf_step hB hg (zx_sw l L xs) rfl rfl hD hw (by omega) (by omega) (S' := (zp_end, zl_lb (zl_i j), [], M)) (fun k => (zl_e18 L xs (zl_i j) (zL_w ks) M k).trans (if_pos ((zl_lim hj hL).mpr hn))) ?_
  refine zf_step hB hg (zx_sw l L xs) rfl rfl hD hw (by omega) (by omega) (S' := (zp_end + 1, zl_lb (zl_i j), [.int 1], M)) (fun k => zl_ee L xs _ _ M k) ?_
  exact zf_end hB hg (by omega) (by omega)
theorem zf_loop (hB : zf_B p s m meth c b L xs D cA g) (hL : L ≤ 3072) : ∀ (n j : Nat), L < 6 * j + 6 * n + 6 → 6 * j ≤ L → zf_K p l e s m below meth c b D cA g 18 (zl_lb (zl_i j))
  | 0, j, hn, hj => zf_out hB hL hj (by omega)
  | n + 1, j, hn, hj => by
    by_cases hn6 : L < 6 * j + 6
    · exact zf_out hB hL hj hn6
    · have hj6 : 6 * j + 6 ≤ L ∧ L ≤ 3072 := ⟨by omega, hL⟩
      intro ks h M c0 s0 hks hg hD hc hs hI hR
      have hw := (zK_w hks).2.2.2.1
      refine zf_step hB hg (zx_sw l L xs) rfl rfl hD hw (by omega) (by omega) (S' := (27, zl_lb (zl_i j), [], M)) (fun k => (zl_e18 L xs (zl_i j) (zL_w ks) M k).trans (if_neg (fun z => hn6 ((zl_lim hj hL).mp z)))) ?_
      refine zf_27 hB hj6 ?_ ks h M c0 s0 hks hg hD hc hs hI hR
      intro ks2 h2 M2 c2 s2 hks2 hg2 hD2 hc2 hs2 hI2 hR2
      refine zf_step hB hg2 (zx_sw l L xs) rfl rfl hD2 (zK_w hks2).2.2.2.1 (by omega) (by omega) (S' := (18, zl_lb (zl_i (j + 1)), [], M2)) (fun k => (zl_et L xs (zl_i j) (zL_w ks2) M2 k).trans (by rw [zl_next hj6])) ?_
      exact zf_loop hB hL n (j + 1) (by omega) (by omega) ks2 h2 M2 c2 s2 hks2 hg2 hD2 hc2 hs2 hI2 hR2
end ZFW
