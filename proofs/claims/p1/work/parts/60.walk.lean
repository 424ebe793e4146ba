/-! THE LAW'S WALK (printed by program, wip/gen/gen60.py) -/
def zf_B (p : Program) (s : State) (m : MethodId) (meth : Method) (c : Code) (b L : Nat) (xs : Nat → Int32) (D : va_G) (cA : FieldType → ClassId) (g : Nat → Nat) : Prop :=
  (∀ T : zm_T, T.2.2.2.1 = ret → (T.2.2.2.2 = none ∨ T.2.2.2.2 = some (L, xs)) → ∀ (h : Nat → Nat → Nat) (c0 s0 : Nat), (∀ n, h 1 n = g n) → c0 ≤ room_1.cells → s0 ≤ room_1.slots → zm_B p s m #[Value.ref b] meth c R_law code 4 T D cA h (fun q => s.heap.size ≤ q) room_1 c0 s0) ∧ zn_AO s
def zf_os : Array Int := #[315, 378, 401, 414, 437, 460, 493, 526, 559, 582, 605, 628, 651, 674, 687, 700, 713, 736, 769, 792, 805, 828, 851, 884, 907, 930, 953, 976, 1009, 1022, 1045, 1068, 1081, 1104, 1127, 1150, 1173, 1196, 1219, 1252, 1275, 1298, 1321, 1334, 1357, 1370, 1383, 1396, 1409, 1432, 1445, 1468, 1501, 1534, 1557, 1590, 1623, 1656, 1689, 1702, 1715, 1759, 1803, 1837, 1880, 1893, 1906, 1939, 1982, 2005, 2028, 2051, 2074, 2117, 2190]
def zf_pc (n : Nat) : Nat := zm_tg 33 (zf_os[n]?.getD 0)
def zB_sw : List (Nat × List (Instr × Nat × Nat)) := [(18, [(.iload_n 3, 0, 0), (.aload_n 0, 0, 0), (.arraylength, 0, 0), (.bipush 6, 0, 0), (.isub, 0, 0), (.if_icmp .gt 2268, 0, 0)]), (27, [(.aload_n 0, 0, 0), (.iload_n 3, 0, 0), (.iaload, 0, 0), (.bipush 127, 0, 0), (.iand, 0, 0), (.tableswitch 2253 0 74 #[315, 378, 401, 414, 437, 460, 493, 526, 559, 582, 605, 628, 651, 674, 687, 700, 713, 736, 769, 792, 805, 828, 851, 884, 907, 930, 953, 976, 1009, 1022, 1045, 1068, 1081, 1104, 1127, 1150, 1173, 1196, 1219, 1252, 1275, 1298, 1321, 1334, 1357, 1370, 1383, 1396, 1409, 1432, 1445, 1468, 1501, 1534, 1557, 1590, 1623, 1656, 1689, 1702, 1715, 1759, 1803, 1837, 1880, 1893, 1906, 1939, 1982, 2005, 2028, 2051, 2074, 2117, 2190], 0, 0)]), (2286, [(.iinc 3 6, 0, 0), (.goto (-2271), 0, 0)]), (2292, [(.iconst 1, 0, 0)])]
noncomputable def zT_sw (L : Nat) (xs : Nat → Int32) : zm_T := (zB_sw, [], [], ret, some (L, xs))
theorem zx_sw (l : Launch) (L : Nat) (xs : Nat → Int32) : zm_ok l room_1 R_law code (zT_sw L xs) ∧ zl_nr (zT_sw L xs).1 = true := ⟨zx_of ⟨zl_sk zx_L_0 0 rfl, zl_sk zx_L_0 1 rfl, zl_sk zx_L_11 6 rfl, zl_sk zx_L_11 7 rfl, trivial⟩ rfl trivial, by show zl_nr zB_sw = true; decide +kernel⟩
set_option maxRecDepth 20000 in
theorem zl_e27 (xs : Nat → Int32) (M : zm_I) (k : zm_S → zm_R) : zm_step (zT_sw 6 xs) zL_C k (27, zl_ls, [], M) = zm_sw k 33 2253 0 74 zf_os zl_ls [.int (xs 0 &&& 127)] M := rfl
set_option maxRecDepth 20000 in
theorem zlt_sw (xs : Nat → Int32) : zl_tl (zT_sw 6 xs) := ⟨fun _ _ _ => rfl, rfl, ⟨xs, rfl⟩, fun _ _ _ _ => rfl⟩
def zB_i1 : List (Nat × List (Instr × Nat × Nat)) := [(2061, [(.aload_n 1, 0, 0), (.aload_n 0, 0, 0), (.iload_n 3, 0, 0), (.iconst 1, 0, 0), (.iadd, 0, 0), (.iaload, 0, 0)])]
noncomputable def zT_i1 (xs : Nat → Int32) : zm_T := (zB_i1, [], [], ret, some (6, xs))
theorem zx_i1 (l : Launch) (xs : Nat → Int32) : zm_ok l room_1 R_law code (zT_i1 xs) ∧ zl_nr (zT_i1 xs).1 = true := ⟨zx_of ⟨zl_s2061a, trivial⟩ rfl trivial, by show zl_nr zB_i1 = true; decide +kernel⟩
set_option maxRecDepth 20000 in
theorem zl_e2061 (xs : Nat → Int32) (M : zm_I) (k : zm_S → zm_R) : zm_step (zT_i1 xs) zL_C k (2061, zl_ls, [], M) = k (2067, zl_ls, [.int (xs 1), .ref 0], M) := rfl
theorem zf_d2293 : decode code 2293 = .ok (.ireturn, 1) := by decide +kernel
theorem zf_d2067 : decode code 2067 = .ok (.invokevirtual 300, 3) := by decide +kernel
section ZFN
variable {p : Program} {l : Launch} {e : Env} {s : State} {m : MethodId} {below : List Frame} {meth : Method} {c : Code} {b L : Nat} {xs : Nat → Int32} {D : va_G} {cA : FieldType → ClassId} {g : Nat → Nat} {h : Nat → Nat → Nat} {wl : zm_L} {c0 s0 : Nat} {T : zm_T} {M0 M1 : zm_I} {S S' : zm_S}
theorem zf_end (hB : zf_B p s m meth c b L xs D cA g) (hg : ∀ n, h 1 n = g n) (hc : c0 ≤ room_1.cells) (hs : s0 ≤ room_1.slots) (hS : S.1 = 2293 ∧ S.2.2.1 = [.int 1]) : zm_G p l e room_1 s m #[Value.ref b] below meth c (lw_Z below #[Value.ref b] s) D cA h wl (fun q => s.heap.size ≤ q) 4 c0 s0 S := by
  intro H locs la hl hP hS'
  obtain ⟨hx, hb, hml, hown, hts, hK, hr, hlk, hZ, hcs, hsc⟩ := hB.1 ([], [], [], ret, none) rfl (Or.inl rfl) h 0 0 hg (Nat.zero_le _) (Nat.zero_le _)
  rw [hS.1, hS.2]
  exact va_forget (fun q hq => hS'.2.2 q hq) (W.widen hc hs (lw_ret hx hb hr hlk zf_d2293))
theorem zf_run (hB : zf_B p s m meth c b L xs D cA g) (hg : ∀ n, h 1 n = g n) (hT : zm_ok l room_1 R_law code T ∧ zl_nr T.1 = true) (h1 : T.2.2.2.1 = ret) (h2 : T.2.2.2.2 = some (L, xs)) (hD : va_D (fun q => s.heap.size ≤ q) (zm_ws cA h wl M0)) (hw : zm_wok wl) (hc : c0 ≤ room_1.cells) (hs : s0 ≤ room_1.slots) (hz : zl_ok T wl M1 S) : zm_G p l e room_1 s m #[Value.ref b] below meth c (lw_Z below #[Value.ref b] s) D cA h wl (fun q => s.heap.size ≤ q) 4 c0 s0 S := by
  obtain ⟨n, hn⟩ := hz
  exact zl_run_ok (hB.1 T h1 (Or.inr h2) h c0 s0 hg hc hs) hT.1 hT.2 hD (fun q hq => hq) hw (fun S' hS' => zf_end hB hg hc hs (zl_k_o hS')) n S hn
theorem zf_step (hB : zf_B p s m meth c b L xs D cA g) (hg : ∀ n, h 1 n = g n) (hT : zm_ok l room_1 R_law code T ∧ zl_nr T.1 = true) (h1 : T.2.2.2.1 = ret) (h2 : T.2.2.2.2 = some (L, xs)) (hD : va_D (fun q => s.heap.size ≤ q) (zm_ws cA h wl M0)) (hw : zm_wok wl) (hc : c0 ≤ room_1.cells) (hs : s0 ≤ room_1.slots) (hst : ∀ k : zm_S → zm_R, zm_step T wl k S = k S') (hG : zm_G p l e room_1 s m #[Value.ref b] below meth c (lw_Z below #[Value.ref b] s) D cA h wl (fun q => s.heap.size ≤ q) 4 c0 s0 S') : zm_G p l e room_1 s m #[Value.ref b] below meth c (lw_Z below #[Value.ref b] s) D cA h wl (fun q => s.heap.size ≤ q) 4 c0 s0 S :=
  zl_run_ok (k := zn_k S') (r := (none, S'.2.2.2)) (hB.1 T h1 (Or.inr h2) h c0 s0 hg hc hs) hT.1 hT.2 hD (fun q hq => hq) hw (fun S'' hq => by have := zn_k_inv hq; subst this; exact hG) 1 S ((hst _).trans (zn_k_self S'))
theorem zf_call (hB : zf_B p s m meth c b 6 xs D cA g) (hg : ∀ n, h 1 n = g n) (hD : va_D (fun q => s.heap.size ≤ q) (zm_ws cA h zL_C zL_M)) (hc : c0 + 10 ≤ room_1.cells) (hs : s0 + 171 ≤ room_1.slots) {j : Nat} (hj : j < 3) (hx1 : xs 1 = Int32.ofNat j) : zm_G p l e room_1 s m #[Value.ref b] below meth c (lw_Z below #[Value.ref b] s) D cA h zL_C (fun q => s.heap.size ≤ q) 4 c0 s0 (2067, zl_ls, [.int (xs 1), .ref 0], zL_M) := by
  intro H locs la hl hP hS
  obtain ⟨hx, hb, hml, hown, hts, hK, hr, hlk, hZ, hcs, hsc⟩ := hB.1 ([], [], [], ret, none) rfl (Or.inl rfl) h 0 0 hg (Nat.zero_le _) (Nat.zero_le _)
  have hM := zi_met l D cA h (fun q => s.heap.size ≤ q) hj
  have hw0 : ∃ rs, zL_C[0]? = some (.inl 9, rs) := ⟨_, rfl⟩
  obtain ⟨rs0, hw0⟩ := hw0
  have hrec : ∃ cellB : Cell, H[h 0 0]? = some cellB ∧ cellB.vm.isStatics = false ∧ s.vm.findClass RX9 = some cellB.cls := by
    obtain ⟨r0, g1, cell, q1, q2, q3, -⟩ := hP 0 _ (zm_ws_at hw0)
    refine ⟨cell, q1, by rw [q3]; rfl, ?_⟩
    have e9 : r0 = (RX9, TX9, 13) := Option.some.inj (g1.symm.trans rfl)
    subst e9
    rw [q2]
    exact (hK.1 9 _ rfl).2.1
  have hcode : Jvm.Cond.code yX9_image cX9_image 3 (some .int) ∈ zm_tbl := zm_cw 5 206 rfl rfl
  have hGV : GoodIn zm_tbl (wsV R_law 300 RX9 yX9_image (Jvm.Cond.code yX9_image cX9_image 3 (some .int) :: zm_tbl)) := by
    intro w hw
    unfold wsV at hw
    rcases List.mem_append.mp hw with hw | hw
    · simp only [List.mem_cons, List.not_mem_nil, or_false] at hw
      rcases hw with rfl | rfl | rfl | rfl
      · exact zm_good _ (zm_wk zk_lim 0 rfl)
      · exact zm_good _ (zm_cw 5 204 rfl rfl)
      · exact zm_good _ (zm_cw 5 205 rfl rfl)
      · exact zm_good _ (zm_cw 1 1 rfl rfl)
    · rcases List.mem_cons.mp hw with rfl | hw
      · exact zm_good _ hcode
      · exact zm_good _ hw
  have hpc : ∀ U : State, U.heap = H → s.WarmedH U.vm → zn_Pc D cA h (fun q => s.heap.size ≤ q) zL_C [.ref 0, .int (Int32.ofNat j)] zL_M ([Value.ref (h 0 0), Value.int (Int32.ofNat j)] : List Value).toArray U := fun U hU hW => ⟨rfl, by rw [hU]; exact hP, va_K.moved hW.alike hK, hD, fun q9 h9 => Nat.le_trans hS.1 (by rw [hU] at h9; exact h9), zL_wok, zi_fr, by rw [hU]; exact zm_Z_go hZ hS hW (fun _ z => z), zn_AO_warm hW hB.2⟩
  have hrun : va_Run p l e room_1 s m #[Value.ref b] below meth c H locs c0 s0 10 171 (F0 m 2067 la [Value.int (Int32.ofNat j), Value.ref (h 0 0)]) [] (zi_Q D cA h (fun q => s.heap.size ≤ q) j ([Value.ref (h 0 0), Value.int (Int32.ofNat j)] : List Value).toArray) (fun q => s.heap.size ≤ q) :=
    va_runV (b := h 0 0) (As := [Value.int (Int32.ofNat j)]) ⟨hx, hb, hml, hown, hts⟩ hM (cwV 1 hts hGV rfl rfl rfl ⟨rfl, by decide, by decide, by decide +kernel⟩ ⟨Nat.le_of_ble_eq_true rfl, Nat.le_of_ble_eq_true rfl⟩) ⟨zn_blind, hrec, hpc⟩ rfl rfl hl.2.1 rfl (lv_room (by simp)) zf_d2067 ⟨hc, hs⟩
  show W p l e room_1 s m #[Value.ref b] below meth c H locs c0 s0 (lw_Z below #[Value.ref b] s) (F0 m 2067 la [Value.int (xs 1), Value.ref (h 0 0)])
  rw [hx1]
  intro Tn hT X
  obtain ⟨v, st₀, t, T', Lc, h0, X', hL, e1, e2, ⟨hv, ⟨h1, N, hx2, hP1, hD1⟩, hz, hkk⟩, stp⟩ := hrun Tn hT X
  cases hv
  rw [h0] at hz hkk
  have hG : zm_G p l e room_1 s m #[Value.ref b] below meth c (lw_Z below #[Value.ref b] s) D cA h1 (zi_w j) (fun q => s.heap.size ≤ q) 4 (c0 + 10) (s0 + 171) (2070, zl_ls, [.int 0], zm_mrg [(196, 10), (1, 10)] zL_M N) := zf_run hB (fun n => (hx2.2 n).trans (hg n)) (zxo_imN l xs) rfl rfl hD1 (zi_wok hj) hc hs (zl_imY xs zL_M _ hj hx1)
  obtain ⟨t2, a1, b1⟩ := hG T'.heap (locs ++ Lc) la (zn_lok hx2 hl (show (zl_ls : List (Option Value)).all (zn_clO 196) = true by decide)) (by rw [e1]; exact hP1)
    ⟨Nat.le_trans hS.1 (by rw [e1]; exact hz), fun q9 g1 g2 => by rw [e1, hkk q9 (Nat.lt_of_lt_of_le g1 hS.1) g2]; exact hS.2.1 q9 g1 g2, fun q9 hq9 => by
      rcases List.mem_append.mp hq9 with h9 | h9
      · exact hS.2.2 q9 h9
      · exact hL q9 h9⟩ T' rfl X'
  exact ⟨t2, stp t2 a1, b1⟩
theorem zf_img (hB : zf_B p s m meth c b 6 xs D cA g) (hg : ∀ n, h 1 n = g n) (hD : va_D (fun q => s.heap.size ≤ q) (zm_ws cA h zL_C zL_M)) (hc : c0 + 10 ≤ room_1.cells) (hs : s0 + 171 ≤ room_1.slots) : zm_G p l e room_1 s m #[Value.ref b] below meth c (lw_Z below #[Value.ref b] s) D cA h zL_C (fun q => s.heap.size ≤ q) 4 c0 s0 (2061, zl_ls, [], zL_M) := by
  by_cases hr : xs 1 < 0 ∨ ¬ xs 1 < 3
  · exact zf_run hB hg (zxo_imN l xs) rfl rfl hD zL_wok (by omega) (by omega) (zl_imN xs zL_M hr)
  · refine zf_step hB hg (zx_i1 l xs) rfl rfl hD zL_wok (by omega) (by omega) (zl_e2061 xs zL_M) ?_
    have h0 : ¬ xs 1 < 0 := fun q => hr (Or.inl q)
    have h3 : xs 1 < 3 := Decidable.not_not.mp (fun q => hr (Or.inr q))
    rcases zi_three h0 h3 with h9 | h9 | h9
    · exact zf_call hB hg hD hc hs (j := 0) (by decide) h9
    · exact zf_call hB hg hD hc hs (j := 1) (by decide) h9
    · exact zf_call hB hg hD hc hs (j := 2) (by decide) h9
theorem zf_case (hB : zf_B p s m meth c b 6 xs D cA g) (hg : ∀ n, h 1 n = g n) (hD : va_D (fun q => s.heap.size ≤ q) (zm_ws cA h zL_C zL_M)) (hc : c0 ≤ room_1.cells) (hs : s0 ≤ room_1.slots) (himg : zm_G p l e room_1 s m #[Value.ref b] below meth c (lw_Z below #[Value.ref b] s) D cA h zL_C (fun q => s.heap.size ≤ q) 4 c0 s0 (2061, zl_ls, [], zL_M)) : ∀ n, n < 75 → zm_G p l e room_1 s m #[Value.ref b] below meth c (lw_Z below #[Value.ref b] s) D cA h zL_C (fun q => s.heap.size ≤ q) 4 c0 s0 (zf_pc n, zl_ls, [], zL_M) := by
  intro n hn
  match n, hn with
  | 0, _ => exact (show zf_pc 0 = 348 by decide) ▸ zf_run hB hg (zxo_feed l xs) rfl rfl hD zL_wok hc hs (zl_feed xs zL_M)
  | 1, _ => exact (show zf_pc 1 = 411 by decide) ▸ zf_run hB hg (zxo_end l xs) rfl rfl hD zL_wok hc hs (zl_end xs zL_M)
  | 2, _ => exact (show zf_pc 2 = 434 by decide) ▸ zf_run hB hg (zxo_bench l xs) rfl rfl hD zL_wok hc hs (zl_bench xs zL_M)
  | 3, _ => exact (show zf_pc 3 = 447 by decide) ▸ zf_run hB hg (zxo_fault l xs) rfl rfl hD zL_wok hc hs (zl_fault xs zL_M)
  | 4, _ => exact (show zf_pc 4 = 470 by decide) ▸ zf_run hB hg (zxo_seat l xs) rfl rfl hD zL_wok hc hs (zl_seat xs zL_M)
  | 5, _ => exact (show zf_pc 5 = 493 by decide) ▸ zf_run hB hg (zxo_caller l xs) rfl rfl hD zL_wok hc hs (zl_caller xs zL_M)
  | 6, _ => exact (show zf_pc 6 = 526 by decide) ▸ zf_run hB hg (zxo_age l xs) rfl rfl hD zL_wok hc hs (zl_age xs zL_M)
  | 7, _ => exact (show zf_pc 7 = 559 by decide) ▸ zf_run hB hg (zxo_sits l xs) rfl rfl hD zL_wok hc hs (zl_sits xs zL_M)
  | 8, _ => exact (show zf_pc 8 = 592 by decide) ▸ zf_run hB hg (zxo_stands l xs) rfl rfl hD zL_wok hc hs (zl_stands xs zL_M)
  | 9, _ => exact (show zf_pc 9 = 615 by decide) ▸ zf_run hB hg (zxo_free l xs) rfl rfl hD zL_wok hc hs (zl_free xs zL_M)
  | 10, _ => exact (show zf_pc 10 = 638 by decide) ▸ zf_run hB hg (zxo_goes l xs) rfl rfl hD zL_wok hc hs (zl_goes xs zL_M)
  | 11, _ => exact (show zf_pc 11 = 661 by decide) ▸ zf_run hB hg (zxo_called l xs) rfl rfl hD zL_wok hc hs (zl_called xs zL_M)
  | 12, _ => exact (show zf_pc 12 = 684 by decide) ▸ zf_run hB hg (zxo_ends l xs) rfl rfl hD zL_wok hc hs (zl_ends xs zL_M)
  | 13, _ => exact (show zf_pc 13 = 707 by decide) ▸ zf_run hB hg (zxo_told l xs) rfl rfl hD zL_wok hc hs (zl_told xs zL_M)
  | 14, _ => exact (show zf_pc 14 = 720 by decide) ▸ zf_run hB hg (zxo_forgotten l xs) rfl rfl hD zL_wok hc hs (zl_forgotten xs zL_M)
  | 15, _ => exact (show zf_pc 15 = 733 by decide) ▸ zf_run hB hg (zxo_gun l xs) rfl rfl hD zL_wok hc hs (zl_gun xs zL_M)
  | 16, _ => exact (show zf_pc 16 = 746 by decide) ▸ zf_run hB hg (zxo_waits l xs) rfl rfl hD zL_wok hc hs (zl_waits xs zL_M)
  | 17, _ => exact (show zf_pc 17 = 769 by decide) ▸ zf_run hB hg (zxo_worn l xs) rfl rfl hD zL_wok hc hs (zl_worn xs zL_M)
  | 18, _ => exact (show zf_pc 18 = 802 by decide) ▸ zf_run hB hg (zxo_dip l xs) rfl rfl hD zL_wok hc hs (zl_dip xs zL_M)
  | 19, _ => exact (show zf_pc 19 = 825 by decide) ▸ zf_run hB hg (zxo_deepest l xs) rfl rfl hD zL_wok hc hs (zl_deepest xs zL_M)
  | 20, _ => exact (show zf_pc 20 = 838 by decide) ▸ zf_run hB hg (zxo_youngest l xs) rfl rfl hD zL_wok hc hs (zl_youngest xs zL_M)
  | 21, _ => exact (show zf_pc 21 = 861 by decide) ▸ zf_run hB hg (zxo_oldest l xs) rfl rfl hD zL_wok hc hs (zl_oldest xs zL_M)
  | 22, _ => exact (show zf_pc 22 = 884 by decide) ▸ zf_run hB hg (zxo_meets l xs) rfl rfl hD zL_wok hc hs (zl_meets xs zL_M)
  | 23, _ => exact (show zf_pc 23 = 917 by decide) ▸ zf_run hB hg (zxo_ripe l xs) rfl rfl hD zL_wok hc hs (zl_ripe xs zL_M)
  | 24, _ => exact (show zf_pc 24 = 940 by decide) ▸ zf_run hB hg (zxo_window l xs) rfl rfl hD zL_wok hc hs (zl_window xs zL_M)
  | 25, _ => exact (show zf_pc 25 = 963 by decide) ▸ zf_run hB hg (zxo_misses l xs) rfl rfl hD zL_wok hc hs (zl_misses xs zL_M)
  | 26, _ => exact (show zf_pc 26 = 986 by decide) ▸ zf_run hB hg (zxo_grown l xs) rfl rfl hD zL_wok hc hs (zl_grown xs zL_M)
  | 27, _ => exact (show zf_pc 27 = 1009 by decide) ▸ zf_run hB hg (zxo_beside l xs) rfl rfl hD zL_wok hc hs (zl_beside xs zL_M)
  | 28, _ => exact (show zf_pc 28 = 1042 by decide) ▸ zf_run hB hg (zxo_crowd l xs) rfl rfl hD zL_wok hc hs (zl_crowd xs zL_M)
  | 29, _ => exact (show zf_pc 29 = 1055 by decide) ▸ zf_run hB hg (zxo_next l xs) rfl rfl hD zL_wok hc hs (zl_next xs zL_M)
  | 30, _ => exact (show zf_pc 30 = 1078 by decide) ▸ zf_run hB hg (zxo_years l xs) rfl rfl hD zL_wok hc hs (zl_years xs zL_M)
  | 31, _ => exact (show zf_pc 31 = 1101 by decide) ▸ zf_run hB hg (zxo_last l xs) rfl rfl hD zL_wok hc hs (zl_last xs zL_M)
  | 32, _ => exact (show zf_pc 32 = 1114 by decide) ▸ zf_run hB hg (zxo_twins l xs) rfl rfl hD zL_wok hc hs (zl_twins xs zL_M)
  | 33, _ => exact (show zf_pc 33 = 1137 by decide) ▸ zf_run hB hg (zxo_opens l xs) rfl rfl hD zL_wok hc hs (zl_opens xs zL_M)
  | 34, _ => exact (show zf_pc 34 = 1160 by decide) ▸ zf_run hB hg (zxo_without l xs) rfl rfl hD zL_wok hc hs (zl_without xs zL_M)
  | 35, _ => exact (show zf_pc 35 = 1183 by decide) ▸ zf_run hB hg (zxo_helps l xs) rfl rfl hD zL_wok hc hs (zl_helps xs zL_M)
  | 36, _ => exact (show zf_pc 36 = 1206 by decide) ▸ zf_run hB hg (zxo_less l xs) rfl rfl hD zL_wok hc hs (zl_less xs zL_M)
  | 37, _ => exact (show zf_pc 37 = 1229 by decide) ▸ zf_run hB hg (zxo_tuned l xs) rfl rfl hD zL_wok hc hs (zl_tuned xs zL_M)
  | 38, _ => exact (show zf_pc 38 = 1252 by decide) ▸ zf_run hB hg (zxo_moved l xs) rfl rfl hD zL_wok hc hs (zl_moved xs zL_M)
  | 39, _ => exact (show zf_pc 39 = 1285 by decide) ▸ zf_run hB hg (zxo_suits l xs) rfl rfl hD zL_wok hc hs (zl_suits xs zL_M)
  | 40, _ => exact (show zf_pc 40 = 1308 by decide) ▸ zf_run hB hg (zxo_hour l xs) rfl rfl hD zL_wok hc hs (zl_hour xs zL_M)
  | 41, _ => exact (show zf_pc 41 = 1331 by decide) ▸ zf_run hB hg (zxo_youth l xs) rfl rfl hD zL_wok hc hs (zl_youth xs zL_M)
  | 42, _ => exact (show zf_pc 42 = 1354 by decide) ▸ zf_run hB hg (zxo_best l xs) rfl rfl hD zL_wok hc hs (zl_best xs zL_M)
  | 43, _ => exact (show zf_pc 43 = 1367 by decide) ▸ zf_run hB hg (zxo_plan l xs) rfl rfl hD zL_wok hc hs (zl_plan xs zL_M)
  | 44, _ => exact (show zf_pc 44 = 1390 by decide) ▸ zf_run hB hg (zxo_ways l xs) rfl rfl hD zL_wok hc hs (zl_ways xs zL_M)
  | 45, _ => exact (show zf_pc 45 = 1403 by decide) ▸ zf_run hB hg (zxo_every l xs) rfl rfl hD zL_wok hc hs (zl_every xs zL_M)
  | 46, _ => exact (show zf_pc 46 = 1416 by decide) ▸ zf_run hB hg (zxo_calls l xs) rfl rfl hD zL_wok hc hs (zl_calls xs zL_M)
  | 47, _ => exact (show zf_pc 47 = 1429 by decide) ▸ zf_run hB hg (zxo_none l xs) rfl rfl hD zL_wok hc hs (zl_none xs zL_M)
  | 48, _ => exact (show zf_pc 48 = 1442 by decide) ▸ zf_run hB hg (zxo_by l xs) rfl rfl hD zL_wok hc hs (zl_by xs zL_M)
  | 49, _ => exact (show zf_pc 49 = 1465 by decide) ▸ zf_run hB hg (zxo_law l xs) rfl rfl hD zL_wok hc hs (zl_law xs zL_M)
  | 50, _ => exact (show zf_pc 50 = 1478 by decide) ▸ zf_run hB hg (zxo_laws l xs) rfl rfl hD zL_wok hc hs (zl_laws xs zL_M)
  | 51, _ => exact (show zf_pc 51 = 1501 by decide) ▸ zf_run hB hg (zxo_sat l xs) rfl rfl hD zL_wok hc hs (zl_sat xs zL_M)
  | 52, _ => exact (show zf_pc 52 = 1534 by decide) ▸ zf_run hB hg (zxo_ask l xs) rfl rfl hD zL_wok hc hs (zl_ask xs zL_M)
  | 53, _ => exact (show zf_pc 53 = 1567 by decide) ▸ zf_run hB hg (zxo_marks l xs) rfl rfl hD zL_wok hc hs (zl_marks xs zL_M)
  | 54, _ => exact (show zf_pc 54 = 1590 by decide) ▸ zf_run hB hg (zxo_mark l xs) rfl rfl hD zL_wok hc hs (zl_mark xs zL_M)
  | 55, _ => exact (show zf_pc 55 = 1623 by decide) ▸ zf_run hB hg (zxo_under l xs) rfl rfl hD zL_wok hc hs (zl_under xs zL_M)
  | 56, _ => exact (show zf_pc 56 = 1656 by decide) ▸ zf_run hB hg (zxo_rests l xs) rfl rfl hD zL_wok hc hs (zl_rests xs zL_M)
  | 57, _ => exact (show zf_pc 57 = 1689 by decide) ▸ zf_run hB hg (zxo_rest l xs) rfl rfl hD zL_wok hc hs (zl_rest xs zL_M)
  | 58, _ => exact (show zf_pc 58 = 1722 by decide) ▸ zf_run hB hg (zxo_swaps l xs) rfl rfl hD zL_wok hc hs (zl_swaps xs zL_M)
  | 59, _ => exact (show zf_pc 59 = 1735 by decide) ▸ zf_run hB hg (zxo_swap l xs) rfl rfl hD zL_wok hc hs (zl_swap xs zL_M)
  | 60, _ => exact (show zf_pc 60 = 1748 by decide) ▸ zf_run hB hg (zxo_chance l xs) rfl rfl hD zL_wok hc hs (zl_chance xs zL_M)
  | 61, _ => exact (show zf_pc 61 = 1792 by decide) ▸ zf_run hB hg (zxo_luckily l xs) rfl rfl hD zL_wok hc hs (zl_luckily xs zL_M)
  | 62, _ => exact (show zf_pc 62 = 1836 by decide) ▸ zf_run hB hg (zxo_mean l xs) rfl rfl hD zL_wok hc hs (zl_mean xs zL_M)
  | 63, _ => exact (show zf_pc 63 = 1870 by decide) ▸ zf_run hB hg (zxo_move l xs) rfl rfl hD zL_wok hc hs (zl_move xs zL_M)
  | 64, _ => exact (show zf_pc 64 = 1913 by decide) ▸ zf_run hB hg (zxo_undo l xs) rfl rfl hD zL_wok hc hs (zl_undo xs zL_M)
  | 65, _ => exact (show zf_pc 65 = 1926 by decide) ▸ zf_run hB hg (zxo_anew l xs) rfl rfl hD zL_wok hc hs (zl_anew xs zL_M)
  | 66, _ => exact (show zf_pc 66 = 1939 by decide) ▸ zf_run hB hg (zxo_drawn l xs) rfl rfl hD zL_wok hc hs (zl_drawn xs zL_M)
  | 67, _ => exact (show zf_pc 67 = 1972 by decide) ▸ zf_run hB hg (zxo_luck l xs) rfl rfl hD zL_wok hc hs (zl_luck xs zL_M)
  | 68, _ => exact (show zf_pc 68 = 2015 by decide) ▸ zf_run hB hg (zxo_rate l xs) rfl rfl hD zL_wok hc hs (zl_rate xs zL_M)
  | 69, _ => exact (show zf_pc 69 = 2038 by decide) ▸ zf_run hB hg (zxo_count l xs) rfl rfl hD zL_wok hc hs (zl_count xs zL_M)
  | 70, _ => exact (show zf_pc 70 = 2061 by decide) ▸ himg
  | 71, _ => exact (show zf_pc 71 = 2084 by decide) ▸ zf_run hB hg (zxo_back l xs) rfl rfl hD zL_wok hc hs (zl_back xs zL_M)
  | 72, _ => exact (show zf_pc 72 = 2107 by decide) ▸ zf_run hB hg (zxo_row l xs) rfl rfl hD zL_wok hc hs (zl_row xs zL_M)
  | 73, _ => exact (show zf_pc 73 = 2150 by decide) ▸ zf_run hB hg (zxo_write l xs) rfl rfl hD zL_wok hc hs (zl_write xs zL_M)
  | 74, _ => exact (show zf_pc 74 = 2223 by decide) ▸ zf_run hB hg (zxo_paste l xs) rfl rfl hD zL_wok hc hs (zl_paste xs zL_M)
  | n + 75, h => omega
theorem zf_27 (hB : zf_B p s m meth c b 6 xs D cA g) (hg : ∀ n, h 1 n = g n) (hD : va_D (fun q => s.heap.size ≤ q) (zm_ws cA h zL_C zL_M)) (hc : c0 + 10 ≤ room_1.cells) (hs : s0 + 171 ≤ room_1.slots) : zm_G p l e room_1 s m #[Value.ref b] below meth c (lw_Z below #[Value.ref b] s) D cA h zL_C (fun q => s.heap.size ≤ q) 4 c0 s0 (27, zl_ls, [], zL_M) := by
  have hc' : c0 ≤ room_1.cells := by omega
  have hs' : s0 ≤ room_1.slots := by omega
  generalize hx : (xs 0 &&& 127) = x
  by_cases hr : x.toInt < 0 ∨ 74 < x.toInt
  · refine zf_step (S' := (2286, zl_ls, [], zL_M)) hB hg (zx_sw l 6 xs) rfl rfl hD zL_wok hc' hs' (fun k => (zl_e27 xs zL_M k).trans ?_) (zf_run hB hg (zx_sw l 6 xs) rfl rfl hD zL_wok hc' hs' (zl_tail (zlt_sw xs) zL_C zL_M zL_M))
    rw [hx]
    unfold zm_sw
    simp only []
    rw [if_pos hr]
    rfl
  · have hn : ∃ n : Nat, n < 75 ∧ x.toInt = (n : Int) := ⟨x.toInt.toNat, by omega, by omega⟩
    obtain ⟨n, hn, hxn⟩ := hn
    refine zf_step (S' := (zf_pc n, zl_ls, [], zL_M)) hB hg (zx_sw l 6 xs) rfl rfl hD zL_wok hc' hs' (fun k => (zl_e27 xs zL_M k).trans ?_) (zf_case hB hg hD hc' hs' (zf_img hB hg hD hc hs) n hn)
    rw [hx]
    have hsz : zf_os.size = 75 := by decide +kernel
    have ho : zf_os[n]? = some zf_os[n] := Array.getElem?_eq_getElem (by omega)
    unfold zm_sw
    simp only []
    rw [if_neg hr, show (x.toInt - 0).toNat = n by omega, ho]
    unfold zf_pc
    rw [ho]
    rfl
theorem zf_18 (hL : L ≤ 6) (hB : zf_B p s m meth c b L xs D cA g) (hg : ∀ n, h 1 n = g n) (hD : va_D (fun q => s.heap.size ≤ q) (zm_ws cA h zL_C zL_M)) (hc : c0 + 10 ≤ room_1.cells) (hs : s0 + 171 ≤ room_1.slots) : zm_G p l e room_1 s m #[Value.ref b] below meth c (lw_Z below #[Value.ref b] s) D cA h zL_C (fun q => s.heap.size ≤ q) 4 c0 s0 (18, zl_ls, [], zL_M) := by
  have hc' : c0 ≤ room_1.cells := by omega
  have hs' : s0 ≤ room_1.slots := by omega
  by_cases h6 : L = 6
  · subst h6
    exact zf_step (S' := (27, zl_ls, [], zL_M)) hB hg (zx_sw l 6 xs) rfl rfl hD zL_wok hc' hs' (fun k => (zl_e18 zL_C rfl rfl 0 zL_M k).trans (if_neg (by decide))) (zf_27 hB hg hD hc hs)
  · have hlt : (Int32.ofNat L - 6 : Int32) < 0 := by
      have : ∀ L, L < 6 → (Int32.ofNat L - 6 : Int32) < 0 := by decide
      exact this L (by omega)
    refine zf_run (T := zT_sw L xs) hB hg (zx_sw l L xs) rfl rfl hD zL_wok hc' hs' (M1 := zL_M) ?_
    refine zl_ok_step (S' := (2292, zl_ls, [], zL_M)) (fun k => (zl_e18 zL_C rfl rfl 0 zL_M k).trans (if_pos hlt)) ?_
    refine zl_ok_step (S' := (2293, zl_ls, [.int 1], zL_M)) (fun k => rfl) ?_
    exact ⟨0, rfl⟩
end ZFN
/-- from the entry, for every script of at most 6 ints, the law comes to its end with true -/
theorem whole_start {p : Program} {e : Env} {s : State} {m : MethodId} {below : List Frame} {meth : Method} {c : Code} (l : Launch) (hflags : l.flags = flags0) {b L : Nat} {xs : Nat → Int32} (hL : L ≤ 6) (C0 : lw_At p s m meth c b L xs) : W p l e room_1 s m #[Value.ref b] below meth c s.heap [] 0 0 (lw_Z below #[Value.ref b] s) (entryFrame m ([Value.ref b] : List Value).toArray 4) := by
  obtain ⟨hx, hb, hr, hml, hown, hts, hX, hbl, hlk, hgv⟩ := C0
  obtain ⟨D, cA, hK⟩ := zs_known hts
  obtain ⟨g0, hZ0⟩ := zs_str hts hgv
  have hAO := zs_AO hts
  have hZ : zm_Z (fun k => if k = 100 then b else g0 k) (fun q => s.heap.size ≤ q) s s.heap := by
    obtain ⟨⟨adV, h1, h2⟩, h3⟩ := hZ0
    have hg : ∀ i, i < 13 → (if i = 100 then b else g0 i) = g0 i := fun i hi => if_neg (by omega)
    refine ⟨⟨adV, fun i hi => ?_, fun i j hi hj he => h2 i j hi hj ?_⟩, fun i q hq => ?_⟩
    · simp only [hg i hi]
      exact h1 i hi
    · simp only [hg i hi, hg j hj] at he
      exact he
    · have hi : i < 13 := (List.getElem?_eq_some_iff.mp hq).1
      simp only [hg i hi]
      exact h3 i q hq
  have hB : zf_B p s m meth c b L xs D cA (fun k => if k = 100 then b else g0 k) := by
    refine ⟨fun T h1 h2 h c0 s0 hg hc hs => ⟨hx, hb, hml, hown, fun w hw => hts w (zs_in hw), hK, by rw [h1]; exact hr, hlk, ?_, ⟨hc, hs⟩, fun x hx9 => ?_⟩, hAO⟩
    · rw [show h 1 = (fun k => if k = 100 then b else g0 k) from funext hg]
      exact hZ
    · have hb100 : h 1 100 = b := by rw [hg]; rfl
      rcases h2 with h2 | h2
      · rw [h2] at hx9
        cases hx9
      · rw [h2] at hx9
        cases hx9
        rw [hb100]
        exact ⟨hX, hbl, Nat.not_le.mpr hbl⟩
  have hnp : ∀ (pc idx a b : Nat), zm_look zU_L0.1 pc ≠ some (.putfield idx, a, b) := fun pc idx a b hq => by
    have := List.all_eq_true.mp (show zA_L0.all (fun q => match q.2.1 with
      | .putfield _ => false
      | _ => true) = true by decide +kernel) _ (zm_look_mem hq)
    cases this
  generalize hh0 : (fun (a k : Nat) => if a = 1 then (if k = 100 then b else g0 k) else 0) = h0
  have hg0 : ∀ n, h0 1 n = (fun k => if k = 100 then b else g0 k) n := fun n => by rw [← hh0]; rfl
  have hzn : zn_B p s m #[Value.ref b] meth c R_law code 4 ([], [], [], ret, none) D cA (fun k => if k = 100 then b else g0 k) (fun q => s.heap.size ≤ q) room_1 := ⟨hB.1 _ rfl (Or.inl rfl), fun q hq => hq, hAO⟩
  have hgo := zn_go_ok (l := l) (e := e) (below := below) (Q := lw_Z below #[Value.ref b] s) hzn (Or.inr hnp) ⟨rfl, rfl⟩ (zx_L0 l) 12 h0 zL_S0 zL_S1 hg0 (Nat.zero_le _) (Nat.zero_le _) zL_go
  rw [lg_entry_eq]
  have hl := lv_entry ([Value.ref b] : List Value) (n := 4) (by simp [lg_sl, Value.category])
  have hP0 : va_P D zm_cl (zm_ws cA h0 [] (fun _ _ => 0, fun _ _ => 0)) s.heap := fun k q hq => by simp [zm_ws] at hq
  have hD0 : va_D (fun q => s.heap.size ≤ q) (zm_ws cA h0 [] (fun _ _ => 0, fun _ _ => 0)) := ⟨fun i j x y hi => by simp [zm_ws] at hi, fun k q hq => by simp [zm_ws] at hq⟩
  refine hgo.2 (fun h1 hx1 => ?_) hD0 (fun a _ => ⟨fun _ => rfl, fun _ => rfl⟩) (fun n C len rs hq => by simp [zL_S0] at hq) s.heap [] _ ⟨rfl, hl.1, hl.2.1, fun k v hk => ?_⟩ hP0 va_S.rf
  · have hg1 : ∀ n, h1 1 n = (fun k => if k = 100 then b else g0 k) n := fun n => (hx1.2 n).trans (hg0 n)
    rw [zL_S1_eq]
    intro hD1 hfr1 hw1 H locs la hl1 hP1 hS1
    have hP2 : va_P D zm_cl (zm_ws cA (zn_hp zL_p h1) zL_C zL_M) H := zn_perm_P zL_perm hP1
    have hD2 : va_D (fun q => s.heap.size ≤ q) (zm_ws cA (zn_hp zL_p h1) zL_C zL_M) := zn_perm_D zL_perm hD1
    have hg2 : ∀ n, zn_hp zL_p h1 1 n = (fun k => if k = 100 then b else g0 k) n := hg1
    have hl2 : zm_lok (zn_hp zL_p h1) 4 zl_ls la := by
      refine ⟨rfl, hl1.2.1, hl1.2.2.1, fun k v hk => ?_⟩
      match k, hk with
      | 0, hk => cases hk; exact hl1.2.2.2 0 _ rfl
      | 1, hk => cases hk; exact hl1.2.2.2 1 _ rfl
      | 2, hk => cases hk; exact hl1.2.2.2 2 _ rfl
      | 3, hk => cases hk; exact hl1.2.2.2 3 _ rfl
      | k + 4, hk => cases hk
    exact zf_18 hL hB hg2 hD2 (Nat.le_of_ble_eq_true rfl) (Nat.le_of_ble_eq_true rfl) H locs la hl2 hP2 hS1
  · match k, hk with
    | 0, hk =>
      cases hk
      have hb100 : h0 1 100 = b := by rw [hg0]; rfl
      show _ = some (Slot.val (Value.ref (h0 1 100)))
      rw [hb100]
      rfl
    | 1, hk => cases hk
    | 2, hk => cases hk
    | 3, hk => cases hk
    | k + 4, hk => cases hk
