/-! 59.imgrun, 59.zS, 59.zU -/
section
/-! IMAGE, BACK: what they answer and leave behind -/
theorem zy_nohit {W : zt_W} {n i : Nat} (h : W.all (fun w => Nat.ble (w.1 + 1) 10) = true) (hn : 10 ≤ n) : zt_hit W n i = false := by
  cases hq : zt_hit W n i with
  | false => rfl
  | true =>
    obtain ⟨w, hw, he⟩ := List.any_eq_true.mp hq
    simp only [Bool.and_eq_true] at he
    have h1 := Nat.eq_of_beq_eq_true he.1.1
    have h2 := Nat.le_of_ble_eq_true (List.all_eq_true.mp h w hw)
    omega
def zy_cW : zt_W := [(0, 0, 7), (1, 0, 5), (2, 0, 4), (3, 0, 4), (4, 0, 4), (5, 0, 4), (6, 0, 4), (7, 0, 40), (8, 0, 40), (9, 0, 40)]
theorem zy_cWb : zy_cW.all (fun w => Nat.ble (w.1 + 1) 10) = true := rfl
theorem zy_g4 : zo_g4 = zo_g2 ++ zo_g2 := by decide +kernel
theorem zy_g1 : zo_g2 = (zo_g1.drop 1).take 10 := by decide +kernel
theorem zy_g2l : zo_g2.length = 10 := by decide +kernel
theorem zy_g2z : zo_g2.all (fun g => g.all (fun b => zt_le b.1 (.ofNat 0) && zt_le (.ofNat 0) b.2)) = true := by decide +kernel
theorem zy_f2 {a b n : Nat} (M : zm_I) : (n < 10 → (zm_sub2 [(a, 10), (b, 10)] M).1 n = M.1 (a + n) ∧ (zm_sub2 [(a, 10), (b, 10)] M).2 n = M.2 (a + n)) ∧ (n < 10 → (zm_sub2 [(a, 10), (b, 10)] M).1 (10 + n) = M.1 (b + n) ∧ (zm_sub2 [(a, 10), (b, 10)] M).2 (10 + n) = M.2 (b + n)) := by
  constructor
  · intro h
    have : zm_fw [(a, 10), (b, 10)] n = a + n := by simp only [zm_fw]; rw [if_pos h]
    exact ⟨by show M.1 (zm_fw [(a, 10), (b, 10)] n) = _; rw [this], by show M.2 (zm_fw [(a, 10), (b, 10)] n) = _; rw [this]⟩
  · intro h
    have : zm_fw [(a, 10), (b, 10)] (10 + n) = b + n := by
      simp only [zm_fw]
      rw [if_neg (by omega), if_pos (by omega)]
      omega
    exact ⟨by show M.1 (zm_fw [(a, 10), (b, 10)] (10 + n)) = _; rw [this], by show M.2 (zm_fw [(a, 10), (b, 10)] (10 + n)) = _; rw [this]⟩
theorem zy_G4 {a b : Nat} {M : zm_I} (hA : zt_Gs zo_g2 (zm_sub2 [(a, 10)] M)) (hB : zt_Gs zo_g2 (zm_sub2 [(b, 10)] M)) : zt_Gs zo_g4 (zm_sub2 [(a, 10), (b, 10)] M) := by
  intro n g hg i bb hb
  rw [zy_g4] at hg
  by_cases hn : n < 10
  · rw [List.getElem?_append_left (by rw [zy_g2l]; exact hn)] at hg
    have := hA n g hg i bb hb
    rw [(zy_s1 hn M).1] at this
    rw [((zy_f2 M).1 hn).1]
    exact this
  · rw [List.getElem?_append_right (by rw [zy_g2l]; omega), zy_g2l] at hg
    have hlt : n - 10 < 10 := by rw [← zy_g2l]; exact (List.getElem?_eq_some_iff.mp hg).1
    have := hB (n - 10) g hg i bb hb
    rw [(zy_s1 hlt M).1] at this
    have e : n = 10 + (n - 10) := by omega
    rw [e, ((zy_f2 M).2 hlt).1]
    exact this
theorem zy_now {M : zm_I} (h : zt_Gs zo_g1 (zm_sub2 [(0, 164)] M)) : zt_Gs zo_g2 (zm_sub2 [(1, 10)] M) := by
  intro n g hg i bb hb
  have hn : n < 10 := by rw [← zy_g2l]; exact (List.getElem?_eq_some_iff.mp hg).1
  rw [zy_g1, List.getElem?_take, if_pos hn, List.getElem?_drop] at hg
  have := h (1 + n) g hg i bb hb
  rw [(zy_s1 (by omega) M).1, Nat.zero_add] at this
  rw [(zy_s1 hn M).1]
  exact this
theorem zy_G0 {a : Nat} {M : zm_I} (h : ∀ n, n < 10 → ∀ i, M.1 (a + n) i = 0) : zt_Gs zo_g2 (zm_sub2 [(a, 10)] M) := by
  intro n g hg i bb hb
  have hn : n < 10 := by rw [← zy_g2l]; exact (List.getElem?_eq_some_iff.mp hg).1
  rw [(zy_s1 hn M).1, h n hn]
  have := List.all_eq_true.mp (List.all_eq_true.mp zy_g2z g (List.mem_of_getElem? hg)) bb (List.mem_of_getElem? hb)
  simp only [Bool.and_eq_true, zt_le_ok] at this
  exact this
theorem zy_dis2 {q len : Nat} (h : 196 ≤ q) (hl : q + 10 ≤ len) : (zm_dis [(q, 10), (1, 10)] && zm_bound len [(q, 10), (1, 10)]) = true ∧ (zm_dis [(1, 10), (q, 10)] && zm_bound len [(1, 10), (q, 10)]) = true := by
  have e1 : Nat.ble (1 + 10) q = true := Nat.ble_eq_true_of_le (by omega)
  have e2 : Nat.ble (q + 10) len = true := Nat.ble_eq_true_of_le hl
  have e3 : Nat.ble (1 + 10) len = true := Nat.ble_eq_true_of_le (by omega)
  simp only [zm_dis, zm_apart, zm_bound, e1, e2, e3, Bool.or_true, Bool.true_or, Bool.and_true]
  exact ⟨trivial, trivial⟩
theorem zy_tr2 {q : Nat} (h : 196 ≤ q) : ([.ref q, .ref 1] : List Value).map (zm_tr [(q, 10), (1, 10)]) = [.ref 0, .ref 10] ∧ ([.ref 1, .ref q] : List Value).map (zm_tr [(1, 10), (q, 10)]) = [.ref 0, .ref 10] := by
  have e1 : zm_iv [(q, 10), (1, 10)] q = 0 := by simp only [zm_iv]; rw [if_pos (by omega)]; omega
  have e2 : zm_iv [(q, 10), (1, 10)] 1 = 10 := by simp only [zm_iv]; rw [if_neg (by omega), if_pos (by omega)]
  have e3 : zm_iv [(1, 10), (q, 10)] 1 = 0 := by simp only [zm_iv]; rw [if_pos (by omega)]
  have e4 : zm_iv [(1, 10), (q, 10)] q = 10 := by simp only [zm_iv]; rw [if_neg (by omega), if_pos (by omega)]; omega
  simp only [List.map_cons, List.map_nil, zm_tr, e1, e2, e3, e4]
  exact ⟨trivial, trivial⟩
/-- behind copyFrom: the first block is new, all else is as it was -/
theorem zy_cp {a b : Nat} (hab : a + 10 ≤ b ∨ b + 10 ≤ a) {M N : zm_I} (hf : zt_fr zy_cW (zm_sub2 [(a, 10), (b, 10)] M) N) (n : Nat) : (n < 10 → (zm_mrg [(a, 10), (b, 10)] M N).1 (a + n) = N.1 n ∧ (zm_mrg [(a, 10), (b, 10)] M N).2 (a + n) = N.2 n) ∧ (n < a ∨ a + 10 ≤ n → (zm_mrg [(a, 10), (b, 10)] M N).1 n = M.1 n ∧ (zm_mrg [(a, 10), (b, 10)] M N).2 n = M.2 n) := by
  have inn : ∀ {q : Nat}, (a ≤ q ∧ q < a + 10) ∨ (b ≤ q ∧ q < b + 10) → zm_in [(a, 10), (b, 10)] q = true := by
    intro q hq
    simp only [zm_in, Bool.or_false, Bool.or_eq_true, Bool.and_eq_true]
    rcases hq with hq | hq
    · exact Or.inl ⟨Nat.ble_eq_true_of_le hq.1, Nat.ble_eq_true_of_le hq.2⟩
    · exact Or.inr ⟨Nat.ble_eq_true_of_le hq.1, Nat.ble_eq_true_of_le hq.2⟩
  have out : ∀ {q : Nat}, (q < a ∨ a + 10 ≤ q) → (q < b ∨ b + 10 ≤ q) → zm_in [(a, 10), (b, 10)] q = false := by
    intro q h1 h2
    cases hz : zm_in [(a, 10), (b, 10)] q with
    | false => rfl
    | true =>
      simp only [zm_in, Bool.or_false, Bool.or_eq_true, Bool.and_eq_true] at hz
      rcases hz with hz | hz
      · have := Nat.le_of_ble_eq_true hz.1
        have := Nat.le_of_ble_eq_true hz.2
        omega
      · have := Nat.le_of_ble_eq_true hz.1
        have := Nat.le_of_ble_eq_true hz.2
        omega
  constructor
  · intro hn
    have e : zm_iv [(a, 10), (b, 10)] (a + n) = n := by simp only [zm_iv]; rw [if_pos (by omega)]; omega
    constructor <;> funext i <;> simp only [zm_mrg, inn (q := a + n) (Or.inl ⟨by omega, by omega⟩), e]
  · intro hn
    by_cases hb : b ≤ n ∧ n < b + 10
    · have e : zm_iv [(a, 10), (b, 10)] n = 10 + (n - b) := by simp only [zm_iv]; rw [if_neg (by omega), if_pos hb]
      have hk := fun i => hf (10 + (n - b)) i (zy_nohit zy_cWb (by omega))
      have hv := (zy_f2 (a := a) (b := b) (n := n - b) M).2 (by omega)
      have en : b + (n - b) = n := by omega
      rw [en] at hv
      constructor
      · funext i
        simp only [zm_mrg, inn (q := n) (Or.inr hb), e]
        rw [(hk i).1, hv.1]
      · funext i
        simp only [zm_mrg, inn (q := n) (Or.inr hb), e]
        rw [(hk i).2, hv.2]
    · have := out hn (q := n) (by omega)
      constructor <;> funext i <;> simp only [zm_mrg, this]
theorem zy_copy {M : zm_I} (hG : zt_Gs zo_g4 M) : ∃ N, zF_X0_copyFrom zW_BB [.ref 0, .ref 10] M = some (none, N) ∧ zt_Gs zo_g4 N ∧ zt_fr zy_cW M N := by
  obtain ⟨v, N, h1, h2, h3, o, h4, h5⟩ := zp_get (w0 := zW_BB) (G := zo_g4) (zi_53 0 zo_hd) rfl rfl (zq_s1 zq_r0 (zq_s1 zq_r0 zq_s0)) zh_no hG
  have h4 : o = (none, [], [], []) := List.mem_singleton.mp h4
  subst h4
  have h5 : v = none := h5.1
  subst h5
  exact ⟨N, h1, h2, h3⟩
/-- a copy into the kept bench i, or out of it -/
def zy_cpy (a b : Nat) (M N : zm_I) : Prop := zF_X0_copyFrom zW_BB [.ref 0, .ref 10] (zm_sub2 [(a, 10), (b, 10)] M) = some (none, N) ∧ zt_Gs zo_g4 N ∧ zt_fr zy_cW (zm_sub2 [(a, 10), (b, 10)] M) N
theorem zi_copy {ks : List Nat} (hks : ks ∈ zK_all) {i : Nat} (hi : i < ks.length) {M : zm_I} (hI : zy_I ks M) (x : Int32) : ∃ N, zm_V zT_im (zL_w ks) (38, [some (.ref 0), some (.int x), some (.ref (196 + 10 * i))], [], M) = some (some (.int 0), zm_mrg [(196 + 10 * i, 10), (1, 10)] M N) ∧ zy_cpy (196 + 10 * i) 1 M N := by
  obtain ⟨N, h1, h2, h3⟩ := zy_copy (zy_G4 (hI.2.2.2.1 i hi) (zy_now hI.1))
  obtain ⟨-, -, hl, -, -, hz⟩ := zK_w hks
  obtain ⟨z1, -, z3⟩ := hz i hi
  refine ⟨N, ?_, h1, h2, h3⟩
  generalize hq : 196 + 10 * i = q at *
  have z3 : zm_recv (zL_w ks) [.ref q, .ref 1] (some 0) = true := z3
  have e1 : zm_step zT_im (zL_w ks) (zm_V zT_im (zL_w ks)) (38, [some (.ref 0), some (.int x), some (.ref q)], [], M) = zm_gf (zm_seq zT_im (zL_w ks) (zm_V zT_im (zL_w ks)) [(.invokevirtual 102, 0, 0)] 43) (zL_w ks) 9 1 [some (.ref 0), some (.int x), some (.ref q)] [.ref 0, .ref q] M := rfl
  have e2 : zm_seq zT_im (zL_w ks) (zm_V zT_im (zL_w ks)) [(.invokevirtual 102, 0, 0)] 43 [some (.ref 0), some (.int x), some (.ref q)] [zm_vA M 0 zK_c0 (zm_ty 9 1) 1, .ref q] M = zm_app (2, some 0, false, [(0, 10), (1, 10)], zF_X0_copyFrom) (zL_w ks) [.ref q, .ref 1] M (fun v N => zm_V zT_im (zL_w ks) (46, [some (.ref 0), some (.int x), some (.ref q)], v.toList ++ [], N)) := rfl
  rw [zm_V_eq, e1, zy_gf (zK_0 ks), e2, zm_app_l (wc := zW_BB) (ac := [.ref 0, .ref 10]) (bs := [(q, 10), (1, 10)]) z3 rfl rfl (zy_dis2 (by omega) (by omega)).1 z1 (zy_tr2 (by omega)).1 h1]
  exact (zm_V_eq _ _ _).trans rfl
theorem zi_imR {wl : zm_L} {M : zm_I} {x : Int32} (h : x < 0 ∨ ¬ x < 3) : zF_im wl [.ref 0, .int x] M = some (some (.int (-2)), M) := by
  have e0 : zF_im wl [.ref 0, .int x] M = if x < 0 then zm_V zT_im wl (9, [some (.ref 0), some (.int x), none], [], M) else zm_V zT_im wl (4, [some (.ref 0), some (.int x), none], [], M) := (zm_V_eq _ _ _).trans rfl
  have e4 : zm_V zT_im wl (4, [some (.ref 0), some (.int x), none], [], M) = if x < 3 then zm_V zT_im wl (12, [some (.ref 0), some (.int x), none], [], M) else zm_V zT_im wl (9, [some (.ref 0), some (.int x), none], [], M) := (zm_V_eq _ _ _).trans rfl
  have e9 : zm_V zT_im wl (9, [some (.ref 0), some (.int x), none], [], M) = some (some (.int (-2)), M) := (zm_V_eq _ _ _).trans rfl
  by_cases h0 : x < 0
  · rw [e0, if_pos h0, e9]
  · rw [e0, if_neg h0, e4, if_neg (h.resolve_left h0), e9]
theorem zi_imK {ks : List Nat} {M : zm_I} {k i : Nat} (hk : k < 3) (hi : zK_ix ks k = some i) : zF_im (zL_w ks) [.ref 0, .int (Int32.ofNat k)] M = zm_V zT_im (zL_w ks) (38, [some (.ref 0), some (.int (Int32.ofNat k)), some (.ref (196 + 10 * i))], [], M) := by
  have e0 : zF_im (zL_w ks) [.ref 0, .int (Int32.ofNat k)] M = if Int32.ofNat k < 0 then zm_V zT_im (zL_w ks) (9, zi_ls k none, [], M) else zm_V zT_im (zL_w ks) (4, zi_ls k none, [], M) := (zm_V_eq _ _ _).trans rfl
  have e4 : zm_V zT_im (zL_w ks) (4, zi_ls k none, [], M) = if Int32.ofNat k < 3 then zm_V zT_im (zL_w ks) (12, zi_ls k none, [], M) else zm_V zT_im (zL_w ks) (9, zi_ls k none, [], M) := (zm_V_eq _ _ _).trans rfl
  obtain ⟨-, -, h1, h2⟩ := zi_k3 k hk
  rw [e0, if_neg h1, e4, if_pos h2, zm_V_eq, zi_read (T := zT_im) (off := 18) (pcT := 38) (pcN := 23) (b0 := []) rfl rfl rfl hk, hi]
-- back
theorem zi_bkR {wl : zm_L} {M : zm_I} {x : Int32} (h : x < 0 ∨ ¬ x < 3) : zF_X9_back wl [.ref 0, .int x] M = some (some (.int (-2)), M) := by
  have e0 : zF_X9_back wl [.ref 0, .int x] M = if x < 0 then zm_V zT_X9_back wl (9, [some (.ref 0), some (.int x), none], [], M) else zm_V zT_X9_back wl (4, [some (.ref 0), some (.int x), none], [], M) := (zm_V_eq _ _ _).trans rfl
  have e4 : zm_V zT_X9_back wl (4, [some (.ref 0), some (.int x), none], [], M) = if x < 3 then zm_V zT_X9_back wl (12, [some (.ref 0), some (.int x), none], [], M) else zm_V zT_X9_back wl (9, [some (.ref 0), some (.int x), none], [], M) := (zm_V_eq _ _ _).trans rfl
  have e9 : zm_V zT_X9_back wl (9, [some (.ref 0), some (.int x), none], [], M) = some (some (.int (-2)), M) := (zm_V_eq _ _ _).trans rfl
  by_cases h0 : x < 0
  · rw [e0, if_pos h0, e9]
  · rw [e0, if_neg h0, e4, if_neg (h.resolve_left h0), e9]
theorem zi_bk12 {ks : List Nat} {M : zm_I} {k : Nat} (hk : k < 3) : zF_X9_back (zL_w ks) [.ref 0, .int (Int32.ofNat k)] M = match zK_ix ks k with
  | some i => zm_V zT_X9_back (zL_w ks) (26, zi_ls k (some (.ref (196 + 10 * i))), [], M)
  | none => zm_V zT_X9_back (zL_w ks) (23, zi_ls k (some .null), [], M) := by
  have e0 : zF_X9_back (zL_w ks) [.ref 0, .int (Int32.ofNat k)] M = if Int32.ofNat k < 0 then zm_V zT_X9_back (zL_w ks) (9, zi_ls k none, [], M) else zm_V zT_X9_back (zL_w ks) (4, zi_ls k none, [], M) := (zm_V_eq _ _ _).trans rfl
  have e4 : zm_V zT_X9_back (zL_w ks) (4, zi_ls k none, [], M) = if Int32.ofNat k < 3 then zm_V zT_X9_back (zL_w ks) (12, zi_ls k none, [], M) else zm_V zT_X9_back (zL_w ks) (9, zi_ls k none, [], M) := (zm_V_eq _ _ _).trans rfl
  obtain ⟨-, -, h1, h2⟩ := zi_k3 k hk
  rw [e0, if_neg h1, e4, if_pos h2, zm_V_eq, zi_read (T := zT_X9_back) (off := 6) (pcT := 26) (pcN := 23) (b0 := []) rfl rfl rfl hk]
  cases zK_ix ks k <;> rfl
theorem zy_pf {kn : zm_N} {wl : zm_L} {n ci f : Nat} {rs : List Value} {ls : List (Option Value)} {st : List Value} {x : Int32} {M : zm_I} (h : wl[n]? = some (.inl ci, rs)) (hf : zm_fin ci f = false) (ht : zm_ty ci f = .boolean) (hx : x = 0 ∨ x = 1) : zm_pf kn wl ci f ls (.int x :: .ref n :: st) M = kn ls st (zm_w M.1 n f x, M.2) := by
  unfold zm_pf
  simp only [hf, h, Nat.beq_refl, ht]
  rw [if_pos hx]
def zi_fg (M : zm_I) : zm_I := (zm_w (zm_w (zm_w M.1 21 1 (Int32.ofInt 0)) 68 0 (Int32.ofInt 0)) 72 0 (Int32.ofInt 0), M.2)
theorem zi_forget {ks : List Nat} {M : zm_I} : zF_X9_forgetAnswers (zL_w ks) [.ref 0] M = some (none, zi_fg M) := by
  have h21 : ∃ rs, (zL_w ks)[21]? = some (.inl 3, rs) := ⟨_, zK_at (by rfl) (by decide)⟩
  have h68 : ∃ rs, (zL_w ks)[68]? = some (.inl 6, rs) := ⟨_, zK_at (by rfl) (by decide)⟩
  have h72 : ∃ rs, (zL_w ks)[72]? = some (.inl 1, rs) := ⟨_, zK_at (by rfl) (by decide)⟩
  obtain ⟨r21, h21⟩ := h21
  obtain ⟨r68, h68⟩ := h68
  obtain ⟨r72, h72⟩ := h72
  have h0 : (Int32.ofInt 0 : Int32) = 0 ∨ (Int32.ofInt 0 : Int32) = 1 := Or.inl (by decide)
  generalize hV : zm_V zT_X9_forgetAnswers (zL_w ks) = V
  have e0 : zF_X9_forgetAnswers (zL_w ks) [.ref 0] M = zm_V zT_X9_forgetAnswers (zL_w ks) (0, [some (.ref 0)], [], M) := rfl
  have e1 : zm_step zT_X9_forgetAnswers (zL_w ks) V (0, [some (.ref 0)], [], M) = zm_gf (zm_seq zT_X9_forgetAnswers (zL_w ks) V [(.iconst 0, 0, 0), (.putfield 385, 3, 1), (.aload_n 0, 0, 0), (.getfield 56, 9, 8), (.iconst 0, 0, 0), (.putfield 388, 6, 0), (.aload_n 0, 0, 0), (.getfield 63, 9, 9), (.iconst 0, 0, 0), (.putfield 389, 1, 0), (.return_, 0, 0)] 4) (zL_w ks) 9 5 [some (.ref 0)] [.ref 0] M := rfl
  rw [e0, zm_V_eq, hV, e1, zy_gf (zK_0 ks)]
  have e2 : zm_seq zT_X9_forgetAnswers (zL_w ks) V [(.iconst 0, 0, 0), (.putfield 385, 3, 1), (.aload_n 0, 0, 0), (.getfield 56, 9, 8), (.iconst 0, 0, 0), (.putfield 388, 6, 0), (.aload_n 0, 0, 0), (.getfield 63, 9, 9), (.iconst 0, 0, 0), (.putfield 389, 1, 0), (.return_, 0, 0)] 4 [some (.ref 0)] [zm_vA M 0 zK_c0 (zm_ty 9 5) 5] M = zm_pf (zm_seq zT_X9_forgetAnswers (zL_w ks) V [(.aload_n 0, 0, 0), (.getfield 56, 9, 8), (.iconst 0, 0, 0), (.putfield 388, 6, 0), (.aload_n 0, 0, 0), (.getfield 63, 9, 9), (.iconst 0, 0, 0), (.putfield 389, 1, 0), (.return_, 0, 0)] 8) (zL_w ks) 3 1 [some (.ref 0)] [.int (Int32.ofInt 0), .ref 21] M := rfl
  rw [e2, zy_pf h21 rfl rfl h0]
  generalize hM1 : ((zm_w M.1 21 1 (Int32.ofInt 0), M.2) : zm_I) = M1
  have e3 : zm_seq zT_X9_forgetAnswers (zL_w ks) V [(.aload_n 0, 0, 0), (.getfield 56, 9, 8), (.iconst 0, 0, 0), (.putfield 388, 6, 0), (.aload_n 0, 0, 0), (.getfield 63, 9, 9), (.iconst 0, 0, 0), (.putfield 389, 1, 0), (.return_, 0, 0)] 8 [some (.ref 0)] [] M1 = zm_gf (zm_seq zT_X9_forgetAnswers (zL_w ks) V [(.iconst 0, 0, 0), (.putfield 388, 6, 0), (.aload_n 0, 0, 0), (.getfield 63, 9, 9), (.iconst 0, 0, 0), (.putfield 389, 1, 0), (.return_, 0, 0)] 12) (zL_w ks) 9 8 [some (.ref 0)] [.ref 0] M1 := rfl
  rw [e3, zy_gf (zK_0 ks)]
  have e4 : zm_seq zT_X9_forgetAnswers (zL_w ks) V [(.iconst 0, 0, 0), (.putfield 388, 6, 0), (.aload_n 0, 0, 0), (.getfield 63, 9, 9), (.iconst 0, 0, 0), (.putfield 389, 1, 0), (.return_, 0, 0)] 12 [some (.ref 0)] [zm_vA M1 0 zK_c0 (zm_ty 9 8) 8] M1 = zm_pf (zm_seq zT_X9_forgetAnswers (zL_w ks) V [(.aload_n 0, 0, 0), (.getfield 63, 9, 9), (.iconst 0, 0, 0), (.putfield 389, 1, 0), (.return_, 0, 0)] 16) (zL_w ks) 6 0 [some (.ref 0)] [.int (Int32.ofInt 0), .ref 68] M1 := rfl
  rw [e4, zy_pf h68 rfl rfl h0]
  generalize hM2 : ((zm_w M1.1 68 0 (Int32.ofInt 0), M1.2) : zm_I) = M2
  have e5 : zm_seq zT_X9_forgetAnswers (zL_w ks) V [(.aload_n 0, 0, 0), (.getfield 63, 9, 9), (.iconst 0, 0, 0), (.putfield 389, 1, 0), (.return_, 0, 0)] 16 [some (.ref 0)] [] M2 = zm_gf (zm_seq zT_X9_forgetAnswers (zL_w ks) V [(.iconst 0, 0, 0), (.putfield 389, 1, 0), (.return_, 0, 0)] 20) (zL_w ks) 9 9 [some (.ref 0)] [.ref 0] M2 := rfl
  rw [e5, zy_gf (zK_0 ks)]
  have e6 : zm_seq zT_X9_forgetAnswers (zL_w ks) V [(.iconst 0, 0, 0), (.putfield 389, 1, 0), (.return_, 0, 0)] 20 [some (.ref 0)] [zm_vA M2 0 zK_c0 (zm_ty 9 9) 9] M2 = zm_pf (zm_seq zT_X9_forgetAnswers (zL_w ks) V [(.return_, 0, 0)] 24) (zL_w ks) 1 0 [some (.ref 0)] [.int (Int32.ofInt 0), .ref 72] M2 := rfl
  rw [e6, zy_pf h72 rfl rfl h0]
  subst hM2 hM1
  rfl
theorem zi_bkN {ks : List Nat} {M : zm_I} {k : Nat} (hk : k < 3) (hi : zK_ix ks k = none) : zF_X9_back (zL_w ks) [.ref 0, .int (Int32.ofNat k)] M = some (some (.int (-6)), M) := by
  rw [zi_bk12 hk, hi]
  exact (zm_V_eq _ _ _).trans rfl
theorem zi_bkK {ks : List Nat} (hks : ks ∈ zK_all) {M : zm_I} (hI : zy_I ks M) {k i : Nat} (hk : k < 3) (hx : zK_ix ks k = some i) : ∃ N, zF_X9_back (zL_w ks) [.ref 0, .int (Int32.ofNat k)] M = some (some (.int 0), zi_fg (zm_mrg [(1, 10), (196 + 10 * i, 10)] M N)) ∧ zy_cpy 1 (196 + 10 * i) M N := by
  have hi := zK_old hks hk hx
  obtain ⟨N, h1, h2, h3⟩ := zy_copy (zy_G4 (zy_now hI.1) (hI.2.2.2.1 i hi))
  obtain ⟨-, -, hl, -, -, hz⟩ := zK_w hks
  obtain ⟨-, z2, -⟩ := hz i hi
  refine ⟨N, ?_, h1, h2, h3⟩
  rw [zi_bk12 hk, hx]
  dsimp only
  generalize hq : 196 + 10 * i = q at *
  have hr1 : ∃ rs, (zL_w ks)[1]? = some (.inl 0, rs) := ⟨_, zK_at (by rfl) (by decide)⟩
  obtain ⟨r1, hr1⟩ := hr1
  have z3 : zm_recv (zL_w ks) [.ref 1, .ref q] (some 0) = true := by
    show zm_isO (zL_w ks) 0 (.ref 1) = true
    simp only [zm_isO, hr1]
    rfl
  have z4 : zm_recv (zL_w ks) [.ref 0] (some 9) = true := by
    show zm_isO (zL_w ks) 9 (.ref 0) = true
    simp only [zm_isO, zK_0]
    rfl
  have e1 : zm_step zT_X9_back (zL_w ks) (zm_V zT_X9_back (zL_w ks)) (26, zi_ls k (some (.ref q)), [], M) = zm_gf (zm_seq zT_X9_back (zL_w ks) (zm_V zT_X9_back (zL_w ks)) [(.aload_n 2, 0, 0), (.invokevirtual 102, 0, 0)] 30) (zL_w ks) 9 1 (zi_ls k (some (.ref q))) [.ref 0] M := rfl
  have e2 : zm_seq zT_X9_back (zL_w ks) (zm_V zT_X9_back (zL_w ks)) [(.aload_n 2, 0, 0), (.invokevirtual 102, 0, 0)] 30 (zi_ls k (some (.ref q))) [zm_vA M 0 zK_c0 (zm_ty 9 1) 1] M = zm_app (2, some 0, false, [(0, 10), (1, 10)], zF_X0_copyFrom) (zL_w ks) [.ref 1, .ref q] M (fun v N => zm_V zT_X9_back (zL_w ks) (34, zi_ls k (some (.ref q)), v.toList ++ [], N)) := rfl
  rw [zm_V_eq, e1, zy_gf (zK_0 ks), e2, zm_app_l (wc := zW_BB) (ac := [.ref 0, .ref 10]) (bs := [(1, 10), (q, 10)]) z3 rfl rfl (zy_dis2 (by omega) (by omega)).2 z2 (zy_tr2 (by omega)).2 h1]
  generalize zm_mrg [(1, 10), (q, 10)] M N = M1
  have e3 : zm_step zT_X9_back (zL_w ks) (zm_V zT_X9_back (zL_w ks)) (34, zi_ls k (some (.ref q)), [], M1) = zm_app (1, some 9, true, [], zF_X9_forgetAnswers) (zL_w ks) [.ref 0] M1 (fun v N => zm_V zT_X9_back (zL_w ks) (38, zi_ls k (some (.ref q)), v.toList ++ [], N)) := rfl
  show zm_V zT_X9_back (zL_w ks) (34, zi_ls k (some (.ref q)), [], M1) = _
  rw [zm_V_eq, e3, zm_app_s z4 rfl zi_forget]
  exact (zm_V_eq _ _ _).trans rfl
/-! what holds behind them -/
theorem zy_Gw {G : zt_G} {M : zm_I} {n i : Nat} {x : Int32} (hG : zt_Gs G M) (h : (match G[n]? with
  | some g => match g[i % g.length]? with
    | some b => zt_le b.1 x.toInt && zt_le x.toInt b.2
    | none => true
  | none => true) = true) : zt_Gs G (zm_w M.1 n i x, M.2) := by
  intro n' g hg i' b hb
  show b.1 ≤ (zm_w M.1 n i x n' i').toInt ∧ (zm_w M.1 n i x n' i').toInt ≤ b.2
  unfold zm_w
  split
  · next he =>
    obtain ⟨rfl, rfl⟩ := he
    rw [hg] at h
    simp only [hb, Bool.and_eq_true, zt_le_ok] at h
    exact h
  · exact hG n' g hg i' b hb
theorem zy_Gx {G : zt_G} {M M' : zm_I} (h : ∀ n, n < G.length → M'.1 n = M.1 n) (hG : zt_Gs G M) : zt_Gs G M' := by
  intro n g hg i b hb
  rw [h n (List.getElem?_eq_some_iff.mp hg).1]
  exact hG n g hg i b hb
theorem zy_imI {ks : List Nat} (hks : ks ∈ zK_all) {i : Nat} (hi : i < ks.length) {M N : zm_I} (hI : zy_I ks M) (hc : zy_cpy (196 + 10 * i) 1 M N) : zy_I ks (zm_mrg [(196 + 10 * i, 10), (1, 10)] M N) := by
  obtain ⟨-, c2, c3⟩ := hc
  obtain ⟨h1, h2, h3, h4, h5⟩ := hI
  have hcp := zy_cp (a := 196 + 10 * i) (b := 1) (by omega) c3
  refine ⟨zy_Gs zo_l1 (fun n hn => ((hcp (0 + n)).2 (by omega)).1.trans (zy_s1 hn M).1.symm) h1, zy_Gs zo_l22 (fun n hn => ((hcp (165 + n)).2 (by omega)).1.trans (zy_s1 hn M).1.symm) h2, zy_P (((zy_s1 (by decide) _).1).trans ((((hcp (165 + 6)).2 (by omega)).1).trans (zy_s1 (by decide) M).1.symm)) (((zy_s1 (by decide) _).1).trans ((((hcp (165 + 7)).2 (by omega)).1).trans (zy_s1 (by decide) M).1.symm)) h3, fun q hq => ?_, fun a ha => ?_⟩
  · by_cases e : q = i
    · subst e
      intro n g hg j b hb
      have hn : n < 10 := by rw [← zy_g2l]; exact (List.getElem?_eq_some_iff.mp hg).1
      rw [(zy_s1 hn _).1, ((hcp n).1 hn).1]
      exact c2 n g (by rw [zy_g4, List.getElem?_append_left (by rw [zy_g2l]; exact hn)]; exact hg) j b hb
    · exact zy_Gs zo_l2 (fun n hn => ((hcp (196 + 10 * q + n)).2 (by omega)).1.trans (zy_s1 hn M).1.symm) (h4 q hq)
  · have hl := (zK_w hks).2.2.1
    have e := (hcp a).2 (by omega)
    rw [e.1, e.2]
    exact h5 a ha
theorem zy_newI {ks : List Nat} (hks : ks ∈ zK_all) {k : Nat} (hk : k < 3) (hx : zK_ix ks k = none) {M : zm_I} (hI : zy_I ks M) : zy_I (ks ++ [k]) M := by
  obtain ⟨h1, h2, h3, h4, h5⟩ := hI
  obtain ⟨g1, g2, g3, -⟩ := zK_new hks hk hx
  have hl := (zK_w hks).2.2.1
  have hl2 := (zK_w g1).2.2.1
  rw [List.length_append, List.length_singleton] at hl2
  refine ⟨h1, h2, h3, fun q hq => ?_, fun a ha => h5 a (by omega)⟩
  rw [List.length_append, List.length_singleton] at hq
  by_cases e : q < ks.length
  · exact h4 q e
  · exact zy_G0 (fun n hn i => (h5 (196 + 10 * q + n) (by omega)).1 i)
theorem zy_fgx (M : zm_I) {n : Nat} (h : n ≠ 21 ∧ n ≠ 68 ∧ n ≠ 72) : (zi_fg M).1 n = M.1 n ∧ (zi_fg M).2 n = M.2 n := by
  refine ⟨?_, rfl⟩
  funext i
  simp only [zi_fg, zm_w, h.1, h.2.1, h.2.2, false_and, if_false]
theorem zy_bkI {ks : List Nat} (hks : ks ∈ zK_all) {i : Nat} (hi : i < ks.length) {M N : zm_I} (hI : zy_I ks M) (hc : zy_cpy 1 (196 + 10 * i) M N) : zy_I ks (zi_fg (zm_mrg [(1, 10), (196 + 10 * i, 10)] M N)) := by
  obtain ⟨-, c2, c3⟩ := hc
  obtain ⟨h1, h2, h3, h4, h5⟩ := hI
  have hcp := zy_cp (a := 1) (b := 196 + 10 * i) (by omega) c3
  generalize zm_mrg [(1, 10), (196 + 10 * i, 10)] M N = M1 at hcp
  have hA : zt_Gs zo_g1 (zm_sub2 [(0, 164)] M1) := by
    intro n g hg j b hb
    have hn : n < 164 := Nat.lt_of_lt_of_le (List.getElem?_eq_some_iff.mp hg).1 zo_l1
    rw [(zy_s1 hn _).1, Nat.zero_add]
    by_cases e : 1 ≤ n ∧ n < 11
    · have e1 : n = 1 + (n - 1) := by omega
      have hq : n - 1 < 10 := by omega
      have hg2 : zo_g2[n - 1]? = some g := by rw [zy_g1, List.getElem?_take, if_pos hq, List.getElem?_drop, ← e1]; exact hg
      rw [e1, ((hcp (n - 1)).1 hq).1]
      exact c2 (n - 1) g (by rw [zy_g4, List.getElem?_append_left (by rw [zy_g2l]; exact hq)]; exact hg2) j b hb
    · have := h1 n g hg j b hb
      rw [(zy_s1 hn _).1, Nat.zero_add] at this
      rw [((hcp n).2 (by omega)).1]
      exact this
  have hB : zt_Gs zo_g1 (zi_fg (zm_sub2 [(0, 164)] M1)) := zy_Gw (zy_Gw (zy_Gw hA (by decide +kernel)) (by decide +kernel)) (by decide +kernel)
  refine ⟨zy_Gx (fun n hn => ?_) hB, zy_Gs zo_l22 (fun n hn => (zy_fgx M1 (by omega)).1.trans (((hcp (165 + n)).2 (by omega)).1.trans (zy_s1 hn M).1.symm)) h2, zy_P (((zy_s1 (by decide) _).1).trans ((zy_fgx M1 (by omega)).1.trans ((((hcp (165 + 6)).2 (by omega)).1).trans (zy_s1 (by decide) M).1.symm))) (((zy_s1 (by decide) _).1).trans ((zy_fgx M1 (by omega)).1.trans ((((hcp (165 + 7)).2 (by omega)).1).trans (zy_s1 (by decide) M).1.symm))) h3, fun q hq => zy_Gs zo_l2 (fun n hn => (zy_fgx M1 (by omega)).1.trans (((hcp (196 + 10 * q + n)).2 (by omega)).1.trans (zy_s1 hn M).1.symm)) (h4 q hq), fun a ha => ?_⟩
  · have hn : n < 164 := Nat.lt_of_lt_of_le hn zo_l1
    rw [(zy_s1 hn _).1, Nat.zero_add]
    funext j
    have e0 := (zy_s1 (a := 0) hn M1).1
    rw [Nat.zero_add] at e0
    simp only [zi_fg, zm_w, e0]
  · have hl := (zK_w hks).2.2.1
    have e := (hcp a).2 (by omega)
    have e2 := zy_fgx M1 (n := a) (by omega)
    rw [e2.1, e2.2, e.1, e.2]
    exact h5 a ha
/-- what the class's image does -/
def zy_img (ks : List Nat) (M : zm_I) (x v : Int32) (ks' : List Nat) (M1 : zm_I) : Prop := ((x < 0 ∨ ¬ x < 3) ∧ v = -2 ∧ ks' = ks ∧ M1 = M) ∨ ∃ (k i : Nat) (N : zm_I), k < 3 ∧ x = Int32.ofNat k ∧ v = 0 ∧ ks' ∈ zK_all ∧ zK_ix ks' k = some i ∧ ((zK_ix ks k = some i ∧ ks' = ks) ∨ (zK_ix ks k = none ∧ ks' = ks ++ [k])) ∧ M1 = zm_mrg [(196 + 10 * i, 10), (1, 10)] M N ∧ zy_cpy (196 + 10 * i) 1 M N
/-- what the class's back does -/
def zy_bck (ks : List Nat) (M : zm_I) (x v : Int32) (M1 : zm_I) : Prop := ((x < 0 ∨ ¬ x < 3) ∧ v = -2 ∧ M1 = M) ∨ (∃ k : Nat, k < 3 ∧ x = Int32.ofNat k ∧ zK_ix ks k = none ∧ v = -6 ∧ M1 = M) ∨ ∃ (k i : Nat) (N : zm_I), k < 3 ∧ x = Int32.ofNat k ∧ zK_ix ks k = some i ∧ v = 0 ∧ M1 = zi_fg (zm_mrg [(1, 10), (196 + 10 * i, 10)] M N) ∧ zy_cpy 1 (196 + 10 * i) M N
theorem zy_back {ks : List Nat} (hks : ks ∈ zK_all) {M : zm_I} (hI : zy_I ks M) (x : Int32) : ∃ (v : Int32) (M1 : zm_I), zF_X9_back (zL_w ks) [.ref 0, .int x] M = some (some (.int v), M1) ∧ zy_I ks M1 ∧ zy_bck ks M x v M1 := by
  by_cases hr : x < 0 ∨ ¬ x < 3
  · exact ⟨-2, M, zi_bkR hr, hI, Or.inl ⟨hr, rfl, rfl⟩⟩
  · obtain ⟨k, hk, rfl⟩ := zi_three (fun q => hr (Or.inl q)) (Decidable.not_not.mp (fun q => hr (Or.inr q)))
    cases hx : zK_ix ks k with
    | none => exact ⟨-6, M, zi_bkN hk hx, hI, Or.inr (Or.inl ⟨k, hk, rfl, hx, rfl, rfl⟩)⟩
    | some i =>
      obtain ⟨N, h1, h2⟩ := zi_bkK hks hI hk hx
      exact ⟨0, _, h1, zy_bkI hks (zK_old hks hk hx) hI h2, Or.inr (Or.inr ⟨k, i, N, hk, rfl, hx, rfl, rfl, h2⟩)⟩
/-! the fresh objects -/
def zc_I : Nat → Nat → Int32 := (zn_wr [(51, 2, 0), (51, 3, -1), (54, 0, -1), (56, 0, -1), (58, 0, -1), (60, 0, -1)] (fun _ _ => 0, fun _ _ => 0)).1
def zc_M : Nat → Nat → Int32 := (zn_wr [(0, 15, -1), (1, 0, -1), (1, 1, -1), (1, 2, -1), (1, 3, -1)] (fun _ _ => 0, fun _ _ => 0)).1
theorem zn_wr_1 : ∀ (L : zn_W) (M : zm_I), (zn_wr L M).1 = L.foldl (fun I q => zm_w I q.1 q.2.1 q.2.2) M.1
  | [], _ => rfl
  | q :: L, M => zn_wr_1 L _
theorem zl_WX {n : Nat} (hn : n < 164) (i : Nat) : (zn_wr zL_WC (fun _ _ => 0, fun _ _ => 0)).1 n i = zc_I n i := by
  have h1 : n ≠ 165 := by omega
  have h2 : n ≠ 166 := by omega
  unfold zc_I zL_WC
  rw [zn_wr_1, zn_wr_1]
  simp only [List.foldl, zm_w, h1, h2, false_and, if_false]
theorem zl_WM {n : Nat} (hn : n < 31) (i : Nat) : (zn_wr zL_WC (fun _ _ => 0, fun _ _ => 0)).1 (165 + n) i = zc_M n i := by
  have e0 : (165 + n = 165) = (n = 0) := by apply propext; omega
  have e1 : (165 + n = 166) = (n = 1) := by apply propext; omega
  have h1 : ¬ 165 + n = 51 := by omega
  have h2 : ¬ 165 + n = 54 := by omega
  have h3 : ¬ 165 + n = 56 := by omega
  have h4 : ¬ 165 + n = 58 := by omega
  have h5 : ¬ 165 + n = 60 := by omega
  unfold zc_M zL_WC
  rw [zn_wr_1, zn_wr_1]
  simp only [List.foldl, zm_w, e0, e1, h1, h2, h3, h4, h5, false_and, if_false]
theorem zl_fX {n : Nat} (hn : n < 164) : zL_M.1 n = zc_I n := by
  funext i
  rw [zL_M1 (by omega), zl_WX hn]
theorem zl_fM {n : Nat} (hn : n < 31) : zL_M.1 (165 + n) = zc_M n := by
  funext i
  rw [zL_M1 (by omega), zl_WM hn]
theorem zl_G0 {G : zt_G} (h : G.all (fun g => g.all (fun b => zt_le b.1 (.ofNat 0) && zt_le (.ofNat 0) b.2)) = true) : zt_Gs G (fun _ _ => 0, fun _ _ => 0) := by
  intro n g hg i b hb
  have := List.all_eq_true.mp (List.all_eq_true.mp h g (List.mem_of_getElem? hg)) b (List.mem_of_getElem? hb)
  simp only [Bool.and_eq_true, zt_le_ok] at this
  exact this
theorem zl_GX : zt_Gs zo_g1 (zc_I, fun _ _ => 0) := zy_Gw (zy_Gw (zy_Gw (zy_Gw (zy_Gw (zy_Gw (zl_G0 (by decide +kernel)) (by decide +kernel)) (by decide +kernel)) (by decide +kernel)) (by decide +kernel)) (by decide +kernel)) (by decide +kernel)
theorem zl_GM : zt_Gs zo_g22 (zc_M, fun _ _ => 0) := zy_Gw (zy_Gw (zy_Gw (zy_Gw (zy_Gw (zl_G0 (by decide +kernel)) (by decide +kernel)) (by decide +kernel)) (by decide +kernel)) (by decide +kernel)) (by decide +kernel)
theorem zl_z {n : Nat} (h : n ≠ 0 ∧ n ≠ 1) (i : Nat) : zc_M n i = 0 := by
  unfold zc_M
  rw [zn_wr_1]
  simp only [List.foldl, zm_w, h.1, h.2, false_and, if_false]
theorem zl_start : zy_I [] zL_M := by
  refine ⟨zy_Gs zo_l1 (fun n hn => by rw [Nat.zero_add]; exact zl_fX hn) zl_GX, zy_Gs zo_l22 (fun n hn => zl_fM hn) zl_GM, ?_, fun i hi => absurd hi (Nat.not_lt_zero i), ?_⟩
  · intro q hq
    refine Or.inl ?_
    unfold zq_E
    rw [(zy_s1 (by decide) _).1, (zy_s1 (by decide) _).1, zl_fM (by decide), zl_fM (by decide), zl_z (by decide), zl_z (by decide), zl_z (by decide)]
    exact ⟨by decide, by decide, by decide⟩
  · rw [zL_w_nil]
    intro a ha
    rw [zi_len] at ha
    have hp : zL_p.length = 196 := by decide +kernel
    have e : zL_p.getD a 0 = 0 := by
      rw [List.getD_eq_getElem?_getD, List.getElem?_eq_none (by omega)]
      rfl
    refine ⟨fun b => ?_, fun b => zL_M2 a b⟩
    show (zn_wr zL_W (fun _ _ => 0, fun _ _ => 0)).1 (zL_p.getD a 0) b = 0
    rw [e, zn_wr_1]
    unfold zL_W
    simp [List.foldl, zm_w]
end
section
/-! WHAT IS KEPT BESIDE: the tape, the fault, the benches -/
def zR_v (ks : List Nat) (k : Nat) : Int := match zK_ix ks k with
  | some _ => 1
  | none => 0
def zR_M (M : zm_I) : Nat → Nat → Int32 := fun n => M.1 (165 + n)
def zR_t (I I' : Nat → Nat → Int32) : Prop := I 51 1 = I' 0 6 ∧ (∀ i : Nat, (i : Int) < (I 51 1).toInt → zp_sg (I' 5 i).toInt (I 52 i).toInt) ∧ I 51 2 = I' 0 14 ∧ I 51 3 = I' 0 15
def zR (ks : List Nat) (M : zm_I) : Prop := zR_t M.1 (zR_M M) ∧ zqC 1 0 M.1 (zR_M M) ∧ (∀ k i, k < 3 → zK_ix ks k = some i → zqC (196 + 10 * i) (k + 1) M.1 (zR_M M)) ∧ ∀ k, k < 3 → (M.1 176 k).toInt = zR_v ks k
/-- a bench of the class as another -/
def zR_x (a a2 : Nat) (I I2 : Nat → Nat → Int32) : Prop := (∀ j, j < 8 → I2 a2 j = I a j) ∧ (∀ b, b < 6 → I2 (a2 + 1) b = I (a + 1) b) ∧ (∀ c, c < 5 → I2 (a2 + 2) c = I (a + 2) c ∧ I2 (a2 + 3) c = I (a + 3) c ∧ I2 (a2 + 4) c = I (a + 4) c ∧ I2 (a2 + 5) c = I (a + 5) c ∧ I2 (a2 + 6) c = I (a + 6) c) ∧ ∀ k : Nat, k < 40 → (k : Int) < (I a 7).toInt → I2 (a2 + 7) k = I (a + 7) k ∧ I2 (a2 + 8) k = I (a + 8) k ∧ I2 (a2 + 9) k = I (a + 9) k
theorem zR_q {a a2 s s2 : Nat} {I I2 I' I2' : Nat → Nat → Int32} (h : zqC a s I I') (hx : zR_x a a2 I I2) (hy : zR_y s s2 I' I2') : zqC a2 s2 I2 I2' := by
  obtain ⟨⟨h1, h2, h3, ⟨h4, h5, h6⟩, h7, h8⟩, ⟨h9, h10, h10a, h10b⟩, h11, h12⟩ := h
  obtain ⟨x, xb, xc, xd⟩ := hx
  obtain ⟨y0, yb, yc, yd, ye⟩ := hy
  have x5 := x 5 (by decide)
  have x6 := x 6 (by decide)
  have x7 := x 7 (by decide)
  refine ⟨⟨?_, ?_, ?_, ⟨?_, ?_, ?_⟩, fun j hj hl => ?_, fun c hc hl => ?_⟩, ⟨?_, ?_, ?_, ?_⟩, fun c hc hl => ?_, fun k hk hl => ?_⟩
  · rw [x 0 (by decide), y0, h1]
  · rw [x5, yb 4 (by decide), h2]
  · rw [x6, yb 5 (by decide), h3]
  · have := yb 0 (by decide)
    rw [Nat.add_zero, Nat.add_zero] at this
    rw [x 1 (by decide), this, h4]
  · rw [x 3 (by decide), yb 2 (by decide), h5]
  · rw [x 4 (by decide), yb 3 (by decide), h6]
  · rw [x5] at hl
    rw [xb j hj, yc j hj]
    exact h7 j hj hl
  · rw [x6] at hl
    obtain ⟨c2, c3, c4, c5, c6⟩ := xc c hc
    have e : ∀ q, q < 5 → I2' 9 (25 * s2 + 5 * c + q) = I' 9 (25 * s + 5 * c + q) := fun q hq => by
      have := yd (5 * c + q) (by omega)
      rw [← Nat.add_assoc, ← Nat.add_assoc] at this
      exact this
    have e0 := e 0 (by decide)
    rw [Nat.add_zero, Nat.add_zero] at e0
    rw [c2, c3, c4, c5, c6, e0, e 1 (by decide), e 2 (by decide), e 3 (by decide), e 4 (by decide)]
    exact h8 c hc hl
  · rw [x 2 (by decide), yb 1 (by decide), h9]
  · rw [x7, yb 6 (by decide), h10]
  · rw [x7]; exact h10a
  · rw [x7]; exact h10b
  · rw [x6] at hl
    obtain ⟨-, -, c4, -, -⟩ := xc c hc
    rw [c4, x5]
    exact h11 c hc hl
  · rw [x7] at hl
    obtain ⟨d7, d8, d9⟩ := xd k hk hl
    have e : ∀ q, q < 3 → I2' 10 (120 * s2 + 3 * k + q) = I' 10 (120 * s + 3 * k + q) := fun q hq => by
      have := ye (3 * k + q) (by omega)
      rw [← Nat.add_assoc, ← Nat.add_assoc] at this
      exact this
    have e0 := e 0 (by decide)
    rw [Nat.add_zero, Nat.add_zero] at e0
    rw [d7, d8, d9, e0, e 1 (by decide), e 2 (by decide)]
    exact h12 k hk hl
theorem zR_xr {a : Nat} {I I2 : Nat → Nat → Int32} (h : ∀ q b, q ≤ 9 → I2 (a + q) b = I (a + q) b) : zR_x a a I I2 :=
  ⟨fun j _ => h 0 j (by decide), fun b _ => h 1 b (by decide), fun c _ => ⟨h 2 c (by decide), h 3 c (by decide), h 4 c (by decide), h 5 c (by decide), h 6 c (by decide)⟩, fun k _ _ => ⟨h 7 k (by decide), h 8 k (by decide), h 9 k (by decide)⟩⟩
/-- what a call may not write -/
def zR_rw (W : zt_W) (n : Nat) : Bool := !W.any (fun w => Nat.beq w.1 n)
theorem zR_rn {W : zt_W} {n : Nat} (h : zR_rw W n = true) (b : Nat) : zt_hit W n b = false := zt_hit_no (by unfold zR_rw at h; rw [Bool.not_eq_true'] at h; exact h) b
def zR_no (W : zt_W) (n : Nat) (l : List Nat) : Bool := l.all (fun b => !zt_hit W n b)
theorem zR_nn {W : zt_W} {n : Nat} {l : List Nat} (h : zR_no W n l = true) : ∀ b, b ∈ l → zt_hit W n b = false := fun b hb => by
  have := List.all_eq_true.mp h b hb
  rw [Bool.not_eq_true'] at this
  exact this
def zR_hB (W : zt_W) : Bool := [2, 3, 4, 5, 6, 7, 8, 9, 10].all (zR_rw W) && zR_no W 1 (List.range 8)
def zR_hT (W : zt_W) : Bool := zR_rw W 52 && zR_no W 51 [1, 2, 3]
def zR_hS (W : zt_W) : Bool := [8, 9, 10].all (zR_rw W) && zR_no W 6 (List.range 4) && zR_no W 7 (List.range 28)
def zR_hU (W : zt_W) : Bool := zR_rw W 5 && zR_no W 0 [6, 14, 15]
theorem zR_fb {W : zt_W} (hw : zR_hB W = true) {M N : zm_I} (f : zt_fr W M N) : zR_x 1 1 M.1 N.1 := by
  unfold zR_hB at hw
  simp only [Bool.and_eq_true] at hw
  obtain ⟨w2, w1⟩ := hw
  have w1 := zR_nn w1
  have r : ∀ n b, n ∈ [2, 3, 4, 5, 6, 7, 8, 9, 10] → N.1 n b = M.1 n b := fun n b hn => (f n b (zR_rn (List.all_eq_true.mp w2 n hn) b)).1
  exact ⟨fun j hj => (f 1 j (w1 j (List.mem_range.mpr hj))).1, fun b _ => r 2 b (by decide), fun c _ => ⟨r 3 c (by decide), r 4 c (by decide), r 5 c (by decide), r 6 c (by decide), r 7 c (by decide)⟩, fun k _ _ => ⟨r 8 k (by decide), r 9 k (by decide), r 10 k (by decide)⟩⟩
theorem zR_ft {W : zt_W} (hw : zR_hT W = true) {M N : zm_I} (f : zt_fr W M N) : (N.1 51 1 = M.1 51 1 ∧ N.1 51 2 = M.1 51 2 ∧ N.1 51 3 = M.1 51 3) ∧ ∀ i, N.1 52 i = M.1 52 i := by
  unfold zR_hT at hw
  simp only [Bool.and_eq_true] at hw
  have w1 := zR_nn hw.2
  exact ⟨⟨(f 51 1 (w1 1 (by decide))).1, (f 51 2 (w1 2 (by decide))).1, (f 51 3 (w1 3 (by decide))).1⟩, fun i => (f 52 i (zR_rn hw.1 i)).1⟩
theorem zR_fs {W : zt_W} (hw : zR_hS W = true) {M N : zm_I} (f : zt_fr W M N) : ∀ s, s < 4 → zR_y s s M.1 N.1 := by
  unfold zR_hS at hw
  simp only [Bool.and_eq_true] at hw
  obtain ⟨⟨w8, w6⟩, w7⟩ := hw
  have w6 := zR_nn w6
  have w7 := zR_nn w7
  have r : ∀ n b, n ∈ [8, 9, 10] → N.1 n b = M.1 n b := fun n b hn => (f n b (zR_rn (List.all_eq_true.mp w8 n hn) b)).1
  intro s hs
  exact ⟨(f 6 s (w6 s (List.mem_range.mpr hs))).1, fun b hb => (f 7 _ (w7 _ (List.mem_range.mpr (by omega)))).1, fun b _ => r 8 _ (by decide), fun b _ => r 9 _ (by decide), fun b _ => r 10 _ (by decide)⟩
theorem zR_fu {W : zt_W} (hw : zR_hU W = true) {M N : zm_I} (f : zt_fr W M N) : (N.1 0 6 = M.1 0 6 ∧ N.1 0 14 = M.1 0 14 ∧ N.1 0 15 = M.1 0 15) ∧ ∀ i, N.1 5 i = M.1 5 i := by
  unfold zR_hU at hw
  simp only [Bool.and_eq_true] at hw
  have w1 := zR_nn hw.2
  exact ⟨⟨(f 0 6 (w1 6 (by decide))).1, (f 0 14 (w1 14 (by decide))).1, (f 0 15 (w1 15 (by decide))).1⟩, fun i => (f 5 i (zR_rn hw.1 i)).1⟩
theorem zR_xc {a a2 : Nat} {I I2 K K2 : Nat → Nat → Int32} (h : zR_x a a2 I I2) (e : ∀ q b, q ≤ 9 → K (a + q) b = I (a + q) b) (e2 : ∀ q b, q ≤ 9 → K2 (a2 + q) b = I2 (a2 + q) b) : zR_x a a2 K K2 := by
  obtain ⟨x, xb, xc, xd⟩ := h
  have z : ∀ b, K a b = I a b := fun b => e 0 b (by decide)
  have z2 : ∀ b, K2 a2 b = I2 a2 b := fun b => e2 0 b (by decide)
  refine ⟨fun j hj => (z2 j).trans ((x j hj).trans (z j).symm), fun b hb => (e2 1 b (by decide)).trans ((xb b hb).trans (e 1 b (by decide)).symm), fun c hc => ?_, fun k hk hl => ?_⟩
  · obtain ⟨c2, c3, c4, c5, c6⟩ := xc c hc
    exact ⟨(e2 2 c (by decide)).trans (c2.trans (e 2 c (by decide)).symm), (e2 3 c (by decide)).trans (c3.trans (e 3 c (by decide)).symm), (e2 4 c (by decide)).trans (c4.trans (e 4 c (by decide)).symm), (e2 5 c (by decide)).trans (c5.trans (e 5 c (by decide)).symm), (e2 6 c (by decide)).trans (c6.trans (e 6 c (by decide)).symm)⟩
  · rw [z 7] at hl
    obtain ⟨d7, d8, d9⟩ := xd k hk hl
    exact ⟨(e2 7 k (by decide)).trans (d7.trans (e 7 k (by decide)).symm), (e2 8 k (by decide)).trans (d8.trans (e 8 k (by decide)).symm), (e2 9 k (by decide)).trans (d9.trans (e 9 k (by decide)).symm)⟩
theorem zR_yr' {s : Nat} {I I2 : Nat → Nat → Int32} (h : ∀ n b, n < 31 → I2 n b = I n b) : zR_y s s I I2 := ⟨h _ _ (by decide), fun _ _ => h _ _ (by decide), fun _ _ => h _ _ (by decide), fun _ _ => h _ _ (by decide), fun _ _ => h _ _ (by decide)⟩
theorem zR_yc {s s2 : Nat} {I I2 K K2 : Nat → Nat → Int32} (h : zR_y s s2 I I2) (e : ∀ n b, n < 31 → K n b = I n b) (e2 : ∀ n b, n < 31 → K2 n b = I2 n b) : zR_y s s2 K K2 := ⟨(e2 _ _ (by decide)).trans (h.1.trans (e _ _ (by decide)).symm), fun b hb => (e2 _ _ (by decide)).trans ((h.2.1 b hb).trans (e _ _ (by decide)).symm), fun b hb => (e2 _ _ (by decide)).trans ((h.2.2.1 b hb).trans (e _ _ (by decide)).symm), fun b hb => (e2 _ _ (by decide)).trans ((h.2.2.2.1 b hb).trans (e _ _ (by decide)).symm), fun b hb => (e2 _ _ (by decide)).trans ((h.2.2.2.2 b hb).trans (e _ _ (by decide)).symm)⟩
section ZRS
variable {ks : List Nat} {M N1 N2 : zm_I} {I I' : Nat → Nat → Int32}
theorem zR_S {n : Nat} (h : n < 164) (b : Nat) : (zm_sub2 [(0, 164)] M).1 n b = M.1 n b := by
  have e := (zy_s1 (a := 0) h M).1
  rw [Nat.zero_add] at e
  rw [e]
theorem zR_T {n : Nat} (h : n < 31) (b : Nat) : (zm_sub2 [(165, 31)] (zm_mrg [(0, 164)] M N1)).1 n b = zR_M M n b := by
  rw [(zy_1M h M N1).1, (zy_s1 (a := 165) h M).1]
  rfl
theorem zR_T1 {M1 : zm_I} {n : Nat} (h : n < 31) (b : Nat) : (zm_sub2 [(165, 31)] M1).1 n b = zR_M M1 n b := by
  rw [(zy_s1 (a := 165) h M1).1]
  rfl
theorem zR_bd (hI : zy_I ks M) : (0 : Int) ≤ (M.1 51 1).toInt ∧ (M.1 51 1).toInt ≤ 800 := by
  have h : (0 : Int) ≤ ((zm_sub2 [(0, 164)] M).1 51 1).toInt ∧ ((zm_sub2 [(0, 164)] M).1 51 1).toInt ≤ 800 := hI.1 51 _ rfl 1 _ rfl
  rw [zR_S (by decide)] at h
  exact h
theorem zR_2x {n : Nat} (h : n < 164) (b : Nat) : (zy_2 M N1 N2).1 n b = N1.1 n b := by rw [(zy_2X h M N1 N2).1]
theorem zR_2m {n : Nat} (h : n < 31) (b : Nat) : zR_M (zy_2 M N1 N2) n b = N2.1 n b := by
  show (zy_2 M N1 N2).1 (165 + n) b = _
  rw [(zy_2M h M N1 N2).1]
theorem zR_2o {n : Nat} (h : 196 ≤ n) (b : Nat) : (zy_2 M N1 N2).1 n b = M.1 n b := by
  have e := ((zy_m0 (a := 165) (z := 31) (n := n) (by omega) (zm_mrg [(0, 164)] M N1) N2).1).trans (zy_m0 (a := 0) (z := 164) (n := n) (by omega) M N1).1
  show (zm_mrg [(165, 31)] (zm_mrg [(0, 164)] M N1) N2).1 n b = _
  rw [e]
/-- from today's bench, the slots, the tape and what is kept: the whole -/
theorem zR_of (hR : zR ks M) {M2 : zm_I} (hq : zqC 1 0 M2.1 (zR_M M2)) (hm : ∀ s, 1 ≤ s → s < 4 → zR_y s s (zR_M M) (zR_M M2)) (ht : zR_t M2.1 (zR_M M2)) (hi : ∀ n b, 196 ≤ n → M2.1 n b = M.1 n b) (hk : ∀ k, k < 3 → M2.1 176 k = M.1 176 k) : zR ks M2 :=
  ⟨ht, hq, fun k i hk3 hix => zR_q (hR.2.2.1 k i hk3 hix) (zR_xr (fun q b _ => hi _ b (by omega))) (hm (k + 1) (by omega) (by omega)), fun k hk3 => by rw [hk k hk3]; exact hR.2.2.2 k hk3⟩
theorem zR_2b (hR : zR ks M) {WX WM : zt_W} (f1 : zt_fr WX (zm_sub2 [(0, 164)] M) N1) (f2 : zt_fr WM (zm_sub2 [(165, 31)] (zm_mrg [(0, 164)] M N1)) N2) (hX : zR_hB WX = true) (hM : zR_hS WM = true) (hk : zR_rw WM 11 = true) (ht : zR_t (zy_2 M N1 N2).1 (zR_M (zy_2 M N1 N2))) : zR ks (zy_2 M N1 N2) := by
  have x1 := zR_fb hX f1
  have y1 := zR_fs hM f2
  obtain ⟨-, hq, -, -⟩ := id hR
  refine zR_of hR (zR_q hq (zR_xc x1 (fun q b hq => (zR_S (by omega) b).symm) (fun q b hq => zR_2x (by omega) b)) (zR_yc (y1 0 (by decide)) (fun n b hn => (zR_T hn b).symm) (fun n b hn => zR_2m hn b))) (fun s _ hs => zR_yc (y1 s hs) (fun n b hn => (zR_T hn b).symm) (fun n b hn => zR_2m hn b)) ht (fun n b hn => zR_2o hn b) (fun k _ => ?_)
  have := (f2 11 k (zR_rn hk k)).1
  rw [zR_T (by decide)] at this
  exact (zR_2m (n := 11) (by decide) k).trans this
theorem zR_2t (hR : zR ks M) {WX WM : zt_W} (f1 : zt_fr WX (zm_sub2 [(0, 164)] M) N1) (f2 : zt_fr WM (zm_sub2 [(165, 31)] (zm_mrg [(0, 164)] M N1)) N2) (hX : zR_hT WX = true) (hM : zR_hU WM = true) : zR_t (zy_2 M N1 N2).1 (zR_M (zy_2 M N1 N2)) := by
  obtain ⟨⟨a1, a2, a3⟩, xb⟩ := zR_ft hX f1
  obtain ⟨⟨b6, b14, b15⟩, y5⟩ := zR_fu hM f2
  rw [zR_S (by decide)] at a1 a2 a3
  rw [zR_T (by decide)] at b6 b14 b15
  obtain ⟨⟨t1, t2, t3, t4⟩, -, -, -⟩ := id hR
  refine ⟨?_, fun i hi => ?_, ?_, ?_⟩
  · rw [zR_2x (by decide), zR_2m (by decide), a1, b6, t1]
  · rw [zR_2x (by decide), a1] at hi
    rw [zR_2m (by decide), zR_2x (by decide), xb i, y5 i, zR_T (by decide), zR_S (by decide)]
    exact t2 i hi
  · rw [zR_2x (by decide), zR_2m (by decide), a2, b14, t3]
  · rw [zR_2x (by decide), zR_2m (by decide), a3, b15, t4]
def zR_h (WX WM : zt_W) : Bool := zR_hB WX && zR_hT WX && (zR_hS WM && zR_hU WM && zR_rw WM 11)
theorem zR_2 (hR : zR ks M) {WX WM : zt_W} (f1 : zt_fr WX (zm_sub2 [(0, 164)] M) N1) (f2 : zt_fr WM (zm_sub2 [(165, 31)] (zm_mrg [(0, 164)] M N1)) N2) (hw : zR_h WX WM = true) : zR ks (zy_2 M N1 N2) := by
  unfold zR_h at hw
  simp only [Bool.and_eq_true] at hw
  exact zR_2b hR f1 f2 hw.1.1 hw.2.1.1 hw.2.2 (zR_2t hR f1 f2 hw.1.2 hw.2.1.2)
theorem zR_tX (ht : zR_t I I') (h0 : 0 ≤ (I 51 1).toInt) (h8 : (I 51 1).toInt ≤ 800) : zpXt (fun i => (I 52 i).toInt) (I 51 1).toInt.toNat (fun k => I (51 + k)) ∧ zpMt (fun i => (I 52 i).toInt) (I 51 1).toInt.toNat I' := by
  have e : I 51 1 = Int32.ofNat (I 51 1).toInt.toNat := Int32.toInt_inj.mp (by rw [zp_o (by omega)]; omega)
  exact ⟨⟨e, fun i _ => rfl⟩, ⟨ht.1.symm.trans e, fun i hi => ht.2.1 i (by omega)⟩⟩
theorem zR_be (hI : zy_I ks M) (hR : zR ks M) {x y : Int32} (ho : zy_o2 ks M zF_X9_bench zF_X10_bench [] [] (.int x) (.int y) N1 N2) (f2 : zt_fr WM_bench (zm_sub2 [(165, 31)] (zm_mrg [(0, 164)] M N1)) N2) (hw : zR_rw WM_bench 11 = true) : x = y ∧ zR ks (zy_2 M N1 N2) := by
  have hb := zR_bd hI
  obtain ⟨⟨t1, t2, t3, t4⟩, hq, -, -⟩ := id hR
  obtain ⟨e, e1, e2, e3, e4, e5, e6⟩ := zp_benchR (I := (zm_sub2 [(0, 164)] M).1) (J := (zm_sub2 [(0, 164)] M).2) (I' := (zm_sub2 [(165, 31)] (zm_mrg [(0, 164)] M N1)).1) (J' := (zm_sub2 [(165, 31)] (zm_mrg [(0, 164)] M N1)).2) (by rw [zR_S (by decide)]; exact hb) (by rw [zR_S (by decide), zR_T (by decide)]; exact t1) (fun i hi => by rw [zR_S (by decide)] at hi; rw [zR_S (by decide), zR_T (by decide)]; exact t2 i hi) ho.1 ho.2
  have e6' : ∀ s, 1 ≤ s → s < 4 → zR_y s s (zR_M M) (zR_M (zy_2 M N1 N2)) := fun s h1 h4 => by
    obtain ⟨r1, r2, r3, r4, r5⟩ := e6 s h1 (by omega)
    exact zR_yc (I := (zm_sub2 [(165, 31)] (zm_mrg [(0, 164)] M N1)).1) (I2 := N2.1) ⟨r1, r2, r3, r4, r5⟩ (fun n b hn => (zR_T hn b).symm) (fun n b hn => zR_2m hn b)
  have hq' : zqC 1 0 (zy_2 M N1 N2).1 (zR_M (zy_2 M N1 N2)) := by
    rcases e5 with h | ⟨h1, h2, h3, h4, h5, h10⟩
    · exact zR_q h (zR_xr (fun q b hq => zR_2x (by omega) b)) (zR_yr' (fun n b hn => zR_2m hn b))
    · refine zR_q hq (zR_xr (fun q b hq => ?_)) (zR_yc (I := (zm_sub2 [(165, 31)] (zm_mrg [(0, 164)] M N1)).1) (I2 := N2.1) ⟨h2, fun b hb => ?_, fun b hb => ?_, fun b hb => ?_, fun b hb => ?_⟩ (fun n b hn => (zR_T hn b).symm) (fun n b hn => zR_2m hn b))
      · rw [zR_2x (by omega), h1 (1 + q) (by omega) (by omega), zR_S (by omega)]
      · have := h3 b hb
        rw [show 7 * 0 + b = b by omega]
        exact this
      · have := h4 b hb
        rw [show 6 * 0 + b = b by omega]
        exact this
      · have := h5 b hb
        rw [show 25 * 0 + b = b by omega]
        exact this
      · have := h10 b hb
        rw [show 120 * 0 + b = b by omega]
        exact this
  refine ⟨e, zR_of hR hq' e6' ⟨?_, fun i hi => ?_, ?_, ?_⟩ (fun n b hn => zR_2o hn b) (fun k hk => ?_)⟩
  · rw [zR_2x (by decide), zR_2m (by decide), e1, e2]
  · rw [zR_2x (by decide), e1] at hi
    have : ((0 : Int32).toInt) = 0 := by decide
    omega
  · rw [zR_2x (by decide), zR_2m (by decide)]
    exact e3
  · rw [zR_2x (by decide), zR_2m (by decide)]
    exact e4
  · have := (f2 11 k (zR_rn hw k)).1
    rw [zR_T (by decide)] at this
    exact (zR_2m (n := 11) (by decide) k).trans this
theorem zR_s2 {a b n : Nat} (h : n < 10) (M : zm_I) (c : Nat) : (zm_sub2 [(a, 10), (b, 10)] M).1 (10 + n) c = M.1 (b + n) c := by
  have e : zm_fw [(a, 10), (b, 10)] (10 + n) = b + n := by
    simp only [zm_fw]
    rw [if_neg (by omega), if_pos (by omega)]
    omega
  show M.1 (zm_fw [(a, 10), (b, 10)] (10 + n)) c = _
  rw [e]
/-- a copied bench says what the other said -/
theorem zR_cx {a b : Nat} (hab : a + 10 ≤ b ∨ b + 10 ≤ a) {M N : zm_I} (h : zy_cpy a b M N) (h7 : 0 ≤ (M.1 b 7).toInt ∧ (M.1 b 7).toInt ≤ 41) : zR_x b a M.1 (zm_mrg [(a, 10), (b, 10)] M N).1 := by
  obtain ⟨k, hk⟩ : ∃ k : Nat, (M.1 b 7).toInt = k := ⟨(M.1 b 7).toInt.toNat, by omega⟩
  have s : ∀ n, n < 10 → ∀ c, (zm_sub2 [(a, 10), (b, 10)] M).1 (10 + n) c = M.1 (b + n) c := fun n hn c => zR_s2 hn M c
  obtain ⟨D, f1, f2, f3, f4, f5, -⟩ := zp_cfX (J := (zm_sub2 [(a, 10), (b, 10)] M).2) (zm_sub2 [(a, 10), (b, 10)] M).1 (k := k) (by omega) ((s 0 (by decide) 7).trans (Int32.toInt_inj.mp (by rw [Nat.add_zero, hk, zp_o (by omega)])))
  have e : some (none, N) = (some (none, (D, (zm_sub2 [(a, 10), (b, 10)] M).2)) : zm_R) := h.1.symm.trans f1
  cases e
  have m : ∀ n, n < 10 → ∀ c, (zm_mrg [(a, 10), (b, 10)] M (D, (zm_sub2 [(a, 10), (b, 10)] M).2)).1 (a + n) c = D n c := fun n hn c => by rw [((zy_cp hab h.2.2 n).1 hn).1]
  have m0 := m 0 (by decide)
  rw [Nat.add_zero] at m0
  have g0 : ∀ j, j < 8 → D 0 j = M.1 b j := fun j hj => by
    have := s 0 (by decide) j
    rw [Nat.add_zero, Nat.add_zero] at this
    rw [f2 j hj, this]
  refine ⟨fun j hj => by rw [m0, g0 j hj], fun q hq => ?_, fun c hc => ?_, fun q hq hl => ?_⟩
  · rw [m 1 (by decide), f3 q hq]
    exact s 1 (by decide) q
  · obtain ⟨c2, c3, c4, c5, c6⟩ := f4 c hc
    rw [m 2 (by decide), m 3 (by decide), m 4 (by decide), m 5 (by decide), m 6 (by decide), c2, c3, c4, c5, c6]
    exact ⟨s 2 (by decide) c, s 3 (by decide) c, s 4 (by decide) c, s 5 (by decide) c, s 6 (by decide) c⟩
  · obtain ⟨d7, d8, d9⟩ := f5 q (by omega)
    rw [m 7 (by decide), m 8 (by decide), m 9 (by decide), d7, d8, d9]
    exact ⟨s 7 (by decide) q, s 8 (by decide) q, s 9 (by decide) q⟩
end ZRS
end
section
/-! WHAT IS KEPT BESIDE: feed, end, image, back -/
section ZRU
variable {ks ks2 : List Nat} {M N1 N2 M1 : zm_I}
theorem zR_tI {T : Nat → Int} {n : Nat} {I I' : Nat → Nat → Int32} (hn : n ≤ 800) (h : zpXt T n (fun k => I (51 + k))) (h' : zpMt T n I') (e2 : I 51 2 = I' 0 14) (e3 : I 51 3 = I' 0 15) : zR_t I I' := by
  have h1 : I 51 1 = Int32.ofNat n := h.1
  refine ⟨h1.trans h'.1.symm, fun i hi => ?_, e2, e3⟩
  rw [h1, zp_o (by omega)] at hi
  have q : (I 52 i).toInt = T i := h.2 i (by omega)
  rw [q]
  exact h'.2 i (by omega)
theorem zR_fd (hI : zy_I ks M) (hR : zR ks M) {a0 a1 a2 a3 a4 x y : Int32} (ho : zy_o2 ks M zF_X9_feed zF_X10_feed [.int a0, .int a1, .int a2, .int a3, .int a4] [.int a0, .int a1, .int a2, .int a3, .int a4] (.int x) (.int y) N1 N2) (f1 : zt_fr WX_feed (zm_sub2 [(0, 164)] M) N1) (f2 : zt_fr WM_feed (zm_sub2 [(165, 31)] (zm_mrg [(0, 164)] M N1)) N2) (hw : (zR_hB WX_feed && zR_no WX_feed 51 [2, 3] && (zR_hS WM_feed && zR_no WM_feed 0 [14, 15] && zR_rw WM_feed 11)) = true) : x = y ∧ zR ks (zy_2 M N1 N2) := by
  have hb := zR_bd hI
  simp only [Bool.and_eq_true] at hw
  obtain ⟨⟨w1, w2⟩, ⟨w3, w4⟩, w5⟩ := hw
  have w2 := zR_nn w2
  have w4 := zR_nn w4
  obtain ⟨⟨t1, t2, t3, t4⟩, -, -, -⟩ := id hR
  have s51 : ∀ b, (zm_sub2 [(0, 164)] M).1 51 b = M.1 51 b := fun b => zR_S (by decide) b
  have s52 : ∀ b, (zm_sub2 [(0, 164)] M).1 52 b = M.1 52 b := fun b => zR_S (by decide) b
  obtain ⟨hx, hm⟩ := zR_tX (I := (zm_sub2 [(0, 164)] M).1) (I' := (zm_sub2 [(165, 31)] (zm_mrg [(0, 164)] M N1)).1) ⟨by rw [s51, zR_T (by decide)]; exact t1, fun i hi => by rw [s51] at hi; rw [s52, zR_T (by decide)]; exact t2 i hi, by rw [s51, zR_T (by decide)]; exact t3, by rw [s51, zR_T (by decide)]; exact t4⟩ (by rw [s51]; exact hb.1) (by rw [s51]; exact hb.2)
  have hn : ((zm_sub2 [(0, 164)] M).1 51 1).toInt.toNat ≤ 800 := by rw [s51]; omega
  generalize ((zm_sub2 [(0, 164)] M).1 51 1).toInt.toNat = n at hx hm hn
  generalize (fun i => ((zm_sub2 [(0, 164)] M).1 52 i).toInt) = T at hx hm
  have e2 : N1.1 51 2 = N2.1 0 14 := by rw [(f1 51 2 (w2 2 (by decide))).1, (f2 0 14 (w4 14 (by decide))).1, s51, zR_T (by decide), t3]
  have e3 : N1.1 51 3 = N2.1 0 15 := by rw [(f1 51 3 (w2 3 (by decide))).1, (f2 0 15 (w4 15 (by decide))).1, s51, zR_T (by decide), t4]
  have fin : zR_t N1.1 N2.1 → zR ks (zy_2 M N1 N2) := fun q => zR_2b hR f1 f2 w1 w3 w5 ⟨by rw [zR_2x (by decide), zR_2m (by decide)]; exact q.1, fun i hi => by rw [zR_2x (by decide)] at hi; rw [zR_2x (by decide), zR_2m (by decide)]; exact q.2.1 i hi, by rw [zR_2x (by decide), zR_2m (by decide)]; exact q.2.2.1, by rw [zR_2x (by decide), zR_2m (by decide)]; exact q.2.2.2⟩
  rcases zp_feedX a0 a1 a2 a3 a4 hx hn ho.1 with ⟨c1, c2, c3⟩ | ⟨c1, c2, c3⟩ <;> rcases zp_feedM a0 a1 a2 a3 a4 hm hn ho.2 with ⟨d1, d2, d3⟩ | ⟨d1, d2, d3⟩
  · exact ⟨c2.trans d2.symm, fin (zR_tI (by omega) c3 d3 e2 e3)⟩
  · omega
  · omega
  · refine ⟨c2.trans d2.symm, fin (zR_tI hn (by rw [c3]; exact hx) ?_ e2 e3)⟩
    rw [d3]
    exact ⟨(ze_wj (I := (zm_sub2 [(165, 31)] (zm_mrg [(0, 164)] M N1)).1) (n := 0) (i := 0) (a := 0) (b := 6) (x := 0) (by decide)).trans hm.1, fun i hi => by
      show zp_sg (zm_w (zm_sub2 [(165, 31)] (zm_mrg [(0, 164)] M N1)).1 0 0 0 5 i).toInt (T i)
      rw [ze_wo (by decide)]
      exact hm.2 i hi⟩
theorem zR_en (hI : zy_I ks M) (hR : zR ks M) {a0 x y : Int32} (ho : zy_o2 ks M zF_X9_end zF_X10_end [.int a0] [.int a0] (.int x) (.int y) N1 N2) (f1 : zt_fr WX_end (zm_sub2 [(0, 164)] M) N1) (f2 : zt_fr WM_end (zm_sub2 [(165, 31)] (zm_mrg [(0, 164)] M N1)) N2) (hw : (zR_hB WX_end && zR_rw WX_end 52 && zR_no WX_end 51 [2, 3] && (zR_hS WM_end && zR_rw WM_end 5 && zR_no WM_end 0 [14, 15] && zR_rw WM_end 11)) = true) : x = y ∧ zR ks (zy_2 M N1 N2) := by
  have hb := zR_bd hI
  simp only [Bool.and_eq_true] at hw
  obtain ⟨⟨⟨w1, w0⟩, w2⟩, ⟨⟨w3, w6⟩, w4⟩, w5⟩ := hw
  have w2 := zR_nn w2
  have w4 := zR_nn w4
  obtain ⟨⟨t1, t2, t3, t4⟩, -, -, -⟩ := id hR
  have s51 : ∀ b, (zm_sub2 [(0, 164)] M).1 51 b = M.1 51 b := fun b => zR_S (by decide) b
  have a := ze_endX (M := zm_sub2 [(0, 164)] M) a0 ho.1
  have c := ze_endM (M := zm_sub2 [(165, 31)] (zm_mrg [(0, 164)] M N1)) a0 ho.2
  rw [s51] at a
  rw [zR_T (by decide), ← t1] at c
  have e : x = y ∧ N1.1 51 1 = N2.1 0 6 ∧ (N1.1 51 1).toInt ≤ (M.1 51 1).toInt := by
    rcases a with ⟨z1, z2, z3, z4⟩ | ⟨z1, z3, z4⟩ <;> rcases c with ⟨w1, w2, w3, w4⟩ | ⟨w1, w3, w4⟩
    · exact ⟨z3.trans w3.symm, z4.trans w4.symm, by rw [z4]; exact z2⟩
    · omega
    · omega
    · exact ⟨z3.trans w3.symm, z4.trans w4.symm, by rw [z4]; exact Int.le_refl _⟩
  refine ⟨e.1, zR_2b hR f1 f2 w1 w3 w5 ⟨?_, fun i hi => ?_, ?_, ?_⟩⟩
  · rw [zR_2x (by decide), zR_2m (by decide)]
    exact e.2.1
  · rw [zR_2x (by decide)] at hi
    rw [zR_2x (by decide), zR_2m (by decide), (f1 52 i (zR_rn w0 i)).1, (f2 5 i (zR_rn w6 i)).1, zR_S (by decide), zR_T (by decide)]
    exact t2 i (by omega)
  · rw [zR_2x (by decide), zR_2m (by decide), (f1 51 2 (w2 2 (by decide))).1, (f2 0 14 (w4 14 (by decide))).1, s51, zR_T (by decide), t3]
  · rw [zR_2x (by decide), zR_2m (by decide), (f1 51 3 (w2 3 (by decide))).1, (f2 0 15 (w4 15 (by decide))).1, s51, zR_T (by decide), t4]
-- image and back: the class's memory M1, and the reference's N2 in it
theorem zR_Z {n : Nat} (h : n < 165 ∨ 196 ≤ n) (b : Nat) : (zm_mrg [(165, 31)] M1 N2).1 n b = M1.1 n b := by rw [(zy_m0 (a := 165) (z := 31) (n := n) (by omega) M1 N2).1]
theorem zR_Zm {n : Nat} (h : n < 31) (b : Nat) : zR_M (zm_mrg [(165, 31)] M1 N2) n b = N2.1 n b := by
  show (zm_mrg [(165, 31)] M1 N2).1 (165 + n) b = _
  rw [(zy_m1 (a := 165) (z := 31) (n := 165 + n) (by omega) (by omega) M1 N2).1, Nat.add_sub_cancel_left]
/-- the reference's tape, fault and the slots, kept or as said; the class's tape kept -/
theorem zR_Zt (hR : zR ks M) (h51 : ∀ b, M1.1 51 b = M.1 51 b) (h52 : ∀ b, M1.1 52 b = M.1 52 b) (h0 : ∀ b, b ≠ 0 → N2.1 0 b = zR_M M 0 b) (h5 : ∀ b, N2.1 5 b = zR_M M 5 b) : zR_t (zm_mrg [(165, 31)] M1 N2).1 (zR_M (zm_mrg [(165, 31)] M1 N2)) := by
  obtain ⟨⟨t1, t2, t3, t4⟩, -, -, -⟩ := hR
  refine ⟨?_, fun i hi => ?_, ?_, ?_⟩
  · rw [zR_Z (by omega), zR_Zm (by omega), h51, h0 6 (by decide), t1]
  · rw [zR_Z (by omega), h51] at hi
    rw [zR_Z (by omega), zR_Zm (by omega), h52, h5]
    exact t2 i hi
  · rw [zR_Z (by omega), zR_Zm (by omega), h51, h0 14 (by decide), t3]
  · rw [zR_Z (by omega), zR_Zm (by omega), h51, h0 15 (by decide), t4]
theorem zR_yM {s s2 : Nat} (h : zR_y s s2 (zm_sub2 [(165, 31)] M1).1 N2.1) (e : ∀ n b, n < 31 → zR_M M1 n b = zR_M M n b) : zR_y s s2 (zR_M M) (zR_M (zm_mrg [(165, 31)] M1 N2)) := zR_yc h (fun n b hn => by rw [zR_T1 hn, e n b hn]) (fun n b hn => zR_Zm hn b)
/-- nothing but cell 0, 0 of the reference was written, and of the class neither tape nor benches -/
theorem zR_Zn (hR : zR ks M) (hX : ∀ n b, (1 ≤ n ∧ n ≤ 10) ∨ n = 51 ∨ n = 52 ∨ 165 ≤ n → M1.1 n b = M.1 n b) (hN : N2.1 = zm_w (zm_sub2 [(165, 31)] M1).1 0 0 0) : zR ks (zm_mrg [(165, 31)] M1 N2) := by
  have eM : ∀ n b, n < 31 → zR_M M1 n b = zR_M M n b := fun n b _ => hX (165 + n) b (by omega)
  have y : ∀ s, zR_y s s (zR_M M) (zR_M (zm_mrg [(165, 31)] M1 N2)) := fun s => zR_yM (zR_yr (fun i j h0 _ => by rw [hN, ze_wo h0])) eM
  refine ⟨zR_Zt hR (fun b => hX 51 b (by omega)) (fun b => hX 52 b (by omega)) (fun b hb => ?_) (fun b => ?_), zR_q hR.2.1 (zR_xr (fun q b hq => ?_)) (y 0), fun k i hk hix => zR_q (hR.2.2.1 k i hk hix) (zR_xr (fun q b _ => ?_)) (y (k + 1)), fun k hk => ?_⟩
  · rw [hN, ze_wj hb, zR_T1 (by decide), eM 0 b (by decide)]
  · rw [hN, ze_wo (by decide), zR_T1 (by decide), eM 5 b (by decide)]
  · rw [zR_Z (by omega), hX (1 + q) b (by omega)]
  · rw [zR_Z (by omega), hX _ b (by omega)]
  · have e : (zm_mrg [(165, 31)] M1 N2).1 176 k = N2.1 11 k := zR_Zm (n := 11) (by decide) k
    have e2 : (zm_sub2 [(165, 31)] M1).1 11 k = M.1 176 k := (zR_T1 (n := 11) (by decide) k).trans (eM 11 k (by decide))
    rw [e, hN, ze_wo (by decide), e2]
    exact hR.2.2.2 k hk
theorem zK_inj {ks : List Nat} (h : ks ∈ zK_all) {k q i : Nat} (hk : k < 3) (hq : q < 3) (h1 : zK_ix ks k = some i) (h2 : zK_ix ks q = some i) : k = q := by
  have t : zK_all.all (fun ks => (List.range 3).all (fun k => (List.range 3).all (fun q => match zK_ix ks k, zK_ix ks q with
    | some i, some j => Nat.beq k q || !Nat.beq i j
    | _, _ => true))) = true := by decide +kernel
  have t := List.all_eq_true.mp (List.all_eq_true.mp (List.all_eq_true.mp t ks h) k (List.mem_range.mpr hk)) q (List.mem_range.mpr hq)
  rw [h1, h2] at t
  simp only [Bool.or_eq_true, Bool.not_eq_true', Nat.beq_refl, Bool.true_eq_false, or_false] at t
  exact Nat.eq_of_beq_eq_true t
theorem zR_imI (hI : zy_I ks M) : 0 ≤ (M.1 1 7).toInt ∧ (M.1 1 7).toInt ≤ 41 := by
  have h : (0 : Int) ≤ ((zm_sub2 [(0, 164)] M).1 1 7).toInt ∧ ((zm_sub2 [(0, 164)] M).1 1 7).toInt ≤ 41 := hI.1 1 _ rfl 7 _ rfl
  rw [zR_S (by decide)] at h
  exact h
theorem zR_bkI (hI : zy_I ks M) {i : Nat} (hi : i < ks.length) : 0 ≤ (M.1 (196 + 10 * i) 7).toInt ∧ (M.1 (196 + 10 * i) 7).toInt ≤ 41 := by
  have h : (0 : Int) ≤ ((zm_sub2 [(196 + 10 * i, 10)] M).1 0 7).toInt ∧ ((zm_sub2 [(196 + 10 * i, 10)] M).1 0 7).toInt ≤ 41 := hI.2.2.2.1 i hi 0 _ rfl 7 _ rfl
  rw [(zy_s1 (a := 196 + 10 * i) (z := 10) (n := 0) (by decide) M).1] at h
  exact h
theorem zR_rg {a0 : Int32} (hr : a0 < 0 ∨ ¬ a0 < 3) : a0.toInt < 0 ∨ 3 ≤ a0.toInt := by
  rw [Int32.lt_iff_toInt_lt, Int32.lt_iff_toInt_lt, show (0 : Int32).toInt = 0 by decide, show (3 : Int32).toInt = 3 by decide] at hr
  omega
theorem zR_imK (hks : ks ∈ zK_all) (hI : zy_I ks M) (hR : zR ks M) {a0 x y : Int32} (ho : zy_img ks M a0 x ks2 M1) (h2 : zF_X10_image zW_M [.ref 0, .int a0] (zm_sub2 [(165, 31)] M1) = some (some (.int y), N2)) : x = y ∧ zR ks2 (zm_mrg [(165, 31)] M1 N2) := by
  rcases ho with ⟨hr, rfl, e1, e2⟩ | ⟨k, i, N, hk, rfl, rfl, hk2, hix, hor, rfl, hcp⟩
  · have e1 := e1.symm
    have e2 := e2.symm
    subst e1
    subst e2
    have hN : zF_X10_image zW_M [.ref 0, .int a0] (zm_sub2 [(165, 31)] M) = some (some (.int (-2)), (zm_w (zm_sub2 [(165, 31)] M).1 0 0 0, (zm_sub2 [(165, 31)] M).2)) := zR_imN (zR_rg hr)
    rw [hN] at h2
    cases h2
    exact ⟨rfl, zR_Zn hR (fun _ _ _ => rfl) rfl⟩
  · have hcpy := fun n => zy_cp (a := 196 + 10 * i) (b := 1) (M := M) (N := N) (by omega) hcp.2.2 n
    have hX : ∀ n b, n < 196 + 10 * i ∨ 196 + 10 * i + 10 ≤ n → (zm_mrg [(196 + 10 * i, 10), (1, 10)] M N).1 n b = M.1 n b := fun n b hn => by rw [((hcpy n).2 hn).1]
    have hcx := zR_cx (a := 196 + 10 * i) (b := 1) (by omega) hcp (zR_imI hI)
    generalize zm_mrg [(196 + 10 * i, 10), (1, 10)] M N = M1 at h2 hX hcx
    have eM : ∀ n b, n < 31 → zR_M M1 n b = zR_M M n b := fun n b hn => hX (165 + n) b (by omega)
    obtain ⟨K, g1, g2, g3, g4, g5, g6, g7⟩ := zR_imY (I := (zm_sub2 [(165, 31)] M1).1) (J := (zm_sub2 [(165, 31)] M1).2) hk
    have h2' : some (some (Value.int y), N2) = (some (some (.int 0), (K, (zm_sub2 [(165, 31)] M1).2)) : zm_R) := h2.symm.trans g1
    cases h2'
    refine ⟨rfl, zR_Zt hR (fun b => hX 51 b (by omega)) (fun b => hX 52 b (by omega)) (fun b hb => (g4 b hb).trans ((zR_T1 (by decide) b).trans (eM 0 b (by decide)))) (fun b => (g5 b).trans ((zR_T1 (by decide) b).trans (eM 5 b (by decide)))), zR_q hR.2.1 (zR_xr (fun q b hq => ?_)) (zR_yM (g3 0 (by decide) (by omega)) eM), fun q j hq hjx => ?_, fun q hq => ?_⟩
    · rw [zR_Z (by omega), hX (1 + q) b (by omega)]
    · by_cases e : q = k
      · subst e
        rw [hix] at hjx
        cases hjx
        exact zR_q hR.2.1 (zR_xc hcx (fun _ _ _ => rfl) (fun q b hq => zR_Z (by omega) b)) (zR_yM g2 eM)
      · have hold : zK_ix ks q = some j := by
          rcases hor with ⟨-, rfl⟩ | ⟨hn, rfl⟩
          · exact hjx
          · rw [(zK_new hks hk hn).2.2.2 q hq e] at hjx
            exact hjx
        have hij : j ≠ i := fun z => e (zK_inj hk2 hq hk (z ▸ hjx) hix)
        refine zR_q (hR.2.2.1 q j hq hold) (zR_xr (fun r b hr => ?_)) (zR_yM (g3 (q + 1) (by omega) (by omega)) eM)
        rw [zR_Z (by omega), hX _ b (by omega)]
    · have e : (zm_mrg [(165, 31)] M1 (K, (zm_sub2 [(165, 31)] M1).2)).1 176 q = K 11 q := zR_Zm (n := 11) (by decide) q
      rw [e]
      by_cases c : q = k
      · subst c
        rw [g6]
        unfold zR_v
        rw [hix]
        rfl
      · have hold : zR_v ks2 q = zR_v ks q := by
          rcases hor with ⟨-, rfl⟩ | ⟨hn, rfl⟩
          · rfl
          · unfold zR_v
            rw [(zK_new hks hk hn).2.2.2 q hq c]
        have e2 : (zm_sub2 [(165, 31)] M1).1 11 q = M.1 176 q := (zR_T1 (n := 11) (by decide) q).trans (eM 11 q (by decide))
        rw [g7 q c, e2, hold]
        exact hR.2.2.2 q hq
theorem zR_bk (hks : ks ∈ zK_all) (hI : zy_I ks M) (hR : zR ks M) {a0 x y : Int32} (ho : zy_bck ks M a0 x M1) (h2 : zF_X10_back zW_M [.ref 0, .int a0] (zm_sub2 [(165, 31)] M1) = some (some (.int y), N2)) : x = y ∧ zR ks (zm_mrg [(165, 31)] M1 N2) := by
  rcases ho with ⟨hr, rfl, e2⟩ | ⟨k, hk, rfl, hix, rfl, e2⟩ | ⟨k, i, N, hk, rfl, hix, rfl, rfl, hcp⟩
  · have e2 := e2.symm
    subst e2
    have hN : zF_X10_back zW_M [.ref 0, .int a0] (zm_sub2 [(165, 31)] M) = some (some (.int (-2)), (zm_w (zm_sub2 [(165, 31)] M).1 0 0 0, (zm_sub2 [(165, 31)] M).2)) := zR_bkN (zR_rg hr)
    rw [hN] at h2
    cases h2
    exact ⟨rfl, zR_Zn hR (fun _ _ _ => rfl) rfl⟩
  · have e2 := e2.symm
    subst e2
    have hv := hR.2.2.2 k hk
    unfold zR_v at hv
    rw [hix] at hv
    have h0 : (zm_sub2 [(165, 31)] M).1 11 k = 0 := (zR_T1 (n := 11) (by decide) k).trans (Int32.toInt_inj.mp (hv.trans ze_i0.symm))
    have hN : zF_X10_back zW_M [.ref 0, .int (Int32.ofNat k)] (zm_sub2 [(165, 31)] M) = some (some (.int (-6)), (zm_w (zm_sub2 [(165, 31)] M).1 0 0 0, (zm_sub2 [(165, 31)] M).2)) := zR_bk0 hk h0
    rw [hN] at h2
    cases h2
    exact ⟨rfl, zR_Zn hR (fun _ _ _ => rfl) rfl⟩
  · have hi := zK_old hks hk hix
    have hcpy := fun n => zy_cp (a := 1) (b := 196 + 10 * i) (M := M) (N := N) (by omega) hcp.2.2 n
    have hX : ∀ n b, (n < 1 ∨ 11 ≤ n) ∧ n ≠ 21 ∧ n ≠ 68 ∧ n ≠ 72 → (zi_fg (zm_mrg [(1, 10), (196 + 10 * i, 10)] M N)).1 n b = M.1 n b := fun n b hn => by rw [(zy_fgx _ (n := n) hn.2).1, ((hcpy n).2 (by omega)).1]
    have hcx : zR_x (196 + 10 * i) 1 M.1 (zi_fg (zm_mrg [(1, 10), (196 + 10 * i, 10)] M N)).1 := zR_xc (zR_cx (a := 1) (b := 196 + 10 * i) (by omega) hcp (zR_bkI hI hi)) (fun _ _ _ => rfl) (fun q b hq => by rw [(zy_fgx _ (n := 1 + q) (by omega)).1])
    generalize zi_fg (zm_mrg [(1, 10), (196 + 10 * i, 10)] M N) = M1 at h2 hX hcx
    have eM : ∀ n b, n < 31 → zR_M M1 n b = zR_M M n b := fun n b hn => hX (165 + n) b (by omega)
    have hv := hR.2.2.2 k hk
    unfold zR_v at hv
    rw [hix] at hv
    have hv : (M.1 176 k).toInt = 1 := hv
    have h1 : ¬ (zm_sub2 [(165, 31)] M1).1 11 k = 0 := by
      have e2 : (zm_sub2 [(165, 31)] M1).1 11 k = M.1 176 k := (zR_T1 (n := 11) (by decide) k).trans (eM 11 k (by decide))
      rw [e2]
      intro z
      rw [z] at hv
      exact absurd hv (by decide)
    obtain ⟨K, g1, g2, g3, g4, g5, g6⟩ := zR_bkY (I := (zm_sub2 [(165, 31)] M1).1) (J := (zm_sub2 [(165, 31)] M1).2) hk h1
    have h2' : some (some (Value.int y), N2) = (some (some (.int 0), (K, (zm_sub2 [(165, 31)] M1).2)) : zm_R) := h2.symm.trans g1
    cases h2'
    refine ⟨rfl, zR_Zt hR (fun b => hX 51 b (by omega)) (fun b => hX 52 b (by omega)) (fun b hb => (g4 b hb).trans ((zR_T1 (by decide) b).trans (eM 0 b (by decide)))) (fun b => (g5 b).trans ((zR_T1 (by decide) b).trans (eM 5 b (by decide)))), zR_q (hR.2.2.1 k i hk hix) (zR_xc hcx (fun _ _ _ => rfl) (fun q b hq => zR_Z (by omega) b)) (zR_yM g2 eM), fun q j hq hjx => ?_, fun q hq => ?_⟩
    · refine zR_q (hR.2.2.1 q j hq hjx) (zR_xr (fun r b hr => ?_)) (zR_yM (g3 (q + 1) (by omega) (by omega)) eM)
      rw [zR_Z (by omega), hX _ b (by omega)]
    · have e : (zm_mrg [(165, 31)] M1 (K, (zm_sub2 [(165, 31)] M1).2)).1 176 q = K 11 q := zR_Zm (n := 11) (by decide) q
      have e2 : (zm_sub2 [(165, 31)] M1).1 11 q = M.1 176 q := (zR_T1 (n := 11) (by decide) q).trans (eM 11 q (by decide))
      rw [e, g6 q, e2]
      exact hR.2.2.2 q hq
end ZRU
end
