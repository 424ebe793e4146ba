/-! IMAGE, BACK: what they answer and leave behind -/
theorem zy_nohit {W : zt_W} {n i : Nat} (h : W.all (fun w => Nat.ble (w.1 + 1) 10) = true) (hn : 10 ≤ n) : zt_hit W n i = false := by
  cases hq : zt_hit W n i with
  | false => rfl
  | true =>
    obtain ⟨w, hw, he⟩ := List.any_eq_true.mp hq
    simp only [Bool.and_eq_true] at he
    have h1 := Nat.eq_of_beq_eq_true he.1.1
    have h2 := Nat.le_of_ble_eq_true (List.all_eq_true.mp h w hw)
    omega
def zy_cW : zt_W := [(0, 0, 7), (1, 0, 5), (2, 0, 4), (3, 0, 4), (4, 0, 4), (5, 0, 4), (6, 0, 4), (7, 0, 40), (8, 0, 40), (9, 0, 40)]
theorem zy_cWb : zy_cW.all (fun w => Nat.ble (w.1 + 1) 10) = true := rfl
theorem zy_g4 : zo_g4 = zo_g2 ++ zo_g2 := by decide +kernel
theorem zy_g1 : zo_g2 = (zo_g1.drop 1).take 10 := by decide +kernel
theorem zy_g2l : zo_g2.length = 10 := by decide +kernel
theorem zy_g2z : zo_g2.all (fun g => g.all (fun b => zt_le b.1 (.ofNat 0) && zt_le (.ofNat 0) b.2)) = true := by decide +kernel
theorem zy_f2 {a b n : Nat} (M : zm_I) : (n < 10 → (zm_sub2 [(a, 10), (b, 10)] M).1 n = M.1 (a + n) ∧ (zm_sub2 [(a, 10), (b, 10)] M).2 n = M.2 (a + n)) ∧ (n < 10 → (zm_sub2 [(a, 10), (b, 10)] M).1 (10 + n) = M.1 (b + n) ∧ (zm_sub2 [(a, 10), (b, 10)] M).2 (10 + n) = M.2 (b + n)) := by
  constructor
  · intro h
    have : zm_fw [(a, 10), (b, 10)] n = a + n := by simp only [zm_fw]; rw [if_pos h]
    exact ⟨by show M.1 (zm_fw [(a, 10), (b, 10)] n) = _; rw [this], by show M.2 (zm_fw [(a, 10), (b, 10)] n) = _; rw [this]⟩
  · intro h
    have : zm_fw [(a, 10), (b, 10)] (10 + n) = b + n := by
      simp only [zm_fw]
      rw [if_neg (by omega), if_pos (by omega)]
      omega
    exact ⟨by show M.1 (zm_fw [(a, 10), (b, 10)] (10 + n)) = _; rw [this], by show M.2 (zm_fw [(a, 10), (b, 10)] (10 + n)) = _; rw [this]⟩
theorem zy_G4 {a b : Nat} {M : zm_I} (hA : zt_Gs zo_g2 (zm_sub2 [(a, 10)] M)) (hB : zt_Gs zo_g2 (zm_sub2 [(b, 10)] M)) : zt_Gs zo_g4 (zm_sub2 [(a, 10), (b, 10)] M) := by
  intro n g hg i bb hb
  rw [zy_g4] at hg
  by_cases hn : n < 10
  · rw [List.getElem?_append_left (by rw [zy_g2l]; exact hn)] at hg
    have := hA n g hg i bb hb
    rw [(zy_s1 hn M).1] at this
    rw [((zy_f2 M).1 hn).1]
    exact this
  · rw [List.getElem?_append_right (by rw [zy_g2l]; omega), zy_g2l] at hg
    have hlt : n - 10 < 10 := by rw [← zy_g2l]; exact (List.getElem?_eq_some_iff.mp hg).1
    have := hB (n - 10) g hg i bb hb
    rw [(zy_s1 hlt M).1] at this
    have e : n = 10 + (n - 10) := by omega
    rw [e, ((zy_f2 M).2 hlt).1]
    exact this
theorem zy_now {M : zm_I} (h : zt_Gs zo_g1 (zm_sub2 [(0, 164)] M)) : zt_Gs zo_g2 (zm_sub2 [(1, 10)] M) := by
  intro n g hg i bb hb
  have hn : n < 10 := by rw [← zy_g2l]; exact (List.getElem?_eq_some_iff.mp hg).1
  rw [zy_g1, List.getElem?_take, if_pos hn, List.getElem?_drop] at hg
  have := h (1 + n) g hg i bb hb
  rw [(zy_s1 (by omega) M).1, Nat.zero_add] at this
  rw [(zy_s1 hn M).1]
  exact this
theorem zy_G0 {a : Nat} {M : zm_I} (h : ∀ n, n < 10 → ∀ i, M.1 (a + n) i = 0) : zt_Gs zo_g2 (zm_sub2 [(a, 10)] M) := by
  intro n g hg i bb hb
  have hn : n < 10 := by rw [← zy_g2l]; exact (List.getElem?_eq_some_iff.mp hg).1
  rw [(zy_s1 hn M).1, h n hn]
  have := List.all_eq_true.mp (List.all_eq_true.mp zy_g2z g (List.mem_of_getElem? hg)) bb (List.mem_of_getElem? hb)
  simp only [Bool.and_eq_true, zt_le_ok] at this
  exact this
theorem zy_dis2 {q len : Nat} (h : 196 ≤ q) (hl : q + 10 ≤ len) : (zm_dis [(q, 10), (1, 10)] && zm_bound len [(q, 10), (1, 10)]) = true ∧ (zm_dis [(1, 10), (q, 10)] && zm_bound len [(1, 10), (q, 10)]) = true := by
  have e1 : Nat.ble (1 + 10) q = true := Nat.ble_eq_true_of_le (by omega)
  have e2 : Nat.ble (q + 10) len = true := Nat.ble_eq_true_of_le hl
  have e3 : Nat.ble (1 + 10) len = true := Nat.ble_eq_true_of_le (by omega)
  simp only [zm_dis, zm_apart, zm_bound, e1, e2, e3, Bool.or_true, Bool.true_or, Bool.and_true]
  exact ⟨trivial, trivial⟩
theorem zy_tr2 {q : Nat} (h : 196 ≤ q) : ([.ref q, .ref 1] : List Value).map (zm_tr [(q, 10), (1, 10)]) = [.ref 0, .ref 10] ∧ ([.ref 1, .ref q] : List Value).map (zm_tr [(1, 10), (q, 10)]) = [.ref 0, .ref 10] := by
  have e1 : zm_iv [(q, 10), (1, 10)] q = 0 := by simp only [zm_iv]; rw [if_pos (by omega)]; omega
  have e2 : zm_iv [(q, 10), (1, 10)] 1 = 10 := by simp only [zm_iv]; rw [if_neg (by omega), if_pos (by omega)]
  have e3 : zm_iv [(1, 10), (q, 10)] 1 = 0 := by simp only [zm_iv]; rw [if_pos (by omega)]
  have e4 : zm_iv [(1, 10), (q, 10)] q = 10 := by simp only [zm_iv]; rw [if_neg (by omega), if_pos (by omega)]; omega
  simp only [List.map_cons, List.map_nil, zm_tr, e1, e2, e3, e4]
  exact ⟨trivial, trivial⟩
/-- behind copyFrom: the first block is new, all else is as it was -/
theorem zy_cp {a b : Nat} (hab : a + 10 ≤ b ∨ b + 10 ≤ a) {M N : zm_I} (hf : zt_fr zy_cW (zm_sub2 [(a, 10), (b, 10)] M) N) (n : Nat) : (n < 10 → (zm_mrg [(a, 10), (b, 10)] M N).1 (a + n) = N.1 n ∧ (zm_mrg [(a, 10), (b, 10)] M N).2 (a + n) = N.2 n) ∧ (n < a ∨ a + 10 ≤ n → (zm_mrg [(a, 10), (b, 10)] M N).1 n = M.1 n ∧ (zm_mrg [(a, 10), (b, 10)] M N).2 n = M.2 n) := by
  have inn : ∀ {q : Nat}, (a ≤ q ∧ q < a + 10) ∨ (b ≤ q ∧ q < b + 10) → zm_in [(a, 10), (b, 10)] q = true := by
    intro q hq
    simp only [zm_in, Bool.or_false, Bool.or_eq_true, Bool.and_eq_true]
    rcases hq with hq | hq
    · exact Or.inl ⟨Nat.ble_eq_true_of_le hq.1, Nat.ble_eq_true_of_le hq.2⟩
    · exact Or.inr ⟨Nat.ble_eq_true_of_le hq.1, Nat.ble_eq_true_of_le hq.2⟩
  have out : ∀ {q : Nat}, (q < a ∨ a + 10 ≤ q) → (q < b ∨ b + 10 ≤ q) → zm_in [(a, 10), (b, 10)] q = false := by
    intro q h1 h2
    cases hz : zm_in [(a, 10), (b, 10)] q with
    | false => rfl
    | true =>
      simp only [zm_in, Bool.or_false, Bool.or_eq_true, Bool.and_eq_true] at hz
      rcases hz with hz | hz
      · have := Nat.le_of_ble_eq_true hz.1
        have := Nat.le_of_ble_eq_true hz.2
        omega
      · have := Nat.le_of_ble_eq_true hz.1
        have := Nat.le_of_ble_eq_true hz.2
        omega
  constructor
  · intro hn
    have e : zm_iv [(a, 10), (b, 10)] (a + n) = n := by simp only [zm_iv]; rw [if_pos (by omega)]; omega
    constructor <;> funext i <;> simp only [zm_mrg, inn (q := a + n) (Or.inl ⟨by omega, by omega⟩), e]
  · intro hn
    by_cases hb : b ≤ n ∧ n < b + 10
    · have e : zm_iv [(a, 10), (b, 10)] n = 10 + (n - b) := by simp only [zm_iv]; rw [if_neg (by omega), if_pos hb]
      have hk := fun i => hf (10 + (n - b)) i (zy_nohit zy_cWb (by omega))
      have hv := (zy_f2 (a := a) (b := b) (n := n - b) M).2 (by omega)
      have en : b + (n - b) = n := by omega
      rw [en] at hv
      constructor
      · funext i
        simp only [zm_mrg, inn (q := n) (Or.inr hb), e]
        rw [(hk i).1, hv.1]
      · funext i
        simp only [zm_mrg, inn (q := n) (Or.inr hb), e]
        rw [(hk i).2, hv.2]
    · have := out hn (q := n) (by omega)
      constructor <;> funext i <;> simp only [zm_mrg, this]
theorem zy_copy {M : zm_I} (hG : zt_Gs zo_g4 M) : ∃ N, zF_X0_copyFrom zW_BB [.ref 0, .ref 10] M = some (none, N) ∧ zt_Gs zo_g4 N ∧ zt_fr zy_cW M N := by
  obtain ⟨v, N, h1, h2, h3, o, h4, h5⟩ := zp_get (w0 := zW_BB) (G := zo_g4) (zi_53 0 zo_hd) rfl rfl (zq_s1 zq_r0 (zq_s1 zq_r0 zq_s0)) zh_no hG
  have h4 : o = (none, [], [], []) := List.mem_singleton.mp h4
  subst h4
  have h5 : v = none := h5.1
  subst h5
  exact ⟨N, h1, h2, h3⟩
/-- a copy into the kept bench i, or out of it -/
def zy_cpy (a b : Nat) (M N : zm_I) : Prop := zF_X0_copyFrom zW_BB [.ref 0, .ref 10] (zm_sub2 [(a, 10), (b, 10)] M) = some (none, N) ∧ zt_Gs zo_g4 N ∧ zt_fr zy_cW (zm_sub2 [(a, 10), (b, 10)] M) N
theorem zi_copy {ks : List Nat} (hks : ks ∈ zK_all) {i : Nat} (hi : i < ks.length) {M : zm_I} (hI : zy_I ks M) (x : Int32) : ∃ N, zm_V zT_im (zL_w ks) (38, [some (.ref 0), some (.int x), some (.ref (196 + 10 * i))], [], M) = some (some (.int 0), zm_mrg [(196 + 10 * i, 10), (1, 10)] M N) ∧ zy_cpy (196 + 10 * i) 1 M N := by
  obtain ⟨N, h1, h2, h3⟩ := zy_copy (zy_G4 (hI.2.2.2.1 i hi) (zy_now hI.1))
  obtain ⟨-, -, hl, -, -, hz⟩ := zK_w hks
  obtain ⟨z1, -, z3⟩ := hz i hi
  refine ⟨N, ?_, h1, h2, h3⟩
  generalize hq : 196 + 10 * i = q at *
  have z3 : zm_recv (zL_w ks) [.ref q, .ref 1] (some 0) = true := z3
  have e1 : zm_step zT_im (zL_w ks) (zm_V zT_im (zL_w ks)) (38, [some (.ref 0), some (.int x), some (.ref q)], [], M) = zm_gf (zm_seq zT_im (zL_w ks) (zm_V zT_im (zL_w ks)) [(.invokevirtual 102, 0, 0)] 43) (zL_w ks) 9 1 [some (.ref 0), some (.int x), some (.ref q)] [.ref 0, .ref q] M := rfl
  have e2 : zm_seq zT_im (zL_w ks) (zm_V zT_im (zL_w ks)) [(.invokevirtual 102, 0, 0)] 43 [some (.ref 0), some (.int x), some (.ref q)] [zm_vA M 0 zK_c0 (zm_ty 9 1) 1, .ref q] M = zm_app (2, some 0, false, [(0, 10), (1, 10)], zF_X0_copyFrom) (zL_w ks) [.ref q, .ref 1] M (fun v N => zm_V zT_im (zL_w ks) (46, [some (.ref 0), some (.int x), some (.ref q)], v.toList ++ [], N)) := rfl
  rw [zm_V_eq, e1, zy_gf (zK_0 ks), e2, zm_app_l (wc := zW_BB) (ac := [.ref 0, .ref 10]) (bs := [(q, 10), (1, 10)]) z3 rfl rfl (zy_dis2 (by omega) (by omega)).1 z1 (zy_tr2 (by omega)).1 h1]
  exact (zm_V_eq _ _ _).trans rfl
theorem zi_imR {wl : zm_L} {M : zm_I} {x : Int32} (h : x < 0 ∨ ¬ x < 3) : zF_im wl [.ref 0, .int x] M = some (some (.int (-2)), M) := by
  have e0 : zF_im wl [.ref 0, .int x] M = if x < 0 then zm_V zT_im wl (9, [some (.ref 0), some (.int x), none], [], M) else zm_V zT_im wl (4, [some (.ref 0), some (.int x), none], [], M) := (zm_V_eq _ _ _).trans rfl
  have e4 : zm_V zT_im wl (4, [some (.ref 0), some (.int x), none], [], M) = if x < 3 then zm_V zT_im wl (12, [some (.ref 0), some (.int x), none], [], M) else zm_V zT_im wl (9, [some (.ref 0), some (.int x), none], [], M) := (zm_V_eq _ _ _).trans rfl
  have e9 : zm_V zT_im wl (9, [some (.ref 0), some (.int x), none], [], M) = some (some (.int (-2)), M) := (zm_V_eq _ _ _).trans rfl
  by_cases h0 : x < 0
  · rw [e0, if_pos h0, e9]
  · rw [e0, if_neg h0, e4, if_neg (h.resolve_left h0), e9]
theorem zi_imK {ks : List Nat} {M : zm_I} {k i : Nat} (hk : k < 3) (hi : zK_ix ks k = some i) : zF_im (zL_w ks) [.ref 0, .int (Int32.ofNat k)] M = zm_V zT_im (zL_w ks) (38, [some (.ref 0), some (.int (Int32.ofNat k)), some (.ref (196 + 10 * i))], [], M) := by
  have e0 : zF_im (zL_w ks) [.ref 0, .int (Int32.ofNat k)] M = if Int32.ofNat k < 0 then zm_V zT_im (zL_w ks) (9, zi_ls k none, [], M) else zm_V zT_im (zL_w ks) (4, zi_ls k none, [], M) := (zm_V_eq _ _ _).trans rfl
  have e4 : zm_V zT_im (zL_w ks) (4, zi_ls k none, [], M) = if Int32.ofNat k < 3 then zm_V zT_im (zL_w ks) (12, zi_ls k none, [], M) else zm_V zT_im (zL_w ks) (9, zi_ls k none, [], M) := (zm_V_eq _ _ _).trans rfl
  obtain ⟨-, -, h1, h2⟩ := zi_k3 k hk
  rw [e0, if_neg h1, e4, if_pos h2, zm_V_eq, zi_read (T := zT_im) (off := 18) (pcT := 38) (pcN := 23) (b0 := []) rfl rfl rfl hk, hi]
-- back
theorem zi_bkR {wl : zm_L} {M : zm_I} {x : Int32} (h : x < 0 ∨ ¬ x < 3) : zF_X9_back wl [.ref 0, .int x] M = some (some (.int (-2)), M) := by
  have e0 : zF_X9_back wl [.ref 0, .int x] M = if x < 0 then zm_V zT_X9_back wl (9, [some (.ref 0), some (.int x), none], [], M) else zm_V zT_X9_back wl (4, [some (.ref 0), some (.int x), none], [], M) := (zm_V_eq _ _ _).trans rfl
  have e4 : zm_V zT_X9_back wl (4, [some (.ref 0), some (.int x), none], [], M) = if x < 3 then zm_V zT_X9_back wl (12, [some (.ref 0), some (.int x), none], [], M) else zm_V zT_X9_back wl (9, [some (.ref 0), some (.int x), none], [], M) := (zm_V_eq _ _ _).trans rfl
  have e9 : zm_V zT_X9_back wl (9, [some (.ref 0), some (.int x), none], [], M) = some (some (.int (-2)), M) := (zm_V_eq _ _ _).trans rfl
  by_cases h0 : x < 0
  · rw [e0, if_pos h0, e9]
  · rw [e0, if_neg h0, e4, if_neg (h.resolve_left h0), e9]
theorem zi_bk12 {ks : List Nat} {M : zm_I} {k : Nat} (hk : k < 3) : zF_X9_back (zL_w ks) [.ref 0, .int (Int32.ofNat k)] M = match zK_ix ks k with
  | some i => zm_V zT_X9_back (zL_w ks) (26, zi_ls k (some (.ref (196 + 10 * i))), [], M)
  | none => zm_V zT_X9_back (zL_w ks) (23, zi_ls k (some .null), [], M) := by
  have e0 : zF_X9_back (zL_w ks) [.ref 0, .int (Int32.ofNat k)] M = if Int32.ofNat k < 0 then zm_V zT_X9_back (zL_w ks) (9, zi_ls k none, [], M) else zm_V zT_X9_back (zL_w ks) (4, zi_ls k none, [], M) := (zm_V_eq _ _ _).trans rfl
  have e4 : zm_V zT_X9_back (zL_w ks) (4, zi_ls k none, [], M) = if Int32.ofNat k < 3 then zm_V zT_X9_back (zL_w ks) (12, zi_ls k none, [], M) else zm_V zT_X9_back (zL_w ks) (9, zi_ls k none, [], M) := (zm_V_eq _ _ _).trans rfl
  obtain ⟨-, -, h1, h2⟩ := zi_k3 k hk
  rw [e0, if_neg h1, e4, if_pos h2, zm_V_eq, zi_read (T := zT_X9_back) (off := 6) (pcT := 26) (pcN := 23) (b0 := []) rfl rfl rfl hk]
  cases zK_ix ks k <;> rfl
theorem zy_pf {kn : zm_N} {wl : zm_L} {n ci f : Nat} {rs : List Value} {ls : List (Option Value)} {st : List Value} {x : Int32} {M : zm_I} (h : wl[n]? = some (.inl ci, rs)) (hf : zm_fin ci f = false) (ht : zm_ty ci f = .boolean) (hx : x = 0 ∨ x = 1) : zm_pf kn wl ci f ls (.int x :: .ref n :: st) M = kn ls st (zm_w M.1 n f x, M.2) := by
  unfold zm_pf
  simp only [hf, h, Nat.beq_refl, ht]
  rw [if_pos hx]
def zi_fg (M : zm_I) : zm_I := (zm_w (zm_w (zm_w M.1 21 1 (Int32.ofInt 0)) 68 0 (Int32.ofInt 0)) 72 0 (Int32.ofInt 0), M.2)
theorem zi_forget {ks : List Nat} {M : zm_I} : zF_X9_forgetAnswers (zL_w ks) [.ref 0] M = some (none, zi_fg M) := by
  have h21 : ∃ rs, (zL_w ks)[21]? = some (.inl 3, rs) := ⟨_, zK_at (by rfl) (by decide)⟩
  have h68 : ∃ rs, (zL_w ks)[68]? = some (.inl 6, rs) := ⟨_, zK_at (by rfl) (by decide)⟩
  have h72 : ∃ rs, (zL_w ks)[72]? = some (.inl 1, rs) := ⟨_, zK_at (by rfl) (by decide)⟩
  obtain ⟨r21, h21⟩ := h21
  obtain ⟨r68, h68⟩ := h68
  obtain ⟨r72, h72⟩ := h72
  have h0 : (Int32.ofInt 0 : Int32) = 0 ∨ (Int32.ofInt 0 : Int32) = 1 := Or.inl (by decide)
  generalize hV : zm_V zT_X9_forgetAnswers (zL_w ks) = V
  have e0 : zF_X9_forgetAnswers (zL_w ks) [.ref 0] M = zm_V zT_X9_forgetAnswers (zL_w ks) (0, [some (.ref 0)], [], M) := rfl
  have e1 : zm_step zT_X9_forgetAnswers (zL_w ks) V (0, [some (.ref 0)], [], M) = zm_gf (zm_seq zT_X9_forgetAnswers (zL_w ks) V [(.iconst 0, 0, 0), (.putfield 385, 3, 1), (.aload_n 0, 0, 0), (.getfield 56, 9, 8), (.iconst 0, 0, 0), (.putfield 388, 6, 0), (.aload_n 0, 0, 0), (.getfield 63, 9, 9), (.iconst 0, 0, 0), (.putfield 389, 1, 0), (.return_, 0, 0)] 4) (zL_w ks) 9 5 [some (.ref 0)] [.ref 0] M := rfl
  rw [e0, zm_V_eq, hV, e1, zy_gf (zK_0 ks)]
  have e2 : zm_seq zT_X9_forgetAnswers (zL_w ks) V [(.iconst 0, 0, 0), (.putfield 385, 3, 1), (.aload_n 0, 0, 0), (.getfield 56, 9, 8), (.iconst 0, 0, 0), (.putfield 388, 6, 0), (.aload_n 0, 0, 0), (.getfield 63, 9, 9), (.iconst 0, 0, 0), (.putfield 389, 1, 0), (.return_, 0, 0)] 4 [some (.ref 0)] [zm_vA M 0 zK_c0 (zm_ty 9 5) 5] M = zm_pf (zm_seq zT_X9_forgetAnswers (zL_w ks) V [(.aload_n 0, 0, 0), (.getfield 56, 9, 8), (.iconst 0, 0, 0), (.putfield 388, 6, 0), (.aload_n 0, 0, 0), (.getfield 63, 9, 9), (.iconst 0, 0, 0), (.putfield 389, 1, 0), (.return_, 0, 0)] 8) (zL_w ks) 3 1 [some (.ref 0)] [.int (Int32.ofInt 0), .ref 21] M := rfl
  rw [e2, zy_pf h21 rfl rfl h0]
  generalize hM1 : ((zm_w M.1 21 1 (Int32.ofInt 0), M.2) : zm_I) = M1
  have e3 : zm_seq zT_X9_forgetAnswers (zL_w ks) V [(.aload_n 0, 0, 0), (.getfield 56, 9, 8), (.iconst 0, 0, 0), (.putfield 388, 6, 0), (.aload_n 0, 0, 0), (.getfield 63, 9, 9), (.iconst 0, 0, 0), (.putfield 389, 1, 0), (.return_, 0, 0)] 8 [some (.ref 0)] [] M1 = zm_gf (zm_seq zT_X9_forgetAnswers (zL_w ks) V [(.iconst 0, 0, 0), (.putfield 388, 6, 0), (.aload_n 0, 0, 0), (.getfield 63, 9, 9), (.iconst 0, 0, 0), (.putfield 389, 1, 0), (.return_, 0, 0)] 12) (zL_w ks) 9 8 [some (.ref 0)] [.ref 0] M1 := rfl
  rw [e3, zy_gf (zK_0 ks)]
  have e4 : zm_seq zT_X9_forgetAnswers (zL_w ks) V [(.iconst 0, 0, 0), (.putfield 388, 6, 0), (.aload_n 0, 0, 0), (.getfield 63, 9, 9), (.iconst 0, 0, 0), (.putfield 389, 1, 0), (.return_, 0, 0)] 12 [some (.ref 0)] [zm_vA M1 0 zK_c0 (zm_ty 9 8) 8] M1 = zm_pf (zm_seq zT_X9_forgetAnswers (zL_w ks) V [(.aload_n 0, 0, 0), (.getfield 63, 9, 9), (.iconst 0, 0, 0), (.putfield 389, 1, 0), (.return_, 0, 0)] 16) (zL_w ks) 6 0 [some (.ref 0)] [.int (Int32.ofInt 0), .ref 68] M1 := rfl
  rw [e4, zy_pf h68 rfl rfl h0]
  generalize hM2 : ((zm_w M1.1 68 0 (Int32.ofInt 0), M1.2) : zm_I) = M2
  have e5 : zm_seq zT_X9_forgetAnswers (zL_w ks) V [(.aload_n 0, 0, 0), (.getfield 63, 9, 9), (.iconst 0, 0, 0), (.putfield 389, 1, 0), (.return_, 0, 0)] 16 [some (.ref 0)] [] M2 = zm_gf (zm_seq zT_X9_forgetAnswers (zL_w ks) V [(.iconst 0, 0, 0), (.putfield 389, 1, 0), (.return_, 0, 0)] 20) (zL_w ks) 9 9 [some (.ref 0)] [.ref 0] M2 := rfl
  rw [e5, zy_gf (zK_0 ks)]
  have e6 : zm_seq zT_X9_forgetAnswers (zL_w ks) V [(.iconst 0, 0, 0), (.putfield 389, 1, 0), (.return_, 0, 0)] 20 [some (.ref 0)] [zm_vA M2 0 zK_c0 (zm_ty 9 9) 9] M2 = zm_pf (zm_seq zT_X9_forgetAnswers (zL_w ks) V [(.return_, 0, 0)] 24) (zL_w ks) 1 0 [some (.ref 0)] [.int (Int32.ofInt 0), .ref 72] M2 := rfl
  rw [e6, zy_pf h72 rfl rfl h0]
  subst hM2 hM1
  rfl
theorem zi_bkN {ks : List Nat} {M : zm_I} {k : Nat} (hk : k < 3) (hi : zK_ix ks k = none) : zF_X9_back (zL_w ks) [.ref 0, .int (Int32.ofNat k)] M = some (some (.int (-6)), M) := by
  rw [zi_bk12 hk, hi]
  exact (zm_V_eq _ _ _).trans rfl
theorem zi_bkK {ks : List Nat} (hks : ks ∈ zK_all) {M : zm_I} (hI : zy_I ks M) {k i : Nat} (hk : k < 3) (hx : zK_ix ks k = some i) : ∃ N, zF_X9_back (zL_w ks) [.ref 0, .int (Int32.ofNat k)] M = some (some (.int 0), zi_fg (zm_mrg [(1, 10), (196 + 10 * i, 10)] M N)) ∧ zy_cpy 1 (196 + 10 * i) M N := by
  have hi := zK_old hks hk hx
  obtain ⟨N, h1, h2, h3⟩ := zy_copy (zy_G4 (zy_now hI.1) (hI.2.2.2.1 i hi))
  obtain ⟨-, -, hl, -, -, hz⟩ := zK_w hks
  obtain ⟨-, z2, -⟩ := hz i hi
  refine ⟨N, ?_, h1, h2, h3⟩
  rw [zi_bk12 hk, hx]
  dsimp only
  generalize hq : 196 + 10 * i = q at *
  have hr1 : ∃ rs, (zL_w ks)[1]? = some (.inl 0, rs) := ⟨_, zK_at (by rfl) (by decide)⟩
  obtain ⟨r1, hr1⟩ := hr1
  have z3 : zm_recv (zL_w ks) [.ref 1, .ref q] (some 0) = true := by
    show zm_isO (zL_w ks) 0 (.ref 1) = true
    simp only [zm_isO, hr1]
    rfl
  have z4 : zm_recv (zL_w ks) [.ref 0] (some 9) = true := by
    show zm_isO (zL_w ks) 9 (.ref 0) = true
    simp only [zm_isO, zK_0]
    rfl
  have e1 : zm_step zT_X9_back (zL_w ks) (zm_V zT_X9_back (zL_w ks)) (26, zi_ls k (some (.ref q)), [], M) = zm_gf (zm_seq zT_X9_back (zL_w ks) (zm_V zT_X9_back (zL_w ks)) [(.aload_n 2, 0, 0), (.invokevirtual 102, 0, 0)] 30) (zL_w ks) 9 1 (zi_ls k (some (.ref q))) [.ref 0] M := rfl
  have e2 : zm_seq zT_X9_back (zL_w ks) (zm_V zT_X9_back (zL_w ks)) [(.aload_n 2, 0, 0), (.invokevirtual 102, 0, 0)] 30 (zi_ls k (some (.ref q))) [zm_vA M 0 zK_c0 (zm_ty 9 1) 1] M = zm_app (2, some 0, false, [(0, 10), (1, 10)], zF_X0_copyFrom) (zL_w ks) [.ref 1, .ref q] M (fun v N => zm_V zT_X9_back (zL_w ks) (34, zi_ls k (some (.ref q)), v.toList ++ [], N)) := rfl
  rw [zm_V_eq, e1, zy_gf (zK_0 ks), e2, zm_app_l (wc := zW_BB) (ac := [.ref 0, .ref 10]) (bs := [(1, 10), (q, 10)]) z3 rfl rfl (zy_dis2 (by omega) (by omega)).2 z2 (zy_tr2 (by omega)).2 h1]
  generalize zm_mrg [(1, 10), (q, 10)] M N = M1
  have e3 : zm_step zT_X9_back (zL_w ks) (zm_V zT_X9_back (zL_w ks)) (34, zi_ls k (some (.ref q)), [], M1) = zm_app (1, some 9, true, [], zF_X9_forgetAnswers) (zL_w ks) [.ref 0] M1 (fun v N => zm_V zT_X9_back (zL_w ks) (38, zi_ls k (some (.ref q)), v.toList ++ [], N)) := rfl
  show zm_V zT_X9_back (zL_w ks) (34, zi_ls k (some (.ref q)), [], M1) = _
  rw [zm_V_eq, e3, zm_app_s z4 rfl zi_forget]
  exact (zm_V_eq _ _ _).trans rfl
/-! what holds behind them -/
theorem zy_Gw {G : zt_G} {M : zm_I} {n i : Nat} {x : Int32} (hG : zt_Gs G M) (h : (match G[n]? with
  | some g => match g[i % g.length]? with
    | some b => zt_le b.1 x.toInt && zt_le x.toInt b.2
    | none => true
  | none => true) = true) : zt_Gs G (zm_w M.1 n i x, M.2) := by
  intro n' g hg i' b hb
  show b.1 ≤ (zm_w M.1 n i x n' i').toInt ∧ (zm_w M.1 n i x n' i').toInt ≤ b.2
  unfold zm_w
  split
  · next he =>
    obtain ⟨rfl, rfl⟩ := he
    rw [hg] at h
    simp only [hb, Bool.and_eq_true, zt_le_ok] at h
    exact h
  · exact hG n' g hg i' b hb
theorem zy_Gx {G : zt_G} {M M' : zm_I} (h : ∀ n, n < G.length → M'.1 n = M.1 n) (hG : zt_Gs G M) : zt_Gs G M' := by
  intro n g hg i b hb
  rw [h n (List.getElem?_eq_some_iff.mp hg).1]
  exact hG n g hg i b hb
theorem zy_imI {ks : List Nat} (hks : ks ∈ zK_all) {i : Nat} (hi : i < ks.length) {M N : zm_I} (hI : zy_I ks M) (hc : zy_cpy (196 + 10 * i) 1 M N) : zy_I ks (zm_mrg [(196 + 10 * i, 10), (1, 10)] M N) := by
  obtain ⟨-, c2, c3⟩ := hc
  obtain ⟨h1, h2, h3, h4, h5⟩ := hI
  have hcp := zy_cp (a := 196 + 10 * i) (b := 1) (by omega) c3
  refine ⟨zy_Gs zo_l1 (fun n hn => ((hcp (0 + n)).2 (by omega)).1.trans (zy_s1 hn M).1.symm) h1, zy_Gs zo_l22 (fun n hn => ((hcp (165 + n)).2 (by omega)).1.trans (zy_s1 hn M).1.symm) h2, zy_P (((zy_s1 (by decide) _).1).trans ((((hcp (165 + 6)).2 (by omega)).1).trans (zy_s1 (by decide) M).1.symm)) (((zy_s1 (by decide) _).1).trans ((((hcp (165 + 7)).2 (by omega)).1).trans (zy_s1 (by decide) M).1.symm)) h3, fun q hq => ?_, fun a ha => ?_⟩
  · by_cases e : q = i
    · subst e
      intro n g hg j b hb
      have hn : n < 10 := by rw [← zy_g2l]; exact (List.getElem?_eq_some_iff.mp hg).1
      rw [(zy_s1 hn _).1, ((hcp n).1 hn).1]
      exact c2 n g (by rw [zy_g4, List.getElem?_append_left (by rw [zy_g2l]; exact hn)]; exact hg) j b hb
    · exact zy_Gs zo_l2 (fun n hn => ((hcp (196 + 10 * q + n)).2 (by omega)).1.trans (zy_s1 hn M).1.symm) (h4 q hq)
  · have hl := (zK_w hks).2.2.1
    have e := (hcp a).2 (by omega)
    rw [e.1, e.2]
    exact h5 a ha
theorem zy_newI {ks : List Nat} (hks : ks ∈ zK_all) {k : Nat} (hk : k < 3) (hx : zK_ix ks k = none) {M : zm_I} (hI : zy_I ks M) : zy_I (ks ++ [k]) M := by
  obtain ⟨h1, h2, h3, h4, h5⟩ := hI
  obtain ⟨g1, g2, g3, -⟩ := zK_new hks hk hx
  have hl := (zK_w hks).2.2.1
  have hl2 := (zK_w g1).2.2.1
  rw [List.length_append, List.length_singleton] at hl2
  refine ⟨h1, h2, h3, fun q hq => ?_, fun a ha => h5 a (by omega)⟩
  rw [List.length_append, List.length_singleton] at hq
  by_cases e : q < ks.length
  · exact h4 q e
  · exact zy_G0 (fun n hn i => (h5 (196 + 10 * q + n) (by omega)).1 i)
theorem zy_fgx (M : zm_I) {n : Nat} (h : n ≠ 21 ∧ n ≠ 68 ∧ n ≠ 72) : (zi_fg M).1 n = M.1 n ∧ (zi_fg M).2 n = M.2 n := by
  refine ⟨?_, rfl⟩
  funext i
  simp only [zi_fg, zm_w, h.1, h.2.1, h.2.2, false_and, if_false]
theorem zy_bkI {ks : List Nat} (hks : ks ∈ zK_all) {i : Nat} (hi : i < ks.length) {M N : zm_I} (hI : zy_I ks M) (hc : zy_cpy 1 (196 + 10 * i) M N) : zy_I ks (zi_fg (zm_mrg [(1, 10), (196 + 10 * i, 10)] M N)) := by
  obtain ⟨-, c2, c3⟩ := hc
  obtain ⟨h1, h2, h3, h4, h5⟩ := hI
  have hcp := zy_cp (a := 1) (b := 196 + 10 * i) (by omega) c3
  generalize zm_mrg [(1, 10), (196 + 10 * i, 10)] M N = M1 at hcp
  have hA : zt_Gs zo_g1 (zm_sub2 [(0, 164)] M1) := by
    intro n g hg j b hb
    have hn : n < 164 := Nat.lt_of_lt_of_le (List.getElem?_eq_some_iff.mp hg).1 zo_l1
    rw [(zy_s1 hn _).1, Nat.zero_add]
    by_cases e : 1 ≤ n ∧ n < 11
    · have e1 : n = 1 + (n - 1) := by omega
      have hq : n - 1 < 10 := by omega
      have hg2 : zo_g2[n - 1]? = some g := by rw [zy_g1, List.getElem?_take, if_pos hq, List.getElem?_drop, ← e1]; exact hg
      rw [e1, ((hcp (n - 1)).1 hq).1]
      exact c2 (n - 1) g (by rw [zy_g4, List.getElem?_append_left (by rw [zy_g2l]; exact hq)]; exact hg2) j b hb
    · have := h1 n g hg j b hb
      rw [(zy_s1 hn _).1, Nat.zero_add] at this
      rw [((hcp n).2 (by omega)).1]
      exact this
  have hB : zt_Gs zo_g1 (zi_fg (zm_sub2 [(0, 164)] M1)) := zy_Gw (zy_Gw (zy_Gw hA (by decide +kernel)) (by decide +kernel)) (by decide +kernel)
  refine ⟨zy_Gx (fun n hn => ?_) hB, zy_Gs zo_l22 (fun n hn => (zy_fgx M1 (by omega)).1.trans (((hcp (165 + n)).2 (by omega)).1.trans (zy_s1 hn M).1.symm)) h2, zy_P (((zy_s1 (by decide) _).1).trans ((zy_fgx M1 (by omega)).1.trans ((((hcp (165 + 6)).2 (by omega)).1).trans (zy_s1 (by decide) M).1.symm))) (((zy_s1 (by decide) _).1).trans ((zy_fgx M1 (by omega)).1.trans ((((hcp (165 + 7)).2 (by omega)).1).trans (zy_s1 (by decide) M).1.symm))) h3, fun q hq => zy_Gs zo_l2 (fun n hn => (zy_fgx M1 (by omega)).1.trans (((hcp (196 + 10 * q + n)).2 (by omega)).1.trans (zy_s1 hn M).1.symm)) (h4 q hq), fun a ha => ?_⟩
  · have hn : n < 164 := Nat.lt_of_lt_of_le hn zo_l1
    rw [(zy_s1 hn _).1, Nat.zero_add]
    funext j
    have e0 := (zy_s1 (a := 0) hn M1).1
    rw [Nat.zero_add] at e0
    simp only [zi_fg, zm_w, e0]
  · have hl := (zK_w hks).2.2.1
    have e := (hcp a).2 (by omega)
    have e2 := zy_fgx M1 (n := a) (by omega)
    rw [e2.1, e2.2, e.1, e.2]
    exact h5 a ha
/-- what the class's image does -/
def zy_img (ks : List Nat) (M : zm_I) (x v : Int32) (ks' : List Nat) (M1 : zm_I) : Prop := ((x < 0 ∨ ¬ x < 3) ∧ v = -2 ∧ ks' = ks ∧ M1 = M) ∨ ∃ (k i : Nat) (N : zm_I), k < 3 ∧ x = Int32.ofNat k ∧ v = 0 ∧ ks' ∈ zK_all ∧ zK_ix ks' k = some i ∧ ((zK_ix ks k = some i ∧ ks' = ks) ∨ (zK_ix ks k = none ∧ ks' = ks ++ [k])) ∧ M1 = zm_mrg [(196 + 10 * i, 10), (1, 10)] M N ∧ zy_cpy (196 + 10 * i) 1 M N
/-- what the class's back does -/
def zy_bck (ks : List Nat) (M : zm_I) (x v : Int32) (M1 : zm_I) : Prop := ((x < 0 ∨ ¬ x < 3) ∧ v = -2 ∧ M1 = M) ∨ (∃ k : Nat, k < 3 ∧ x = Int32.ofNat k ∧ zK_ix ks k = none ∧ v = -6 ∧ M1 = M) ∨ ∃ (k i : Nat) (N : zm_I), k < 3 ∧ x = Int32.ofNat k ∧ zK_ix ks k = some i ∧ v = 0 ∧ M1 = zi_fg (zm_mrg [(1, 10), (196 + 10 * i, 10)] M N) ∧ zy_cpy 1 (196 + 10 * i) M N
theorem zy_back {ks : List Nat} (hks : ks ∈ zK_all) {M : zm_I} (hI : zy_I ks M) (x : Int32) : ∃ (v : Int32) (M1 : zm_I), zF_X9_back (zL_w ks) [.ref 0, .int x] M = some (some (.int v), M1) ∧ zy_I ks M1 ∧ zy_bck ks M x v M1 := by
  by_cases hr : x < 0 ∨ ¬ x < 3
  · exact ⟨-2, M, zi_bkR hr, hI, Or.inl ⟨hr, rfl, rfl⟩⟩
  · obtain ⟨k, hk, rfl⟩ := zi_three (fun q => hr (Or.inl q)) (Decidable.not_not.mp (fun q => hr (Or.inr q)))
    cases hx : zK_ix ks k with
    | none => exact ⟨-6, M, zi_bkN hk hx, hI, Or.inr (Or.inl ⟨k, hk, rfl, hx, rfl, rfl⟩)⟩
    | some i =>
      obtain ⟨N, h1, h2⟩ := zi_bkK hks hI hk hx
      exact ⟨0, _, h1, zy_bkI hks (zK_old hks hk hx) hI h2, Or.inr (Or.inr ⟨k, i, N, hk, rfl, hx, rfl, rfl, h2⟩)⟩
/-! the fresh objects -/
def zc_I : Nat → Nat → Int32 := (zn_wr [(51, 2, 0), (51, 3, -1), (54, 0, -1), (56, 0, -1), (58, 0, -1), (60, 0, -1)] (fun _ _ => 0, fun _ _ => 0)).1
def zc_M : Nat → Nat → Int32 := (zn_wr [(0, 15, -1), (1, 0, -1), (1, 1, -1), (1, 2, -1), (1, 3, -1)] (fun _ _ => 0, fun _ _ => 0)).1
theorem zn_wr_1 : ∀ (L : zn_W) (M : zm_I), (zn_wr L M).1 = L.foldl (fun I q => zm_w I q.1 q.2.1 q.2.2) M.1
  | [], _ => rfl
  | q :: L, M => zn_wr_1 L _
theorem zl_WX {n : Nat} (hn : n < 164) (i : Nat) : (zn_wr zL_WC (fun _ _ => 0, fun _ _ => 0)).1 n i = zc_I n i := by
  have h1 : n ≠ 165 := by omega
  have h2 : n ≠ 166 := by omega
  unfold zc_I zL_WC
  rw [zn_wr_1, zn_wr_1]
  simp only [List.foldl, zm_w, h1, h2, false_and, if_false]
theorem zl_WM {n : Nat} (hn : n < 31) (i : Nat) : (zn_wr zL_WC (fun _ _ => 0, fun _ _ => 0)).1 (165 + n) i = zc_M n i := by
  have e0 : (165 + n = 165) = (n = 0) := by apply propext; omega
  have e1 : (165 + n = 166) = (n = 1) := by apply propext; omega
  have h1 : ¬ 165 + n = 51 := by omega
  have h2 : ¬ 165 + n = 54 := by omega
  have h3 : ¬ 165 + n = 56 := by omega
  have h4 : ¬ 165 + n = 58 := by omega
  have h5 : ¬ 165 + n = 60 := by omega
  unfold zc_M zL_WC
  rw [zn_wr_1, zn_wr_1]
  simp only [List.foldl, zm_w, e0, e1, h1, h2, h3, h4, h5, false_and, if_false]
theorem zl_fX {n : Nat} (hn : n < 164) : zL_M.1 n = zc_I n := by
  funext i
  rw [zL_M1 (by omega), zl_WX hn]
theorem zl_fM {n : Nat} (hn : n < 31) : zL_M.1 (165 + n) = zc_M n := by
  funext i
  rw [zL_M1 (by omega), zl_WM hn]
theorem zl_G0 {G : zt_G} (h : G.all (fun g => g.all (fun b => zt_le b.1 (.ofNat 0) && zt_le (.ofNat 0) b.2)) = true) : zt_Gs G (fun _ _ => 0, fun _ _ => 0) := by
  intro n g hg i b hb
  have := List.all_eq_true.mp (List.all_eq_true.mp h g (List.mem_of_getElem? hg)) b (List.mem_of_getElem? hb)
  simp only [Bool.and_eq_true, zt_le_ok] at this
  exact this
theorem zl_GX : zt_Gs zo_g1 (zc_I, fun _ _ => 0) := zy_Gw (zy_Gw (zy_Gw (zy_Gw (zy_Gw (zy_Gw (zl_G0 (by decide +kernel)) (by decide +kernel)) (by decide +kernel)) (by decide +kernel)) (by decide +kernel)) (by decide +kernel)) (by decide +kernel)
theorem zl_GM : zt_Gs zo_g22 (zc_M, fun _ _ => 0) := zy_Gw (zy_Gw (zy_Gw (zy_Gw (zy_Gw (zl_G0 (by decide +kernel)) (by decide +kernel)) (by decide +kernel)) (by decide +kernel)) (by decide +kernel)) (by decide +kernel)
theorem zl_z {n : Nat} (h : n ≠ 0 ∧ n ≠ 1) (i : Nat) : zc_M n i = 0 := by
  unfold zc_M
  rw [zn_wr_1]
  simp only [List.foldl, zm_w, h.1, h.2, false_and, if_false]
theorem zl_start : zy_I [] zL_M := by
  refine ⟨zy_Gs zo_l1 (fun n hn => by rw [Nat.zero_add]; exact zl_fX hn) zl_GX, zy_Gs zo_l22 (fun n hn => zl_fM hn) zl_GM, ?_, fun i hi => absurd hi (Nat.not_lt_zero i), ?_⟩
  · intro q hq
    refine Or.inl ?_
    unfold zq_E
    rw [(zy_s1 (by decide) _).1, (zy_s1 (by decide) _).1, zl_fM (by decide), zl_fM (by decide), zl_z (by decide), zl_z (by decide), zl_z (by decide)]
    exact ⟨by decide, by decide, by decide⟩
  · rw [zL_w_nil]
    intro a ha
    rw [zi_len] at ha
    have hp : zL_p.length = 196 := by decide +kernel
    have e : zL_p.getD a 0 = 0 := by
      rw [List.getD_eq_getElem?_getD, List.getElem?_eq_none (by omega)]
      rfl
    refine ⟨fun b => ?_, fun b => zL_M2 a b⟩
    show (zn_wr zL_W (fun _ _ => 0, fun _ _ => 0)).1 (zL_p.getD a 0) b = 0
    rw [e, zn_wr_1]
    unfold zL_W
    simp [List.foldl, zm_w]
