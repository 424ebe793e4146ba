/-! 24e.two, 24f.next, 24g.seen, 24h.marks, 24i.eqy, 24j.rows -/
section
/-! CONTRACTS BY HAND: turn, isWord -/
theorem zh_gsw {G : zt_G} {M : zm_I} {I' : Nat → Nat → Int32} {J' : Nat → Nat → Int64} (hG : zt_Gs G M) (n0 : Nat) (b : Int × Int) (hn : G[n0]? = some [b]) (h1 : ∀ n i, n ≠ n0 → I' n i = M.1 n i) (h2 : ∀ i, b.1 ≤ (I' n0 i).toInt ∧ (I' n0 i).toInt ≤ b.2) : zt_Gs G (I', J') := by
  intro n g hg i b' hb
  by_cases e : n = n0
  · subst e
    rw [hn] at hg
    cases hg
    simp [Nat.mod_one] at hb
    subst hb
    exact h2 i
  · show _ ≤ (I' n i).toInt ∧ (I' n i).toInt ≤ _
    rw [h1 n i e]
    exact hG n g hg i b' hb
theorem zh_w1 (I : Nat → Nat → Int32) (n i : Nat) (x : Int32) : zm_w I n i x n i = x := by unfold zm_w; rw [if_pos ⟨rfl, rfl⟩]
theorem zh_w2 (I : Nat → Nat → Int32) {n i a b : Nat} (x : Int32) (h : ¬ (a = n ∧ b = i)) : zm_w I n i x a b = I a b := by unfold zm_w; rw [if_neg h]
theorem zh_m1 : (-1 : Int32).toInt = -1 := by decide
theorem zh_p1 : (1 : Int32).toInt = 1 := by decide
theorem zh_z0 : (0 : Int32).toInt = 0 := by decide
theorem zh_lt {a b : Int32} : a < b ↔ a.toInt < b.toInt := Int32.lt_iff_toInt_lt
theorem zh_le {a b : Int32} : a ≤ b ↔ a.toInt ≤ b.toInt := Int32.le_iff_toInt_le
theorem zh_ww (I : Nat → Nat → Int32) (n i : Nat) (x y : Int32) : zm_w (zm_w I n i x) n i y = zm_w I n i y := by
  funext a b
  by_cases h : a = n ∧ b = i
  · rw [h.1, h.2, zh_w1, zh_w1]
  · rw [zh_w2 _ _ h, zh_w2 _ _ h, zh_w2 _ _ h]
def zh_tuP (I0 I : Nat → Nat → Int32) : Prop := (∀ n i, ¬ (n = 8 ∧ i ≤ 4) → I n i = I0 n i) ∧ ∀ i, 0 ≤ (I 8 i).toInt ∧ (I 8 i).toInt ≤ 5
theorem zh_tuP_w {I0 I : Nat → Nat → Int32} (h : zh_tuP I0 I) {c : Nat} (hc : c ≤ 4) {x : Int32} (h0 : 0 ≤ x.toInt) (h5 : x.toInt ≤ 5) : zh_tuP I0 (zm_w I 8 c x) := by
  refine ⟨fun n i hn => ?_, fun i => ?_⟩
  · rw [zh_w2 I x (fun e => hn ⟨e.1, by omega⟩)]
    exact h.1 n i hn
  · by_cases e : i = c
    · subst e
      rw [zh_w1]
      exact ⟨h0, h5⟩
    · rw [zh_w2 I x (fun q => e q.2)]
      exact h.2 i
theorem zh_turn32 {I0 : Nat → Nat → Int32} (J : Nat → Nat → Int64) (ho : ∀ i, 0 ≤ (I0 2 i).toInt ∧ (I0 2 i).toInt ≤ 4) (hse : 0 ≤ (I0 4 5).toInt ∧ (I0 4 5).toInt ≤ 6) (l2 : Int32) : ∀ (n : Nat) (I : Nat → Nat → Int32) (l3 : Int32) (l4 : Option Value), zh_tuP I0 I → -1 ≤ l3.toInt → l3.toInt ≤ 4 → l3.toInt + 1 < n → ∃ x I', zv_X6_turn_LB_32 I J l2 l3 l4 = some (some (.int x), (I', J)) ∧ (x = 0 ∨ x = 1) ∧ zh_tuP I0 I' := by
  intro n
  induction n with
  | zero => intro I l3 l4 hI h1 h2 h3; omega
  | succ n ih =>
    intro I l3 l4 hI h1 h2 h3
    rw [zq_X6_turn_LB_32]
    split
    · exact ⟨0, I, zq_X6_turn_LB_85 I J l2 l3 l4, Or.inl rfl, hI⟩
    · next hn =>
      rw [zh_lt, zh_z0] at hn
      have ec : I 2 (Int32.toNatClampNeg l3) = I0 2 (Int32.toNatClampNeg l3) := hI.1 2 _ (by omega)
      have hc := ho (Int32.toNatClampNeg l3)
      rw [← ec] at hc
      rw [zq_X6_turn_LB_36, if_neg (zh_in (n := 5) (by omega) (by omega))]
      generalize I 2 (Int32.toNatClampNeg l3) = c at hc ⊢
      have hcin := zh_in (x := c) (n := 5) (by omega) (by omega)
      have hcn : c.toNatClampNeg ≤ 4 := by have := zs_clamp (i := c) (by omega); omega
      rw [if_neg hcin, if_neg hcin, if_neg hcin, zh_w1, zh_w2 I _ (by omega : ¬ (4 = 8 ∧ 5 = c.toNatClampNeg))]
      have hs := hI.2 c.toNatClampNeg
      have e1 : (I 8 c.toNatClampNeg + 1).toInt = (I 8 c.toNatClampNeg).toInt + 1 := by rw [zh_add (by rw [zh_p1]; omega) (by rw [zh_p1]; omega), zh_p1]
      have e2 : I 4 5 = I0 4 5 := hI.1 4 5 (by omega)
      split
      · next hle =>
        rw [zq_X6_turn_LB_71, if_neg hcin, zh_ww]
        have e3 : (l3 + (-1)).toInt = l3.toInt - 1 := by rw [zh_add (by rw [zh_m1]; omega) (by rw [zh_m1]; omega), zh_m1]; omega
        exact ih _ _ _ (zh_tuP_w hI hcn (by rw [zh_z0]; omega) (by rw [zh_z0]; omega)) (by omega) (by omega) (by omega)
      · next hle =>
        rw [zh_le, e1, e2] at hle
        exact ⟨1, _, zq_X6_turn_LB_69 _ J l2 l3 c, Or.inr rfl, zh_tuP_w hI hcn (by omega) (by omega)⟩
theorem zh_turn7 {I0 : Nat → Nat → Int32} (J : Nat → Nat → Int64) (ho : ∀ i, 0 ≤ (I0 2 i).toInt ∧ (I0 2 i).toInt ≤ 4) (hse : 0 ≤ (I0 4 5).toInt ∧ (I0 4 5).toInt ≤ 6) (l2 : Int32) (h2 : -1 ≤ l2.toInt) (h24 : l2.toInt ≤ 4) : ∀ (n : Nat) (I : Nat → Nat → Int32) (l3 : Int32), zh_tuP I0 I → -1 ≤ l3.toInt → l3.toInt ≤ 4 → l3.toInt + 1 < n → ∃ x I', zv_X6_turn_LB_7 I J l2 l3 = some (some (.int x), (I', J)) ∧ (x = 0 ∨ x = 1) ∧ zh_tuP I0 I' := by
  intro n
  induction n with
  | zero => intro I l3 hI h1 h3 h4; omega
  | succ n ih =>
    intro I l3 hI h1 h3 h4
    rw [zq_X6_turn_LB_7]
    split
    · rw [zq_X6_turn_LB_30]
      exact zh_turn32 J ho hse l2 10 I l2 none hI h2 h24 (by omega)
    · next hn =>
      rw [zh_le] at hn
      have ec : I 2 (Int32.toNatClampNeg l3) = I0 2 (Int32.toNatClampNeg l3) := hI.1 2 _ (by omega)
      have hc := ho (Int32.toNatClampNeg l3)
      rw [← ec] at hc
      rw [zq_X6_turn_LB_12, if_neg (zh_in (n := 5) (by omega) (by omega))]
      generalize I 2 (Int32.toNatClampNeg l3) = c at hc ⊢
      have hcin := zh_in (x := c) (n := 5) (by omega) (by omega)
      have hcn : c.toNatClampNeg ≤ 4 := by have := zs_clamp (i := c) (by omega); omega
      rw [if_neg hcin]
      have e3 : (l3 + (-1)).toInt = l3.toInt - 1 := by rw [zh_add (by rw [zh_m1]; omega) (by rw [zh_m1]; omega), zh_m1]; omega
      exact ih _ _ (zh_tuP_w hI hcn (by rw [zh_z0]; omega) (by rw [zh_z0]; omega)) (by omega) (by omega) (by omega)
theorem zh_turn (v : Nat) (hd : Nat × Option Nat × Bool × List (Nat × Nat)) : zt_Con zo_Om (zo_Rel v) (hd, (10, ([zjr 0, zjr 4, zj (.negSucc 0) (.ofNat 4)], [], []), [(8, 0, 4)], zh_bool [])) zF_X6_turn :=
  zh_con (w0 := zW_LB) (G := zo_g10) rfl (by decide +kernel) (fun as M hs _ _ hG => by
    obtain ⟨vs, rfl, h1⟩ := zh_ref hs
    obtain ⟨vs, rfl, h2⟩ := zh_ref h1
    obtain ⟨x, vs, rfl, h3, h4, h5⟩ := zh_int h2
    obtain rfl := zh_nil h5
    have h3 : (-1 : Int) ≤ x.toInt := h3
    have h4 : x.toInt ≤ 4 := h4
    have ho : ∀ i, 0 ≤ (M.1 2 i).toInt ∧ (M.1 2 i).toInt ≤ 4 := fun i => zh_ga hG (n := 2) (b := (.ofNat 0, .ofNat 4)) rfl i
    have h8 : ∀ i, 0 ≤ (M.1 8 i).toInt ∧ (M.1 8 i).toInt ≤ 5 := fun i => zh_ga hG (n := 8) (b := (.ofNat 0, .ofNat 5)) rfl i
    have hse : 0 ≤ (M.1 4 5).toInt ∧ (M.1 4 5).toInt ≤ 6 := hG 4 _ rfl 5 (.ofNat 0, .ofNat 6) rfl
    have hca : 0 ≤ (M.1 4 6).toInt ∧ (M.1 4 6).toInt ≤ 5 := hG 4 _ rfl 6 (.ofNat 0, .ofNat 5) rfl
    have e1 : (M.1 4 6 - 1).toInt = (M.1 4 6).toInt - 1 := by rw [zh_sub (by rw [zh_p1]; omega) (by rw [zh_p1]; omega), zh_p1]
    obtain ⟨y, I', q1, q2, q3⟩ := zh_turn7 M.2 ho hse x h3 h4 10 M.1 (M.1 4 6 - 1) ⟨fun _ _ _ => rfl, h8⟩ (by omega) (by omega) (by omega)
    refine ⟨_, (I', M.2), (zf_X6_turn_LB M.1 M.2 x).trans ((zq_X6_turn_LB_0 M.1 M.2 x).trans q1), zh_gsw hG 8 (.ofNat 0, .ofNat 5) rfl (fun n i hn => q3.1 n i (fun e => hn e.1)) q3.2, ?_, zh_bools q2 zh_no⟩
    intro n i hh
    exact ⟨q3.1 n i (fun e => by
      have : zt_hit [(8, 0, 4)] n i = true := by rw [e.1]; simp [zt_hit]; omega
      rw [this] at hh
      cases hh), rfl⟩)
/-- a stretch's equation -/
theorem zh_st {T : zm_T} {wl : zm_L} {S : zm_S} {f : (zm_S → zm_R) → zm_R} (h : ∀ k, zm_step T wl k S = f k) : zm_V T wl S = f (zm_V T wl) := (zm_V_eq T wl S).trans (h _)
section ZHW
variable (I : Nat → Nat → Int32) (J : Nat → Nat → Int64) (k : Nat) (o : Option Value)
def zh_wl (k : Nat) (o : Option Value) : List (Option Value) := [some (.ref 0), some (.retAddr k), o]
noncomputable def zh_wV (pc : Nat) (ls : List (Option Value)) (st : List Value) (M : zm_I) : zm_R := zm_V zT_X8_isWord zW_TB (pc, ls, st, M)
theorem zh_w_0 : zh_wV 0 (zh_wl k o) [] (I, J) = if I 0 4 = 1 then zh_wV 8 (zh_wl k o) [] (I, J) else zh_wV 24 (zh_wl k o) [] (I, J) := zh_st (T := zT_X8_isWord) (wl := zW_TB) (S := (0, (zh_wl k o), [], (I, J))) (f := fun q => if I 0 4 = 1 then q (8, zh_wl k o, [], (I, J)) else q (24, zh_wl k o, [], (I, J))) (fun _ => rfl)
theorem zh_w_8 : zh_wV 8 (zh_wl k o) [] (I, J) = zm_app (1, some 99, true, [], zF_len) zW_TB [Value.retAddr k] (I, J) (fun (v : Option Value) (N : zm_I) => zh_wV 21 (zh_wl k o) (v.toList ++ [Value.int (I 0 6 - I 0 5)]) N) := zh_st (T := zT_X8_isWord) (wl := zW_TB) (S := (8, (zh_wl k o), [], (I, J))) (f := fun q => zm_app (1, some 99, true, [], zF_len) zW_TB [Value.retAddr k] (I, J) (fun (v : Option Value) (N : zm_I) => q (21, zh_wl k o, v.toList ++ [Value.int (I 0 6 - I 0 5)], N))) (fun _ => rfl)
theorem zh_w_21 (a b : Int32) : zh_wV 21 (zh_wl k o) [.int b, .int a] (I, J) = if a = b then zh_wV 26 (zh_wl k o) [] (I, J) else zh_wV 24 (zh_wl k o) [] (I, J) := zh_st (T := zT_X8_isWord) (wl := zW_TB) (S := (21, (zh_wl k o), [.int b, .int a], (I, J))) (f := fun q => if a = b then q (26, zh_wl k o, [], (I, J)) else q (24, zh_wl k o, [], (I, J))) (fun _ => rfl)
theorem zh_w_24 : zh_wV 24 (zh_wl k o) [] (I, J) = some (some (.int 0), (I, J)) := zh_st (T := zT_X8_isWord) (wl := zW_TB) (S := (24, (zh_wl k o), [], (I, J))) (f := fun _ => some (some (.int 0), (I, J))) (fun _ => rfl)
theorem zh_w_26 : zh_wV 26 (zh_wl k o) [] (I, J) = zh_wV 28 (zh_wl k (some (.int 0))) [] (I, J) := zh_st (T := zT_X8_isWord) (wl := zW_TB) (S := (26, (zh_wl k o), [], (I, J))) (f := fun q => q (28, zh_wl k (some (.int 0)), [], (I, J))) (fun _ => rfl)
theorem zh_w_28 (i : Int32) : zh_wV 28 (zh_wl k (some (.int i))) [] (I, J) = zm_app (1, some 99, true, [], zF_len) zW_TB [Value.retAddr k] (I, J) (fun (v : Option Value) (N : zm_I) => zh_wV 33 (zh_wl k (some (.int i))) (v.toList ++ [Value.int i]) N) := zh_st (T := zT_X8_isWord) (wl := zW_TB) (S := (28, (zh_wl k (some (.int i))), [], (I, J))) (f := fun q => zm_app (1, some 99, true, [], zF_len) zW_TB [Value.retAddr k] (I, J) (fun (v : Option Value) (N : zm_I) => q (33, zh_wl k (some (.int i)), v.toList ++ [Value.int i], N))) (fun _ => rfl)
theorem zh_w_33 (a b : Int32) : zh_wV 33 (zh_wl k o) [.int b, .int a] (I, J) = if b ≤ a then zh_wV 63 (zh_wl k o) [] (I, J) else zh_wV 36 (zh_wl k o) [] (I, J) := zh_st (T := zT_X8_isWord) (wl := zW_TB) (S := (33, (zh_wl k o), [.int b, .int a], (I, J))) (f := fun q => if b ≤ a then q (63, zh_wl k o, [], (I, J)) else q (36, zh_wl k o, [], (I, J))) (fun _ => rfl)
theorem zh_w_36 (i : Int32) : zh_wV 36 (zh_wl k (some (.int i))) [] (I, J) = if (I 0 5 + i) < 0 ∨ 800 ≤ (I 0 5 + i).toNatClampNeg then none else zh_wV 47 (zh_wl k (some (.int i))) [.int (I 1 (I 0 5 + i).toNatClampNeg)] (I, J) := zh_st (T := zT_X8_isWord) (wl := zW_TB) (S := (36, zh_wl k (some (.int i)), [], (I, J))) (f := fun q => if (I 0 5 + i) < 0 ∨ 800 ≤ (I 0 5 + i).toNatClampNeg then none else q (47, zh_wl k (some (.int i)), [.int (I 1 (I 0 5 + i).toNatClampNeg)], (I, J))) (fun _ => rfl)
theorem zh_w_47 (i x : Int32) : zh_wV 47 (zh_wl k (some (.int i))) [.int x] (I, J) = zm_app (2, some 99, true, [], zF_cha) zW_TB [Value.retAddr k, Value.int i] (I, J) (fun (v : Option Value) (N : zm_I) => zh_wV 52 (zh_wl k (some (.int i))) (v.toList ++ [Value.int x]) N) := zh_st (T := zT_X8_isWord) (wl := zW_TB) (S := (47, zh_wl k (some (.int i)), [.int x], (I, J))) (f := fun q => zm_app (2, some 99, true, [], zF_cha) zW_TB [Value.retAddr k, Value.int i] (I, J) (fun (v : Option Value) (N : zm_I) => q (52, zh_wl k (some (.int i)), v.toList ++ [Value.int x], N))) (fun _ => rfl)
theorem zh_w_52 (a b : Int32) : zh_wV 52 (zh_wl k o) [.int b, .int a] (I, J) = if a = b then zh_wV 57 (zh_wl k o) [] (I, J) else zh_wV 55 (zh_wl k o) [] (I, J) := zh_st (T := zT_X8_isWord) (wl := zW_TB) (S := (52, (zh_wl k o), [.int b, .int a], (I, J))) (f := fun q => if a = b then q (57, zh_wl k o, [], (I, J)) else q (55, zh_wl k o, [], (I, J))) (fun _ => rfl)
theorem zh_w_55 : zh_wV 55 (zh_wl k o) [] (I, J) = some (some (.int 0), (I, J)) := zh_st (T := zT_X8_isWord) (wl := zW_TB) (S := (55, (zh_wl k o), [], (I, J))) (f := fun _ => some (some (.int 0), (I, J))) (fun _ => rfl)
theorem zh_w_57 (i : Int32) : zh_wV 57 (zh_wl k (some (.int i))) [] (I, J) = zh_wV 28 (zh_wl k (some (.int (i + 1)))) [] (I, J) := zh_st (T := zT_X8_isWord) (wl := zW_TB) (S := (57, (zh_wl k (some (.int i))), [], (I, J))) (f := fun q => q (28, zh_wl k (some (.int (i + 1))), [], (I, J))) (fun _ => rfl)
theorem zh_w_63 : zh_wV 63 (zh_wl k o) [] (I, J) = some (some (.int 1), (I, J)) := zh_st (T := zT_X8_isWord) (wl := zW_TB) (S := (63, (zh_wl k o), [], (I, J))) (f := fun _ => some (some (.int 1), (I, J))) (fun _ => rfl)
variable (hk : k < 13)
theorem zh_recS : k < 13 → zm_recv zW_TB [.retAddr k] (some 99) = true := fun hk => by
  show (Nat.beq 99 99 && Nat.ble (k + 1) 13) = true
  have hk2 : Nat.ble (k + 1) 13 = true := Nat.ble_eq_true_of_le hk
  rw [hk2]; rfl
theorem zh_len1 (hk : k < 13) : zF_len zW_TB [.retAddr k] (I, J) = some (some (.int (Int32.ofNat (zm_slen.getD k 0))), (I, J)) := by
  show (match Nat.ble (k + 1) 13 with
    | true => some (some (Value.int (Int32.ofNat (zm_slen.getD k 0))), (I, J))
    | false => none) = _
  have hk2 : Nat.ble (k + 1) 13 = true := Nat.ble_eq_true_of_le hk
  rw [hk2]
theorem zh_cha1 (hk : k < 13) (i : Int32) (h : ¬ (i < 0 ∨ zm_slen.getD k 0 ≤ i.toNatClampNeg)) : zF_cha zW_TB [.retAddr k, .int i] (I, J) = some (some (.int ((zm_sbyt.getD k []).getD i.toNatClampNeg 0)), (I, J)) := by
  show (match Nat.ble (k + 1) 13 with
    | true => if i < 0 ∨ zm_slen.getD k 0 ≤ i.toNatClampNeg then none else some (some (Value.int ((zm_sbyt.getD k []).getD i.toNatClampNeg 0)), (I, J))
    | false => none) = _
  have hk2 : Nat.ble (k + 1) 13 = true := Nat.ble_eq_true_of_le hk
  rw [hk2]
  dsimp only
  rw [if_neg h]
theorem zh_word28 (hk : k < 13) (h5 : 0 ≤ (I 0 5).toInt) (h6 : (I 0 5).toInt + (zm_slen.getD k 0 : Nat) ≤ 800) : ∀ (d i : Nat), i + d = zm_slen.getD k 0 → ∃ x, zh_wV 28 (zh_wl k (some (.int (Int32.ofNat i)))) [] (I, J) = some (some (.int x), (I, J)) ∧ (x = 0 ∨ x = 1) := by
  have hL := zs_small k hk
  intro d
  induction d with
  | zero =>
    intro i hi
    refine ⟨1, ?_, Or.inr rfl⟩
    rw [zh_w_28, zm_app_s (zh_recS k hk) rfl (zh_len1 I J k hk)]
    show zh_wV 33 _ [.int _, .int _] _ = _
    rw [zh_w_33, if_pos (by rw [zh_le, zh_of (by omega), zh_of (by omega)]; omega), zh_w_63]
  | succ d ih =>
    intro i hi
    rw [zh_w_28, zm_app_s (zh_recS k hk) rfl (zh_len1 I J k hk)]
    have eo : (Int32.ofNat i).toInt = i := zh_of (by omega)
    have ec : (Int32.ofNat i).toNatClampNeg = i := by have := zs_clamp (i := Int32.ofNat i) (by omega); omega
    have e5 : (I 0 5 + Int32.ofNat i).toInt = (I 0 5).toInt + i := by rw [zh_add (by omega) (by omega), eo]
    have e1 : Int32.ofNat i + 1 = Int32.ofNat (i + 1) := by
      apply Int32.toInt_inj.mp
      rw [zh_add (by rw [zh_p1]; omega) (by rw [zh_p1]; omega), zh_of (by omega), zh_of (by omega), zh_p1]
      omega
    obtain ⟨x, hx, hx2⟩ := ih (i + 1) (by omega)
    have goal : ∃ x, zh_wV 33 (zh_wl k (some (.int (Int32.ofNat i)))) [.int (Int32.ofNat (zm_slen.getD k 0)), .int (Int32.ofNat i)] (I, J) = some (some (.int x), (I, J)) ∧ (x = 0 ∨ x = 1) := by
      rw [zh_w_33, if_neg (by rw [zh_le, zh_of (by omega), eo]; omega), zh_w_36, if_neg (zh_in (by omega) (by omega)), zh_w_47]
      have hci : ¬ (Int32.ofNat i < 0 ∨ zm_slen.getD k 0 ≤ (Int32.ofNat i).toNatClampNeg) := by
        rw [ec, zh_lt, eo, zh_z0]
        omega
      rw [zm_app_s (show zm_recv zW_TB [.retAddr k, .int (Int32.ofNat i)] (some 99) = true from zh_recS k hk) rfl (zh_cha1 I J k hk _ hci)]
      have goal2 : ∀ a b : Int32, ∃ x, zh_wV 52 (zh_wl k (some (.int (Int32.ofNat i)))) [.int b, .int a] (I, J) = some (some (.int x), (I, J)) ∧ (x = 0 ∨ x = 1) := by
        intro a b
        rw [zh_w_52]
        split
        · rw [zh_w_57, e1]
          exact ⟨x, hx, hx2⟩
        · exact ⟨0, zh_w_55 I J k _, Or.inl rfl⟩
      exact goal2 _ _
    exact goal
theorem zh_wordV (hk : k < 13) (h5 : 0 ≤ (I 0 5).toInt) (h5' : (I 0 5).toInt ≤ 800) (h6 : 0 ≤ (I 0 6).toInt) (h6' : (I 0 6).toInt ≤ 800) : ∃ x, zh_wV 0 (zh_wl k none) [] (I, J) = some (some (.int x), (I, J)) ∧ (x = 0 ∨ x = 1) := by
  have hL := zs_small k hk
  rw [zh_w_0]
  split
  · rw [zh_w_8, zm_app_s (zh_recS k hk) rfl (zh_len1 I J k hk)]
    have goal : ∃ x, zh_wV 21 (zh_wl k none) [.int (Int32.ofNat (zm_slen.getD k 0)), .int (I 0 6 - I 0 5)] (I, J) = some (some (.int x), (I, J)) ∧ (x = 0 ∨ x = 1) := by
      rw [zh_w_21]
      split
      · next he =>
        have e := congrArg Int32.toInt he
        rw [zh_sub (by omega) (by omega), zh_of (by omega)] at e
        rw [zh_w_26]
        exact zh_word28 I J k hk h5 (by omega) _ 0 (Nat.zero_add _)
      · exact ⟨0, zh_w_24 I J k none, Or.inl rfl⟩
    exact goal
  · exact ⟨0, zh_w_24 I J k none, Or.inl rfl⟩
end ZHW
theorem zh_isWord (k : Nat) (hk : k < 13) (v : Nat) (hd : Nat × Option Nat × Bool × List (Nat × Nat)) : zt_Con zo_Om (zo_Rel v) (hd, (3, ([zjr 0, (4, .ofNat k, .ofNat 0, 0, [])], [], []), [], zh_bool [])) zF_X8_isWord :=
  zh_pure (w0 := zW_TB) (G := zo_g3) rfl (by decide +kernel) (fun as M hs _ _ hG => by
    obtain ⟨vs, rfl, h1⟩ := zh_ref hs
    obtain ⟨vs, rfl, h2⟩ := zh_txt h1
    obtain rfl := zh_nil h2
    have h5 : 0 ≤ (M.1 0 5).toInt ∧ (M.1 0 5).toInt ≤ 800 := hG 0 _ rfl 5 (.ofNat 0, .ofNat 800) rfl
    have h6 : 0 ≤ (M.1 0 6).toInt ∧ (M.1 0 6).toInt ≤ 800 := hG 0 _ rfl 6 (.ofNat 0, .ofNat 800) rfl
    obtain ⟨x, q1, q2⟩ := zh_wordV M.1 M.2 k hk h5.1 h5.2 h6.1 h6.2
    exact ⟨_, q1, zh_bools q2 zh_no⟩)
end
section
/-! CONTRACTS BY HAND: next -/
def zh_nP (I0 : Nat → Nat → Int32) (J0 : Nat → Nat → Int64) (a : Int) (I : Nat → Nat → Int32) (J : Nat → Nat → Int64) : Prop := (∀ n i, ¬ (n = 0 ∧ 7 ≤ i ∧ i ≤ 11) → I n i = I0 n i ∧ J n i = J0 n i) ∧ I 0 11 = I0 0 11 ∧ (a ≤ (I 0 7).toInt ∧ (I 0 7).toInt ≤ (I0 0 6).toInt) ∧ (0 ≤ (I 0 8).toInt ∧ (I 0 8).toInt ≤ 4) ∧ (0 ≤ (I 0 9).toInt ∧ (I 0 9).toInt ≤ 800)
section ZHN
variable {I0 I : Nat → Nat → Int32} {J0 J : Nat → Nat → Int64} {a : Int}
theorem zh_nP_f (h : zh_nP I0 J0 a I J) {j : Nat} (hj : 7 ≤ j ∧ j ≤ 10) (x : Int32) : ∀ n i, ¬ (n = 0 ∧ 7 ≤ i ∧ i ≤ 11) → zm_w I 0 j x n i = I0 n i ∧ J n i = J0 n i := fun n i hn => by
  rw [zh_w2 I x (fun e => hn ⟨e.1, by omega⟩)]
  exact h.1 n i hn
theorem zh_nP_7 (h : zh_nP I0 J0 a I J) (hl : (I 0 7).toInt < (I0 0 6).toInt) (h8 : (I0 0 6).toInt ≤ 800) (ha : 0 ≤ a) : zh_nP I0 J0 (a + 1) (zm_w I 0 7 (I 0 7 + 1)) J := by
  have h3 := h.2.2.1
  have e : (I 0 7 + 1).toInt = (I 0 7).toInt + 1 := by rw [zh_add (by rw [zh_p1]; omega) (by rw [zh_p1]; omega), zh_p1]
  refine ⟨zh_nP_f h (by omega) _, ?_, ?_, ?_, ?_⟩
  · rw [zh_w2 I _ (by omega)]; exact h.2.1
  · rw [zh_w1, e]; omega
  · rw [zh_w2 I _ (by omega)]; exact h.2.2.2.1
  · rw [zh_w2 I _ (by omega)]; exact h.2.2.2.2
theorem zh_nP_8 (h : zh_nP I0 J0 a I J) {x : Int32} (h0 : 0 ≤ x.toInt) (h4 : x.toInt ≤ 4) : zh_nP I0 J0 a (zm_w I 0 8 x) J := by
  refine ⟨zh_nP_f h (by omega) _, ?_, ?_, ?_, ?_⟩
  · rw [zh_w2 I _ (by omega)]; exact h.2.1
  · rw [zh_w2 I _ (by omega)]; exact h.2.2.1
  · rw [zh_w1]; omega
  · rw [zh_w2 I _ (by omega)]; exact h.2.2.2.2
theorem zh_nP_9 (h : zh_nP I0 J0 a I J) {x : Int32} (h0 : 0 ≤ x.toInt) (h4 : x.toInt ≤ 800) : zh_nP I0 J0 a (zm_w I 0 9 x) J := by
  refine ⟨zh_nP_f h (by omega) _, ?_, ?_, ?_, ?_⟩
  · rw [zh_w2 I _ (by omega)]; exact h.2.1
  · rw [zh_w2 I _ (by omega)]; exact h.2.2.1
  · rw [zh_w2 I _ (by omega)]; exact h.2.2.2.1
  · rw [zh_w1]; omega
theorem zh_nP_10 (h : zh_nP I0 J0 a I J) (x : Int32) : zh_nP I0 J0 a (zm_w I 0 10 x) J := by
  refine ⟨zh_nP_f h (by omega) _, ?_, ?_, ?_, ?_⟩
  · rw [zh_w2 I _ (by omega)]; exact h.2.1
  · rw [zh_w2 I _ (by omega)]; exact h.2.2.1
  · rw [zh_w2 I _ (by omega)]; exact h.2.2.2.1
  · rw [zh_w2 I _ (by omega)]; exact h.2.2.2.2
theorem zh_nP_J (h : zh_nP I0 J0 a I J) (x : Int64) : zh_nP I0 J0 a I (zm_wl J 0 11 x) := by
  refine ⟨fun n i hn => ⟨(h.1 n i hn).1, ?_⟩, h.2⟩
  unfold zm_wl
  rw [if_neg (fun e => hn ⟨e.1, by omega⟩)]
  exact (h.1 n i hn).2
theorem zh_nP_a (h : zh_nP I0 J0 a I J) {b : Int} (hb : b ≤ a) : zh_nP I0 J0 b I J := ⟨h.1, h.2.1, ⟨Int.le_trans hb h.2.2.1.1, h.2.2.1.2⟩, h.2.2.2⟩
theorem zh_nP_6 (h : zh_nP I0 J0 a I J) : I 0 6 = I0 0 6 := (h.1 0 6 (by omega)).1
def zh_ib (I : Nat → Nat → Int32) (k lo hi : Int32) : Int32 := if I 0 6 ≤ k then 0 else if I 5 (Int32.toNatClampNeg k) < lo then 0 else if hi < I 5 (Int32.toNatClampNeg k) then 0 else 1
theorem zh_isByte (I : Nat → Nat → Int32) (J : Nat → Nat → Int64) {k : Int32} (hk : 0 ≤ k.toInt) (h8 : (I 0 6).toInt ≤ 800) (lo hi : Int32) : zF_X10_isByte zW_M [.ref 0, .int k, .int lo, .int hi] (I, J) = some (some (.int (zh_ib I k lo hi)), (I, J)) := by
  have e0 : zv_X10_isByte_M_32 I J k lo hi = some (some (.int 0), (I, J)) := by rw [zq_X10_isByte_M_32, zq_X10_isByte_M_33, if_pos (Or.inl rfl)]
  rw [zf_X10_isByte_M, zq_X10_isByte_M_0]
  unfold zh_ib
  by_cases h1 : I 0 6 ≤ k
  · rw [if_pos h1, if_pos h1, e0]
  · rw [if_neg h1, if_neg h1, zq_X10_isByte_M_8]
    rw [zh_le] at h1
    have hin := zh_in (x := k) (n := 800) hk (by omega)
    rw [if_neg hin]
    by_cases h2 : I 5 (Int32.toNatClampNeg k) < lo
    · rw [if_pos h2, if_pos h2, e0]
    · rw [if_neg h2, if_neg h2, zq_X10_isByte_M_18, if_neg hin]
      by_cases h3 : hi < I 5 (Int32.toNatClampNeg k)
      · rw [if_pos h3, if_pos h3, e0]
      · rw [if_neg h3, if_neg h3, zq_X10_isByte_M_28, zq_X10_isByte_M_33, if_pos (Or.inr rfl)]
theorem zh_ib_lt {I : Nat → Nat → Int32} {k lo hi : Int32} (h : ¬ zh_ib I k lo hi = 0) : k.toInt < (I 0 6).toInt := by
  unfold zh_ib at h
  by_cases h1 : I 0 6 ≤ k
  · rw [if_pos h1] at h
    exact absurd rfl h
  · rw [zh_le] at h1
    omega
/-- what next comes to -/
def zh_nR (I0 : Nat → Nat → Int32) (J0 : Nat → Nat → Int64) (R : zm_R) : Prop := ∃ I' J', R = some (none, (I', J')) ∧ zh_nP I0 J0 (I0 0 7).toInt I' J' ∧ ((I' 0 8).toInt = 0 → (I' 0 7).toInt = (I0 0 6).toInt) ∧ ((I' 0 8).toInt ≠ 0 → (I0 0 7).toInt + 1 ≤ (I' 0 7).toInt)
variable (h8 : (I0 0 6).toInt ≤ 800) (h7 : 0 ≤ (I0 0 7).toInt)
theorem zh_nEnd (h : zh_nP I0 J0 ((I0 0 7).toInt + 1) I J) (ht : (I 0 8).toInt ≠ 0) (l1 : Option Value) : zh_nR I0 J0 (zv_X10_next_M_307 I J l1) := ⟨I, J, zq_X10_next_M_307 I J l1, zh_nP_a h (by omega), fun e => absurd e ht, fun _ => h.2.2.1.1⟩
theorem zh_nBody (h8 : (I0 0 6).toInt ≤ 800) (h7 : 0 ≤ (I0 0 7).toInt) (h : zh_nP I0 J0 (I0 0 7).toInt I J) (hl : (I 0 7).toInt < (I0 0 6).toInt) (l1 : Int32) : ∃ J', zv_X10_next_M_117 I J l1 = zv_X10_next_M_102 (zm_w I 0 7 (I 0 7 + 1)) J' (l1 + 1) ∧ zh_nP I0 J0 ((I0 0 7).toInt + 1) (zm_w I 0 7 (I 0 7 + 1)) J' := by
  have hlo := h.2.2.1
  have hin := zh_in (x := I 0 7) (n := 800) (by omega) (by omega)
  have k153 : ∀ s0 : Int64, ∃ J', zv_X10_next_M_153 I J l1 s0 = zv_X10_next_M_102 (zm_w I 0 7 (I 0 7 + 1)) J' (l1 + 1) ∧ zh_nP I0 J0 ((I0 0 7).toInt + 1) (zm_w I 0 7 (I 0 7 + 1)) J' := by
    intro s0
    rw [zq_X10_next_M_153]
    split
    · rw [zq_X10_next_M_169]
      exact ⟨_, rfl, zh_nP_7 (zh_nP_J h _) hl h8 h7⟩
    · rw [zq_X10_next_M_162, zq_X10_next_M_169]
      exact ⟨_, rfl, zh_nP_7 (zh_nP_J (zh_nP_J h _) _) hl h8 h7⟩
  rw [zq_X10_next_M_117]
  split
  · rw [zq_X10_next_M_130, if_neg hin]
    exact k153 _
  · rw [zq_X10_next_M_124]
    exact k153 _
theorem zh_n102 (h8 : (I0 0 6).toInt ≤ 800) (h7 : 0 ≤ (I0 0 7).toInt) : ∀ (n : Nat) (I : Nat → Nat → Int32) (J : Nat → Nat → Int64) (l1 : Int32), zh_nP I0 J0 ((I0 0 7).toInt + 1) I J → (I 0 8).toInt ≠ 0 → (I0 0 6).toInt - (I 0 7).toInt < n → zh_nR I0 J0 (zv_X10_next_M_102 I J l1) := by
  intro n
  induction n with
  | zero => intro I J l1 h ht hn; have := h.2.2.1; omega
  | succ n ih =>
    intro I J l1 h ht hn
    have h6 := zh_nP_6 h
    have hlo := h.2.2.1
    rw [zc_X10_next_M_102 _ _ _ (zh_isByte I J (by omega) (by rw [h6]; exact h8) _ _), zq_X10_next_M_114]
    split
    · rw [zq_X10_next_M_185]
      exact zh_nEnd h ht _
    · next hb =>
      have hl := zh_ib_lt hb
      rw [h6] at hl
      obtain ⟨J', e, hP⟩ := zh_nBody h8 h7 (zh_nP_a h (by omega)) hl l1
      rw [e]
      refine ih _ _ _ hP ?_ ?_
      · rw [zh_w2 I _ (by omega)]; exact ht
      · rw [zh_w1, zh_add (by rw [zh_p1]; omega) (by rw [zh_p1]; omega), zh_p1]; omega
theorem zh_nBody2 (h8 : (I0 0 6).toInt ≤ 800) (h7 : 0 ≤ (I0 0 7).toInt) (h : zh_nP I0 J0 (I0 0 7).toInt I J) (hl : (I 0 7).toInt < (I0 0 6).toInt) : ∃ x : Int32, zv_X10_next_M_223 I J = zv_X10_next_M_208 (zm_w (zm_w I 0 10 x) 0 7 (I 0 7 + 1)) J ∧ zh_nP I0 J0 ((I0 0 7).toInt + 1) (zm_w (zm_w I 0 10 x) 0 7 (I 0 7 + 1)) J := by
  have hlo := h.2.2.1
  have hin := zh_in (x := I 0 7) (n := 800) (by omega) (by omega)
  have k258 : ∀ s0 : Int32, ∃ x : Int32, zv_X10_next_M_258 I J s0 = zv_X10_next_M_208 (zm_w (zm_w I 0 10 x) 0 7 (I 0 7 + 1)) J ∧ zh_nP I0 J0 ((I0 0 7).toInt + 1) (zm_w (zm_w I 0 10 x) 0 7 (I 0 7 + 1)) J := by
    intro s0
    refine ⟨s0, ?_, ?_⟩
    · rw [zq_X10_next_M_258, zh_w2 I s0 (by omega : ¬ (0 = 0 ∧ 7 = 10))]
    · have := zh_nP_7 (zh_nP_10 h s0) (by rw [zh_w2 I s0 (by omega)]; exact hl) h8 h7
      rw [zh_w2 I s0 (by omega : ¬ (0 = 0 ∧ 7 = 10))] at this
      exact this
  rw [zq_X10_next_M_223]
  split
  · rw [zq_X10_next_M_238, if_neg hin]
    exact k258 _
  · rw [zq_X10_next_M_233]
    exact k258 _
theorem zh_n208 (h8 : (I0 0 6).toInt ≤ 800) (h7 : 0 ≤ (I0 0 7).toInt) : ∀ (n : Nat) (I : Nat → Nat → Int32) (J : Nat → Nat → Int64), zh_nP I0 J0 ((I0 0 7).toInt + 1) I J → (I 0 8).toInt ≠ 0 → (I0 0 6).toInt - (I 0 7).toInt < n → zh_nR I0 J0 (zv_X10_next_M_208 I J) := by
  intro n
  induction n with
  | zero => intro I J h ht hn; have := h.2.2.1; omega
  | succ n ih =>
    intro I J h ht hn
    have h6 := zh_nP_6 h
    have hlo := h.2.2.1
    rw [zc_X10_next_M_208 _ _ (zh_isByte I J (by omega) (by rw [h6]; exact h8) _ _), zq_X10_next_M_220]
    split
    · exact zh_nEnd h ht _
    · next hb =>
      have hl := zh_ib_lt hb
      rw [h6] at hl
      obtain ⟨x, e, hP⟩ := zh_nBody2 h8 h7 (zh_nP_a h (by omega)) hl
      rw [e]
      refine ih _ _ hP ?_ ?_
      · rw [zh_w2 _ _ (by omega), zh_w2 I _ (by omega)]; exact ht
      · rw [zh_w1, zh_add (by rw [zh_p1]; omega) (by rw [zh_p1]; omega), zh_p1]; omega
theorem zh_ib_8 (I : Nat → Nat → Int32) (x k lo hi : Int32) : zh_ib (zm_w I 0 8 x) k lo hi = zh_ib I k lo hi := by
  unfold zh_ib
  rw [zh_w2 I x (by omega), zh_w2 I x (by omega)]
theorem zh_n80 (h8 : (I0 0 6).toInt ≤ 800) (h7 : 0 ≤ (I0 0 7).toInt) (h : zh_nP I0 J0 (I0 0 7).toInt I J) (hl : (I 0 7).toInt < (I0 0 6).toInt) : zh_nR I0 J0 (zv_X10_next_M_80 I J) := by
  have h6 := zh_nP_6 h
  have hlo := h.2.2.1
  have hin := zh_in (x := I 0 7) (n := 800) (by omega) (by omega)
  rw [zc_X10_next_M_80 _ _ (zh_isByte I J (by omega) (by rw [h6]; exact h8) _ _), zq_X10_next_M_92]
  split
  · rw [zc_X10_next_M_188 _ _ (zh_isByte I J (by omega) (by rw [h6]; exact h8) _ _), zq_X10_next_M_200]
    split
    · have k294 : ∀ s0 : Int32, 1 ≤ s0.toInt → s0.toInt ≤ 4 → zh_nR I0 J0 (zv_X10_next_M_294 I J s0) := by
        intro s0 h1 h4
        rw [zq_X10_next_M_294]
        refine zh_nEnd (zh_nP_7 (zh_nP_8 h (by omega) h4) (by rw [zh_w2 I s0 (by omega)]; exact hl) h8 h7) ?_ _
        rw [zh_w2 _ _ (by omega), zh_w1]
        omega
      rw [zq_X10_next_M_274, if_neg hin]
      split
      · rw [zq_X10_next_M_289]
        exact k294 3 (by decide) (by decide)
      · rw [zq_X10_next_M_293]
        exact k294 4 (by decide) (by decide)
    · next hb =>
      have e2 : (2 : Int32).toInt = 2 := by decide
      have hP2 := zh_nP_8 h (x := 2) (by omega) (by omega)
      have e7 : (zm_w I 0 8 2) 0 7 = I 0 7 := zh_w2 I _ (by omega)
      have e6 : (zm_w I 0 8 2) 0 6 = I 0 6 := zh_w2 I _ (by omega)
      rw [zq_X10_next_M_203, zc_X10_next_M_208 _ _ (zh_isByte (zm_w I 0 8 2) J (by rw [e7]; omega) (by rw [e6, h6]; exact h8) _ _), zq_X10_next_M_220, e7, zh_ib_8, if_neg hb]
      obtain ⟨x, e, hP⟩ := zh_nBody2 h8 h7 hP2 (by rw [e7]; exact hl)
      rw [e]
      refine zh_n208 h8 h7 900 _ _ hP ?_ ?_
      · rw [zh_w2 _ _ (by omega), zh_w2 _ _ (by omega), zh_w1, e2]; omega
      · rw [zh_w1, e7, zh_add (by rw [zh_p1]; omega) (by rw [zh_p1]; omega), zh_p1]; omega
  · next hb =>
    have hP2 := zh_nP_8 h (x := 1) (by rw [zh_p1]; omega) (by rw [zh_p1]; omega)
    have e7 : (zm_w I 0 8 1) 0 7 = I 0 7 := zh_w2 I _ (by omega)
    have e6 : (zm_w I 0 8 1) 0 6 = I 0 6 := zh_w2 I _ (by omega)
    rw [zq_X10_next_M_95, zc_X10_next_M_102 _ _ _ (zh_isByte (zm_w I 0 8 1) J (by rw [e7]; omega) (by rw [e6, h6]; exact h8) _ _), zq_X10_next_M_114, e7, zh_ib_8, if_neg hb]
    obtain ⟨J', e, hP⟩ := zh_nBody h8 h7 hP2 (by rw [e7]; exact hl) 0
    rw [e]
    refine zh_n102 h8 h7 900 _ _ _ hP ?_ ?_
    · rw [zh_w2 _ _ (by omega), zh_w1, zh_p1]; omega
    · rw [zh_w1, e7, zh_add (by rw [zh_p1]; omega) (by rw [zh_p1]; omega), zh_p1]; omega
theorem zh_n0 (h8 : (I0 0 6).toInt ≤ 800) (h7 : 0 ≤ (I0 0 7).toInt) : ∀ (n : Nat) (I : Nat → Nat → Int32) (J : Nat → Nat → Int64), zh_nP I0 J0 (I0 0 7).toInt I J → (I0 0 6).toInt - (I 0 7).toInt < n → zh_nR I0 J0 (zv_X10_next_M_0 I J) := by
  intro n
  induction n with
  | zero => intro I J h hn; have := h.2.2.1; omega
  | succ n ih =>
    intro I J h hn
    have h6 := zh_nP_6 h
    have hlo := h.2.2.1
    have k30 : ∀ lo hi, ¬ zh_ib I (I 0 7) lo hi = 0 → zh_nR I0 J0 (zv_X10_next_M_30 I J) := by
      intro lo hi hb
      have hl := zh_ib_lt hb
      rw [h6] at hl
      rw [zq_X10_next_M_30]
      refine ih _ _ (zh_nP_a (zh_nP_7 h hl h8 h7) (by omega)) ?_
      rw [zh_w1, zh_add (by rw [zh_p1]; omega) (by rw [zh_p1]; omega), zh_p1]; omega
    rw [zc_X10_next_M_0 _ _ (zh_isByte I J (by omega) (by rw [h6]; exact h8) _ _), zq_X10_next_M_12]
    split
    · rw [zc_X10_next_M_15 _ _ (zh_isByte I J (by omega) (by rw [h6]; exact h8) _ _), zq_X10_next_M_27]
      split
      · have hP : zh_nP I0 J0 (I0 0 7).toInt (zm_w (zm_w I 0 9 (I 0 7)) 0 10 0) (zm_wl J 0 11 0) := zh_nP_J (zh_nP_10 (zh_nP_9 h (by omega) (by omega)) 0) 0
        have e7 : (zm_w (zm_w I 0 9 (I 0 7)) 0 10 0) 0 7 = I 0 7 := by rw [zh_w2 _ _ (by omega), zh_w2 _ _ (by omega)]
        have e6 : (zm_w (zm_w I 0 9 (I 0 7)) 0 10 0) 0 6 = I0 0 6 := by rw [zh_w2 _ _ (by omega), zh_w2 _ _ (by omega), h6]
        rw [zq_X10_next_M_43, e7, e6]
        split
        · next he =>
          have he := congrArg Int32.toInt he
          rw [zq_X10_next_M_72]
          refine ⟨_, _, zq_X10_next_M_307 _ _ _, zh_nP_8 hP (by rw [zh_z0]; omega) (by rw [zh_z0]; omega), fun _ => ?_, fun e => ?_⟩
          · rw [zh_w2 _ _ (by omega), e7]; exact he
          · rw [zh_w1, zh_z0] at e; exact absurd rfl e
        · next he =>
          refine zh_n80 h8 h7 hP ?_
          rw [e7]
          have : (I 0 7).toInt ≠ (I0 0 6).toInt := fun e => he (Int32.toInt_inj.mp e)
          omega
      · next hb => exact k30 _ _ hb
    · next hb => exact k30 _ _ hb
end ZHN
theorem zh_nextV (M : zm_I) (hG : zt_Gs zo_g22 M) (ha : (M.1 0 7).toInt ≤ (M.1 0 6).toInt) : ∃ N, zF_X10_next zW_M [.ref 0] M = some (none, N) ∧ zt_Gs zo_g22 N ∧ zt_fr [(0, 7, 11)] M N ∧ (N.1 0 7).toInt ≤ (N.1 0 6).toInt ∧ zo_mu N ≤ zo_mu M ∧ ((M.1 0 8).toInt ≠ 0 → zo_mu N < zo_mu M) := by
  have g6 : 0 ≤ (M.1 0 6).toInt ∧ (M.1 0 6).toInt ≤ 800 := hG 0 _ rfl 6 (.ofNat 0, .ofNat 800) rfl
  have g7 : 0 ≤ (M.1 0 7).toInt ∧ (M.1 0 7).toInt ≤ 800 := hG 0 _ rfl 7 (.ofNat 0, .ofNat 800) rfl
  have g8 : 0 ≤ (M.1 0 8).toInt ∧ (M.1 0 8).toInt ≤ 4 := hG 0 _ rfl 8 (.ofNat 0, .ofNat 4) rfl
  have g9 : 0 ≤ (M.1 0 9).toInt ∧ (M.1 0 9).toInt ≤ 800 := hG 0 _ rfl 9 (.ofNat 0, .ofNat 800) rfl
  obtain ⟨I', J', e, hP, q1, q2⟩ := zh_n0 (I0 := M.1) (J0 := M.2) g6.2 g7.1 900 M.1 M.2 ⟨fun _ _ _ => ⟨rfl, rfl⟩, rfl, ⟨Int.le_refl _, ha⟩, g8, g9⟩ (by omega)
  have e6 := zh_nP_6 hP
  have hlo := hP.2.2.1
  refine ⟨(I', J'), (zf_X10_next_M M.1 M.2).trans e, ?_, ?_, ?_, ?_, ?_⟩
  · intro n g hg i b hb
    by_cases hc : n = 0 ∧ 7 ≤ i ∧ i ≤ 11
    · obtain ⟨rfl, h1, h2⟩ := hc
      rw [show zo_g22[0]? = some (zo_g22.getD 0 []) from rfl] at hg
      cases hg
      have hi : i = 7 ∨ i = 8 ∨ i = 9 ∨ i = 10 ∨ i = 11 := by omega
      rcases hi with rfl | rfl | rfl | rfl | rfl
      · have hb : some ((Int.ofNat 0, Int.ofNat 800) : Int × Int) = some b := hb
        cases hb
        show (0 : Int) ≤ (I' 0 7).toInt ∧ (I' 0 7).toInt ≤ 800
        omega
      · have hb : some ((Int.ofNat 0, Int.ofNat 4) : Int × Int) = some b := hb
        cases hb
        exact hP.2.2.2.1
      · have hb : some ((Int.ofNat 0, Int.ofNat 800) : Int × Int) = some b := hb
        cases hb
        exact hP.2.2.2.2
      · have hb : some ((Int.negSucc 2147483647, Int.ofNat 2147483647) : Int × Int) = some b := hb
        cases hb
        exact zt_rgI _
      · show _ ≤ (I' 0 11).toInt ∧ (I' 0 11).toInt ≤ _
        rw [hP.2.1]
        exact hG 0 _ rfl 11 b hb
    · show _ ≤ (I' n i).toInt ∧ (I' n i).toInt ≤ _
      rw [(hP.1 n i hc).1]
      exact hG n g hg i b hb
  · intro n i hh
    exact hP.1 n i (fun c => by
      have : zt_hit [(0, 7, 11)] n i = true := by rw [c.1]; simp [zt_hit]; omega
      rw [this] at hh
      cases hh)
  · show (I' 0 7).toInt ≤ (I' 0 6).toInt
    rw [e6]; exact hlo.2
  · unfold zo_mu
    dsimp only
    rw [e6]
    by_cases h0 : (I' 0 8).toInt = 0
    · have := q1 h0
      rw [if_pos h0]
      omega
    · have := q2 h0
      rw [if_neg h0]
      omega
  · intro ht
    unfold zo_mu
    dsimp only
    rw [e6, if_neg ht]
    by_cases h0 : (I' 0 8).toInt = 0
    · have := q1 h0
      rw [if_pos h0]
      omega
    · have := q2 h0
      rw [if_neg h0]
      omega
theorem zh_nextC (v : Nat) (hd : Nat × Option Nat × Bool × List (Nat × Nat)) (pre : List zt_C) (fl fo : List Nat) (h1 : ∀ M : zm_I, zt_Gs zo_g22 M → (∀ c ∈ pre, zt_cs [] M c) → (∀ f ∈ fl, zo_Rel v f M) → (M.1 0 7).toInt ≤ (M.1 0 6).toInt ∧ ∀ N : zm_I, (N.1 0 7).toInt ≤ (N.1 0 6).toInt → zo_mu N ≤ zo_mu M → ((M.1 0 8).toInt ≠ 0 → zo_mu N < zo_mu M) → ∀ f ∈ fo, zo_Rel v f N) (hp : ∀ c ∈ pre, c.1.1 = 1) : zt_Con zo_Om (zo_Rel v) (hd, (22, ([zjr 0], pre, fl), [(0, 7, 11)], [(none, [], [], fo)])) zF_X10_next :=
  zh_con (w0 := zW_M) (G := zo_g22) rfl (by decide +kernel) (fun as M hs hc hf hG => by
    obtain ⟨vs, rfl, h2⟩ := zh_ref hs
    obtain rfl := zh_nil h2
    have hc' : ∀ c ∈ pre, zt_cs [] M c := fun c hm => by
      have h := hc c hm
      have h1 := hp c hm
      unfold zt_cs at h ⊢
      rw [h1] at h ⊢
      exact h
    obtain ⟨ha, hk⟩ := h1 M hG hc' hf
    obtain ⟨N, q1, q2, q3, q4, q5, q6⟩ := zh_nextV M hG ha
    exact ⟨none, N, q1, q2, q3, _, List.mem_cons_self, ⟨rfl, zh_no, zh_no, hk N q4 q5 q6⟩⟩)
theorem zh_next_a (v : Nat) (hd : Nat × Option Nat × Bool × List (Nat × Nat)) : zt_Con zo_Om (zo_Rel v) (hd, (22, ([zjr 0], [((1, 0, 7), .ofNat 0, .ofNat 0)], []), [(0, 7, 11)], [(none, [], [], [2])])) zF_X10_next := zh_nextC v hd _ _ _ (fun M hG hc _ => by
  have h7 : (0 : Int) ≤ (M.1 0 7).toInt ∧ (M.1 0 7).toInt ≤ 0 := hc _ List.mem_cons_self
  have g6 : 0 ≤ (M.1 0 6).toInt ∧ (M.1 0 6).toInt ≤ 800 := hG 0 _ rfl 6 (.ofNat 0, .ofNat 800) rfl
  refine ⟨by omega, fun N h1 _ _ f hf => ?_⟩
  simp only [List.mem_cons, List.not_mem_nil, or_false] at hf
  subst hf
  exact h1) (fun c hc => by simp only [List.mem_cons, List.not_mem_nil, or_false] at hc; rw [hc])
theorem zh_next_d (v : Nat) (hd : Nat × Option Nat × Bool × List (Nat × Nat)) : zt_Con zo_Om (zo_Rel v) (hd, (22, ([zjr 0], [], [0, 2]), [(0, 7, 11)], [(none, [], [], [0, 2])])) zF_X10_next := zh_nextC v hd _ _ _ (fun M hG hc hf => by
  have h0 : (M.1 0 7).toInt ≤ (M.1 0 6).toInt ∧ zo_mu M ≤ v := hf 0 (by simp)
  refine ⟨h0.1, fun N h1 h2 _ f hf => ?_⟩
  simp only [List.mem_cons, List.not_mem_nil, or_false] at hf
  rcases hf with rfl | rfl
  · exact ⟨h1, Nat.le_trans h2 h0.2⟩
  · exact h1) zh_no
theorem zh_next_b (v : Nat) (hd : Nat × Option Nat × Bool × List (Nat × Nat)) : zt_Con zo_Om (zo_Rel v) (hd, (22, ([zjr 0], [((1, 0, 8), .ofNat 1, .ofNat 4)], [0, 2]), [(0, 7, 11)], [(none, [], [], [0, 1, 2])])) zF_X10_next := zh_nextC v hd _ _ _ (fun M hG hc hf => by
  have h0 : (M.1 0 7).toInt ≤ (M.1 0 6).toInt ∧ zo_mu M ≤ v := hf 0 (by simp)
  have h8 : (1 : Int) ≤ (M.1 0 8).toInt ∧ (M.1 0 8).toInt ≤ 4 := hc _ List.mem_cons_self
  refine ⟨h0.1, fun N h1 h2 h3 f hf => ?_⟩
  simp only [List.mem_cons, List.not_mem_nil, or_false] at hf
  rcases hf with rfl | rfl | rfl
  · exact ⟨h1, Nat.le_trans h2 h0.2⟩
  · exact Nat.lt_of_lt_of_le (h3 (by omega)) h0.2
  · exact h1) (fun c hc => by simp only [List.mem_cons, List.not_mem_nil, or_false] at hc; rw [hc])
theorem zh_next_c (v : Nat) (hd : Nat × Option Nat × Bool × List (Nat × Nat)) : zt_Con zo_Om (zo_Rel v) (hd, (22, ([zjr 0], [((1, 0, 8), .ofNat 1, .ofNat 4)], [0, 1, 2]), [(0, 7, 11)], [(none, [], [], [0, 1, 2])])) zF_X10_next := zh_nextC v hd _ _ _ (fun M hG hc hf => by
  have h0 : (M.1 0 7).toInt ≤ (M.1 0 6).toInt ∧ zo_mu M ≤ v := hf 0 (by simp)
  have h8 : (1 : Int) ≤ (M.1 0 8).toInt ∧ (M.1 0 8).toInt ≤ 4 := hc _ List.mem_cons_self
  refine ⟨h0.1, fun N h1 h2 h3 f hf => ?_⟩
  simp only [List.mem_cons, List.not_mem_nil, or_false] at hf
  rcases hf with rfl | rfl | rfl
  · exact ⟨h1, Nat.le_trans h2 h0.2⟩
  · exact Nat.lt_of_lt_of_le (h3 (by omega)) h0.2
  · exact h1) (fun c hc => by simp only [List.mem_cons, List.not_mem_nil, or_false] at hc; rw [hc])
end
section
/-! CONTRACTS BY HAND: sights of the reference -/
def zh_inr (a b c : Int64) : Int32 := if a < b then 0 else if c < a then 0 else 1
theorem zh_cmp_gt (a c : Int64) : (0 < lg_cmp a c) ↔ c < a := lg_cmp_gt a c
theorem zh_inV (I : Nat → Nat → Int32) (J : Nat → Nat → Int64) (a b c : Int64) : zF_X10_in zW_M [.long a, .long b, .long c] (I, J) = some (some (.int (zh_inr a b c)), (I, J)) := by
  unfold zh_inr
  rw [zf_X10_in_M, zq_X10_in_M_0]
  by_cases h1 : a < b
  · rw [if_pos ((lg_cmp_lt a b).mpr h1), if_pos h1, zq_X10_in_M_17, zq_X10_in_M_18, if_pos (Or.inl rfl)]
  · rw [if_neg (fun q => h1 ((lg_cmp_lt a b).mp q)), if_neg h1, zq_X10_in_M_6]
    by_cases h2 : c < a
    · rw [if_pos ((zh_cmp_gt a c).mpr h2), if_pos h2, zq_X10_in_M_17, zq_X10_in_M_18, if_pos (Or.inl rfl)]
    · rw [if_neg (fun q => h2 ((zh_cmp_gt a c).mp q)), if_neg h2, zq_X10_in_M_13, zq_X10_in_M_18, if_pos (Or.inr rfl)]
theorem zh_inr_ne {a b c : Int64} (h : ¬ zh_inr a b c = 0) : b.toInt ≤ a.toInt ∧ a.toInt ≤ c.toInt := by
  unfold zh_inr at h
  by_cases h1 : a < b
  · rw [if_pos h1] at h; exact absurd rfl h
  · rw [if_neg h1] at h
    by_cases h2 : c < a
    · rw [if_pos h2] at h; exact absurd rfl h
    · rw [Int64.lt_iff_toInt_lt] at h1 h2
      omega
theorem zh_inr_b (a b c : Int64) : zh_inr a b c = 0 ∨ zh_inr a b c = 1 := by
  unfold zh_inr
  split
  · exact Or.inl rfl
  · split
    · exact Or.inl rfl
    · exact Or.inr rfl
theorem zh_isSlotV (I : Nat → Nat → Int32) (J : Nat → Nat → Int64) (l : Int32) : zF_X10_isSlot zW_M [.int l] (I, J) = some (some (.int (zh_inr (Int32.toInt64 l) 0 3)), (I, J)) := by
  rw [zf_X10_isSlot_M, zc_X10_isSlot_M_0 _ _ _ (zh_inV I J _ _ _), zq_X10_isSlot_M_9, if_pos (zh_inr_b _ _ _)]
theorem zh_slot {l : Int32} (h : ¬ zh_inr (Int32.toInt64 l) 0 3 = 0) : 0 ≤ l.toInt ∧ l.toInt ≤ 3 := by
  have := zh_inr_ne h
  rw [Int32.toInt_toInt64] at this
  exact this
theorem zh_isBenchV (I : Nat → Nat → Int32) (J : Nat → Nat → Int64) : zF_X10_isBench zW_M [.ref 0] (I, J) = some (some (.int (if I 6 0 ≤ 0 then 0 else 1)), (I, J)) := by
  rw [zf_X10_isBench_M, zq_X10_isBench_M_0, if_neg (by decide)]
  show (if I 6 0 ≤ 0 then _ else _) = _
  split
  · rw [zq_X10_isBench_M_13, zq_X10_isBench_M_14, if_pos (Or.inl rfl)]
  · rw [zq_X10_isBench_M_9, zq_X10_isBench_M_14, if_pos (Or.inr rfl)]
theorem zh_isCallerV (I : Nat → Nat → Int32) (J : Nat → Nat → Int64) (x : Int64) : zF_X10_isCaller zW_M [.ref 0, .long x] (I, J) = some (some (.int (zh_inr x 0 (Int32.toInt64 (I 7 5) - 1))), (I, J)) := by
  have e : zF_X10_callers zW_M [.ref 0] (I, J) = some (some (.int (I 7 5)), (I, J)) := by
    rw [zf_X10_callers_M, zq_X10_callers_M_0, if_neg (by decide)]
    rfl
  rw [zf_X10_isCaller_M, zc_X10_isCaller_M_0 _ _ _ e, zc_X10_isCaller_M_6 _ _ _ _ _ _ (zh_inV I J _ _ _), zq_X10_isCaller_M_12, if_pos (zh_inr_b _ _ _)]
theorem zh_caller {I : Nat → Nat → Int32} {x : Int64} (h0 : 0 ≤ (I 7 5).toInt ∧ (I 7 5).toInt ≤ 5) (h : ¬ zh_inr x 0 (Int32.toInt64 (I 7 5) - 1) = 0) : 0 ≤ x.toInt ∧ x.toInt ≤ 4 := by
  have := zh_inr_ne h
  have e : (Int32.toInt64 (I 7 5) - 1).toInt = (I 7 5).toInt - 1 := by
    rw [Int64.toInt_sub, Int32.toInt_toInt64]
    have e1 : (1 : Int64).toInt = 1 := by decide
    rw [e1]
    exact zt_bmL (by omega) (by omega)
  rw [e] at this
  have e0 : (0 : Int64).toInt = 0 := by decide
  omega
theorem zh_rem32 (a b : Int32) (hb : b.toInt ≠ 0) : (a - a / b * b).toInt = a.toInt.tmod b.toInt := by
  have ha := zt_rgI a
  have hb2 := zt_rgI b
  rw [Int32.toInt_sub, Int32.toInt_mul, Int32.toInt_div, Int.bmod_mul_bmod, Int.sub_bmod_bmod]
  have e : a.toInt - a.toInt.tdiv b.toInt * b.toInt = a.toInt.tmod b.toInt := by
    have := Int.tdiv_mul_add_tmod a.toInt b.toInt
    omega
  rw [e]
  have h1 : (a.toInt.tmod b.toInt).natAbs < b.toInt.natAbs := by
    rw [Int.natAbs_tmod]
    exact Nat.mod_lt _ (by omega)
  exact zt_bmI (by omega) (by omega)
theorem zh_three {a : Int32} (h0 : 0 ≤ a.toInt) (h : a - a / 3 * 3 = 0) : a.toInt % 3 = 0 := by
  have e3 : (3 : Int32).toInt = 3 := by decide
  have := zh_rem32 a 3 (by rw [e3]; omega)
  rw [h, e3, zh_z0, Int.tmod_eq_emod_of_nonneg h0] at this
  omega
theorem zh_two {a : Int32} (h0 : 0 ≤ a.toInt) (h : a - a / 2 * 2 = 0) : a.toInt % 2 = 0 := by
  have e3 : (2 : Int32).toInt = 2 := by decide
  have := zh_rem32 a 2 (by rw [e3]; omega)
  rw [h, e3, zh_z0, Int.tmod_eq_emod_of_nonneg h0] at this
  omega
theorem zh_c60 : (60 : Int32).toInt = 60 := by decide
theorem zh_c2 : (2 : Int32).toInt = 2 := by decide
theorem zh_c3 : (3 : Int32).toInt = 3 := by decide
theorem zh_c61 : (61 : Int32).toInt = 61 := by decide
theorem zh_k60 {l1 l2 : Int32} {z i : Nat} (hz : l1.toInt = z) (h4 : z < 4) (hi : l2.toInt = i) (h60 : i < 60) : (60 * l1 + l2).toInt = (60 * z + i : Nat) := by
  have e1 : (60 * l1).toInt = 60 * z := by rw [zh_mul (by rw [zh_c60]; omega) (by rw [zh_c60]; omega), zh_c60, hz]
  rw [zh_add (by omega) (by omega), e1, hi]
  omega
theorem zh_cl {x : Int32} {n : Nat} (h : x.toInt = n) : x.toNatClampNeg = n := by
  have := zs_clamp (i := x) (by omega)
  omega
section ZHS
variable {I : Nat → Nat → Int32} {J : Nat → Nat → Int64} {l1 : Int32} {z : Nat}
theorem zh_ws46 (hz : l1.toInt = z) (h4 : z < 4) (hm : 0 ≤ (I 2 z).toInt ∧ (I 2 z).toInt ≤ 60) (h3 : (I 2 z).toInt % 3 = 0) (hc : 0 ≤ (I 7 5).toInt ∧ (I 7 5).toInt ≤ 5) : ∀ (n i : Nat) (l3 : Option Value), i % 3 = 0 → i ≤ 60 → 60 - i < n → (∀ j : Nat, j < i → (j % 3 = 0 → 0 ≤ (J 3 (60 * z + j)).toInt ∧ (J 3 (60 * z + j)).toInt ≤ 4) ∧ (j % 3 = 1 → 0 ≤ (J 3 (60 * z + j)).toInt ∧ (J 3 (60 * z + j)).toInt ≤ 60)) → ∃ x, zv_X10_whyNotSeen_M_46 I J l1 (Int32.ofNat i) l3 = some (some (.int x), (I, J)) ∧ (x = -2 ∨ (x = 0 ∧ zo_see 2 z 3 (60 * z) (I, J))) := by
  intro n
  induction n with
  | zero => intro i l3 _ _ h; omega
  | succ n ih =>
    intro i l3 hi3 hi60 hn hacc
    have ecl := zh_cl hz
    have eo : (Int32.ofNat i).toInt = i := zh_of (by omega)
    rw [zq_X10_whyNotSeen_M_46, if_neg (zh_in (by omega) (by omega)), ecl]
    split
    · next hle =>
      rw [zh_le, eo] at hle
      exact ⟨0, zq_X10_whyNotSeen_M_123 I J l1 _ l3, Or.inr ⟨rfl, h3, fun j hj hl => hacc j (by have hl : (j : Int) < (I 2 z).toInt := hl; omega)⟩⟩
    · next hle =>
      rw [zh_le, eo] at hle
      have hi57 : i ≤ 57 := by omega
      have ek := zh_k60 hz h4 eo (by omega)
      have ek1 : (60 * l1 + Int32.ofNat i + 1).toInt = (60 * z + (i + 1) : Nat) := by rw [zh_add (by rw [zh_p1]; omega) (by rw [zh_p1]; omega), ek, zh_p1]; omega
      have ek2 : (60 * l1 + Int32.ofNat i + 2).toInt = (60 * z + (i + 2) : Nat) := by rw [zh_add (by rw [zh_c2]; omega) (by rw [zh_c2]; omega), ek, zh_c2]; omega
      have e114 : ∀ l3, zv_X10_whyNotSeen_M_114 I J l1 (Int32.ofNat i) l3 = some (some (.int (-2)), (I, J)) := fun l3 => zq_X10_whyNotSeen_M_114 I J l1 _ l3
      rw [zq_X10_whyNotSeen_M_56, if_neg (zh_in (by omega) (by omega)), zc_X10_whyNotSeen_M_70 _ _ _ _ _ _ (zh_isCallerV I J _), zq_X10_whyNotSeen_M_73]
      split
      · exact ⟨_, e114 _, Or.inl rfl⟩
      · next hb1 =>
        rw [zq_X10_whyNotSeen_M_76, if_neg (zh_in (by omega) (by omega)), zc_X10_whyNotSeen_M_84 _ _ _ _ _ _ (zh_inV I J _ _ _), zq_X10_whyNotSeen_M_91]
        split
        · exact ⟨_, e114 _, Or.inl rfl⟩
        · next hb2 =>
          rw [zq_X10_whyNotSeen_M_94, if_neg (zh_in (by omega) (by omega)), zc_X10_whyNotSeen_M_102 _ _ _ _ _ _ (zh_inV I J _ _ _), zq_X10_whyNotSeen_M_111]
          split
          · exact ⟨_, e114 _, Or.inl rfl⟩
          · next hb3 =>
            have c1 := zh_caller hc hb1
            have c2 := zh_inr_ne hb2
            rw [zh_cl ek] at c1
            rw [zh_cl ek1] at c2
            have e0 : (0 : Int64).toInt = 0 := by decide
            have e60 : (60 : Int64).toInt = 60 := by decide
            rw [e0, e60] at c2
            have e3 : Int32.ofNat i + 3 = Int32.ofNat (i + 3) := by
              apply Int32.toInt_inj.mp
              rw [zh_add (by rw [zh_c3]; omega) (by rw [zh_c3]; omega), eo, zh_c3, zh_of (by omega)]
              omega
            rw [zq_X10_whyNotSeen_M_117, e3]
            refine ih (i + 3) _ (by omega) (by omega) (by omega) (fun j hj => ?_)
            by_cases hji : j < i
            · exact hacc j hji
            · have hj3 : j = i ∨ j = i + 1 ∨ j = i + 2 := by omega
              rcases hj3 with rfl | rfl | rfl
              · exact ⟨fun _ => c1, fun h => by omega⟩
              · exact ⟨fun h => by omega, fun _ => c2⟩
              · exact ⟨fun h => by omega, fun h => by omega⟩
end ZHS
theorem zh_seenV (I : Nat → Nat → Int32) (J : Nat → Nat → Int64) (l1 : Int32) (hm : ∀ i, 0 ≤ (I 2 i).toInt ∧ (I 2 i).toInt ≤ 60) (hc : 0 ≤ (I 7 5).toInt ∧ (I 7 5).toInt ≤ 5) : ∃ x : Int32, zF_X10_whyNotSeen zW_M [.ref 0, .int l1] (I, J) = some (some (.int x), (I, J)) ∧ ((-6 ≤ x.toInt ∧ x.toInt ≤ -1) ∨ (x = 0 ∧ (0 < (I 6 0).toInt) ∧ ∃ z : Nat, z < 4 ∧ l1.toInt = z ∧ zo_see 2 z 3 (60 * z) (I, J))) := by
  have e2 : (-2 : Int32).toInt = -2 := by decide
  have e6 : (-6 : Int32).toInt = -6 := by decide
  have e14 : zv_X10_whyNotSeen_M_14 I J l1 = some (some (.int (-2)), (I, J)) := zq_X10_whyNotSeen_M_14 I J l1
  rw [zf_X10_whyNotSeen_M, zc_X10_whyNotSeen_M_0 _ _ _ (zh_isSlotV I J l1), zq_X10_whyNotSeen_M_4]
  split
  · exact ⟨_, e14, Or.inl (by omega)⟩
  · next hs =>
    have hs := zh_slot hs
    obtain ⟨z, hz⟩ : ∃ z : Nat, l1.toInt = z := ⟨l1.toInt.toNat, by omega⟩
    have h4 : z < 4 := by omega
    rw [zc_X10_whyNotSeen_M_7 _ _ _ (zh_isBenchV I J), zq_X10_whyNotSeen_M_11]
    by_cases q : I 6 0 ≤ 0
    · rw [if_pos q, if_pos rfl]
      exact ⟨_, e14, Or.inl (by omega)⟩
    · rw [if_neg q, if_neg (by decide)]
      have hb0 : 0 < (I 6 0).toInt := by
        rw [zh_le, zh_z0] at q; omega
      rw [zq_X10_whyNotSeen_M_17, if_neg (zh_in (by omega) (by omega))]
      split
      · exact ⟨_, zq_X10_whyNotSeen_M_27 I J l1, Or.inl (by omega)⟩
      · rw [zq_X10_whyNotSeen_M_30, if_neg (zh_in (by omega) (by omega)), zh_cl hz]
        split
        · next h3 =>
          rw [zq_X10_whyNotSeen_M_44]
          obtain ⟨x, q1, q2⟩ := zh_ws46 (J := J) hz h4 (hm z) (zh_three (hm z).1 h3) hc 100 0 none (by omega) (by omega) (by omega) (fun j hj => by omega)
          refine ⟨x, q1, ?_⟩
          rcases q2 with rfl | ⟨rfl, q2⟩
          · exact Or.inl (by omega)
          · exact Or.inr ⟨rfl, hb0, z, h4, hz, q2⟩
        · exact ⟨_, zq_X10_whyNotSeen_M_41 I J l1, Or.inl (by omega)⟩
def zh_seenO : List zt_O := [(some (zj (.negSucc 5) (.negSucc 0)), [], [], []), (some (zj (.ofNat 0) (.ofNat 0)), [(1, .ofNat 0, .ofNat 0)], [], [7]), (some (zj (.ofNat 0) (.ofNat 0)), [(1, .ofNat 1, .ofNat 1)], [], [8]), (some (zj (.ofNat 0) (.ofNat 0)), [(1, .ofNat 2, .ofNat 2)], [], [9]), (some (zj (.ofNat 0) (.ofNat 0)), [(1, .ofNat 3, .ofNat 3)], [], [10])]
theorem zh_seenR {v : Nat} {N : zm_I} {l1 x : Int32} {lo : Int} {f : Nat} (hx : x = 0) (hl : l1.toInt = lo) (hf : zo_Rel v f N) : zt_res1 (zo_Rel v) [.ref 0, .int l1] (some (.int x)) N (some (zj (.ofNat 0) (.ofNat 0)), [(1, lo, lo)], [], [f]) := by
  subst hx
  refine ⟨⟨_, rfl, zh_v_int (by decide) (by decide)⟩, fun q hq => ?_, zh_no, fun g hg => ?_⟩
  · rcases List.mem_cons.mp hq with rfl | hq
    · exact ⟨_, _, rfl, rfl, by show lo ≤ _; omega, by show _ ≤ lo; omega⟩
    · cases hq
  · rcases List.mem_cons.mp hg with rfl | hg
    · exact hf
    · cases hg
theorem zh_wseen (pre : List zt_C) (v : Nat) (hd : Nat × Option Nat × Bool × List (Nat × Nat)) : zt_Con zo_Om (zo_Rel v) (hd, (22, ([zjr 0, zt_top], pre, []), [], zh_seenO)) zF_X10_whyNotSeen :=
  zh_pure (w0 := zW_M) (G := zo_g22) rfl (by decide +kernel) (fun as M hs _ _ hG => by
    obtain ⟨vs, rfl, h1⟩ := zh_ref hs
    obtain ⟨l1, vs, rfl, h2⟩ := zh_top h1
    obtain rfl := zh_nil h2
    obtain ⟨x, q1, q2⟩ := zh_seenV M.1 M.2 l1 (fun i => zh_ga hG (n := 2) (b := (.ofNat 0, .ofNat 60)) rfl i) (hG 7 _ rfl 5 (.ofNat 0, .ofNat 5) rfl)
    refine ⟨_, q1, ?_⟩
    rcases q2 with q2 | ⟨hx, -, z, h4, hz, q2⟩
    · exact ⟨_, List.mem_cons_self, zh_res q2.1 q2.2⟩
    · have hz4 : z = 0 ∨ z = 1 ∨ z = 2 ∨ z = 3 := by omega
      rcases hz4 with rfl | rfl | rfl | rfl
      · exact ⟨_, List.mem_of_getElem? (i := 1) rfl, zh_seenR hx hz q2⟩
      · exact ⟨_, List.mem_of_getElem? (i := 2) rfl, zh_seenR hx hz q2⟩
      · exact ⟨_, List.mem_of_getElem? (i := 3) rfl, zh_seenR hx hz q2⟩
      · exact ⟨_, List.mem_of_getElem? (i := 4) rfl, zh_seenR hx hz q2⟩)
theorem zh_wseen_E (pre : List zt_C) (v : Nat) (hd : Nat × Option Nat × Bool × List (Nat × Nat)) : zt_Con zo_Om (zo_Rel v) (hd, (22, ([zjr 0, zt_top], ((1, 6, 0), .negSucc 2147483647, .ofNat 0) :: pre, []), [], [(some (zj (.negSucc 5) (.negSucc 0)), [], [], [])])) zF_X10_whyNotSeen :=
  zh_pure (w0 := zW_M) (G := zo_g22) rfl (by decide +kernel) (fun as M hs hc _ hG => by
    obtain ⟨vs, rfl, h1⟩ := zh_ref hs
    obtain ⟨l1, vs, rfl, h2⟩ := zh_top h1
    obtain rfl := zh_nil h2
    obtain ⟨x, q1, q2⟩ := zh_seenV M.1 M.2 l1 (fun i => zh_ga hG (n := 2) (b := (.ofNat 0, .ofNat 60)) rfl i) (hG 7 _ rfl 5 (.ofNat 0, .ofNat 5) rfl)
    have h6 : Int.negSucc 2147483647 ≤ (M.1 6 0).toInt ∧ (M.1 6 0).toInt ≤ 0 := hc _ List.mem_cons_self
    refine ⟨_, q1, ?_⟩
    rcases q2 with q2 | ⟨-, hb, -⟩
    · exact ⟨_, List.mem_cons_self, zh_res q2.1 q2.2⟩
    · omega)
section ZHT
variable {I : Nat → Nat → Int32} {J : Nat → Nat → Int64} {l1 : Int32} {z : Nat}
theorem zh_l2i {x : Int64} {lo hi : Int} (h1 : lo ≤ x.toInt) (h2 : x.toInt ≤ hi) (h3 : -2147483648 ≤ lo) (h4 : hi ≤ 2147483647) : (Int64.toInt32 x).toInt = x.toInt := by
  rw [Int64.toInt_toInt32]
  exact zt_bmI (by omega) (by omega)
theorem zh_is2 (hz : l1.toInt = z) (h4 : z < 4) (hm : 0 ≤ (I 2 z).toInt ∧ (I 2 z).toInt ≤ 60) (hs : zo_see 2 z 3 (60 * z) (I, J)) : ∀ (n i : Nat) (l3 : Option Value), i % 3 = 0 → i ≤ 60 → 60 - i < n → ∃ x, zv_X10_isSeen_M_2 I J l1 (Int32.ofNat i) l3 = some (some (.int x), (I, J)) ∧ (x = 0 ∨ x = 1) := by
  intro n
  induction n with
  | zero => intro i l3 _ _ h; omega
  | succ n ih =>
    intro i l3 hi3 hi60 hn
    have ecl := zh_cl hz
    have eo : (Int32.ofNat i).toInt = i := zh_of (by omega)
    have h3 : (I 2 z).toInt % 3 = 0 := hs.1
    rw [zq_X10_isSeen_M_2, if_neg (zh_in (by omega) (by omega)), ecl]
    split
    · exact ⟨1, zq_X10_isSeen_M_65 I J l1 _ l3, Or.inr rfl⟩
    · next hle =>
      rw [zh_le, eo] at hle
      have hi57 : i ≤ 57 := by omega
      have ek := zh_k60 hz h4 eo (by omega)
      have ek1 : (60 * l1 + Int32.ofNat i + 1).toInt = (60 * z + (i + 1) : Nat) := by rw [zh_add (by rw [zh_p1]; omega) (by rw [zh_p1]; omega), ek, zh_p1]; omega
      have ek2 : (60 * l1 + Int32.ofNat i + 2).toInt = (60 * z + (i + 2) : Nat) := by rw [zh_add (by rw [zh_c2]; omega) (by rw [zh_c2]; omega), ek, zh_c2]; omega
      have c1 := (hs.2 i (by omega) (by show (i : Int) < (I 2 z).toInt; omega)).1 hi3
      have c2 := (hs.2 (i + 1) (by omega) (by show ((i + 1 : Nat) : Int) < (I 2 z).toInt; omega)).2 (by omega)
      dsimp only at c1 c2
      rw [zq_X10_isSeen_M_12, if_neg (zh_in (by omega) (by omega)), if_neg (zh_in (by omega) (by omega)), zh_cl ek, zh_cl ek1]
      have d1 := zh_l2i c1.1 c1.2 (by omega) (by omega)
      have d2 := zh_l2i c2.1 c2.2 (by omega) (by omega)
      have e61 : (61 * Int64.toInt32 (J 3 (60 * z + i))).toInt = 61 * (J 3 (60 * z + i)).toInt := by rw [zh_mul (by rw [zh_c61, d1]; omega) (by rw [zh_c61, d1]; omega), zh_c61, d1]
      have es : (61 * Int64.toInt32 (J 3 (60 * z + i)) + Int64.toInt32 (J 3 (60 * z + (i + 1)))).toInt = 61 * (J 3 (60 * z + i)).toInt + (J 3 (60 * z + (i + 1))).toInt := by rw [zh_add (by rw [e61, d2]; omega) (by rw [e61, d2]; omega), e61, d2]
      rw [if_neg (zh_in (by omega) (by omega)), if_neg (zh_in (by omega) (by omega))]
      split
      · have e3 : Int32.ofNat i + 3 = Int32.ofNat (i + 3) := by
          apply Int32.toInt_inj.mp
          rw [zh_add (by rw [zh_c3]; omega) (by rw [zh_c3]; omega), eo, zh_c3, zh_of (by omega)]
          omega
        rw [zq_X10_isSeen_M_59, e3]
        exact ih (i + 3) _ (by omega) (by omega) (by omega)
      · exact ⟨0, zq_X10_isSeen_M_57 I J l1 _ _, Or.inl rfl⟩
end ZHT
theorem zh_relM (v z : Nat) (h : z < 4) (M : zm_I) : zo_Rel v (7 + z) M = zo_see 2 z 3 (60 * z) M := by
  have hz4 : z = 0 ∨ z = 1 ∨ z = 2 ∨ z = 3 := by omega
  rcases hz4 with rfl | rfl | rfl | rfl <;> rfl
theorem zh_isSeen (z : Nat) (hz : z < 4) (v : Nat) (hd : Nat × Option Nat × Bool × List (Nat × Nat)) : zt_Con zo_Om (zo_Rel v) (hd, (22, ([zjr 0, zj (.ofNat z) (.ofNat z)], [], [7 + z]), [], zh_bool [7 + z])) zF_X10_isSeen :=
  zh_pure (w0 := zW_M) (G := zo_g22) rfl (by decide +kernel) (fun as M hs _ hf hG => by
    obtain ⟨vs, rfl, h1⟩ := zh_ref hs
    obtain ⟨l1, vs, rfl, h2, h3, h4⟩ := zh_int h1
    obtain rfl := zh_nil h4
    have h2 : (z : Int) ≤ l1.toInt := h2
    have h3 : l1.toInt ≤ (z : Int) := h3
    have hr := hf (7 + z) List.mem_cons_self
    rw [zh_relM v z hz] at hr
    obtain ⟨x, q1, q2⟩ := zh_is2 (I := M.1) (J := M.2) (l1 := l1) (z := z) (by omega) hz (zh_ga hG (n := 2) (b := (.ofNat 0, .ofNat 60)) rfl z) hr 100 0 none (by omega) (by omega) (by omega)
    exact ⟨_, (zf_X10_isSeen_M M.1 M.2 l1).trans ((zq_X10_isSeen_M_0 M.1 M.2 l1).trans q1), zh_bools q2 hf⟩)
end
section
/-! CONTRACTS BY HAND: marks and paste of the reference -/
theorem zh_gsx {G : zt_G} {M : zm_I} {I' : Nat → Nat → Int32} {J' : Nat → Nat → Int64} (hG : zt_Gs G M) (h : ∀ n i, I' n i = M.1 n i ∨ ∀ g b, G[n]? = some g → g[i % g.length]? = some b → b.1 ≤ (I' n i).toInt ∧ (I' n i).toInt ≤ b.2) : zt_Gs G (I', J') := by
  intro n g hg i b hb
  rcases h n i with e | e
  · show _ ≤ (I' n i).toInt ∧ (I' n i).toInt ≤ _
    rw [e]
    exact hG n g hg i b hb
  · exact e g b hg hb
def zh_mP (I0 I : Nat → Nat → Int32) : Prop := (∀ n i, ¬ ((n = 28 ∧ i ≤ 9) ∨ (n = 29 ∧ i ≤ 9) ∨ (n = 0 ∧ i = 50)) → I n i = I0 n i) ∧ (∀ i, 0 ≤ (I 29 i).toInt ∧ (I 29 i).toInt ≤ 9) ∧ 0 ≤ (I 0 50).toInt ∧ (I 0 50).toInt ≤ 10
section ZHM
variable {I0 I : Nat → Nat → Int32} {J : Nat → Nat → Int64} {l1 : Int32} {z : Nat}
theorem zh_mP_28 (h : zh_mP I0 I) {c : Nat} (hc : c ≤ 9) (x : Int32) : zh_mP I0 (zm_w I 28 c x) := by
  refine ⟨fun n i hn => ?_, fun i => ?_, ?_⟩
  · rw [zh_w2 I x (by omega)]; exact h.1 n i hn
  · rw [zh_w2 I x (by omega)]; exact h.2.1 i
  · rw [zh_w2 I x (by omega)]; exact h.2.2
theorem zh_mP_50 (h : zh_mP I0 I) {x : Int32} (h0 : 0 ≤ x.toInt) (h1 : x.toInt ≤ 10) : zh_mP I0 (zm_w I 0 50 x) := by
  refine ⟨fun n i hn => ?_, fun i => ?_, ?_⟩
  · rw [zh_w2 I x (by omega)]; exact h.1 n i hn
  · rw [zh_w2 I x (by omega)]; exact h.2.1 i
  · rw [zh_w1]; omega
theorem zh_mP_29 (h : zh_mP I0 I) {c : Nat} (hc : c ≤ 9) {x : Int32} (h0 : 0 ≤ x.toInt) (h1 : x.toInt ≤ 9) : zh_mP I0 (zm_w I 29 c x) := by
  refine ⟨fun n i hn => ?_, fun i => ?_, ?_⟩
  · rw [zh_w2 I x (by omega)]; exact h.1 n i hn
  · by_cases e : i = c
    · subst e; rw [zh_w1]; omega
    · rw [zh_w2 I x (by omega)]; exact h.2.1 i
  · rw [zh_w2 I x (by omega)]; exact h.2.2
def zh_cnt (n : Nat) : Nat := ((List.range 10).filter (fun j => n.testBit j)).length
theorem zh_cnt10 (n : Nat) : zh_cnt n ≤ 10 := by
  have := List.length_filter_le (fun j => n.testBit j) (List.range 10)
  simp at this
  exact this
set_option maxRecDepth 100000 in
theorem zh_bits : ∀ n, n < 1024 → ∀ k, k < 10 → ((Int32.ofNat n >>> (Int32.ofNat k &&& 31)) &&& 1) ≠ 1 → (Int32.ofNat n ||| ((1 : Int32) <<< (Int32.ofNat k &&& 31))) = Int32.ofNat (n + 2 ^ k) ∧ n + 2 ^ k < 1024 ∧ zh_cnt (n + 2 ^ k) = zh_cnt n + 1 := by decide +kernel
theorem zh_isBitV (I : Nat → Nat → Int32) (J : Nat → Nat → Int64) (a b : Int32) : zF_X10_isBit zW_M [.int a, .int b] (I, J) = some (some (.int (if ((a >>> (b &&& 31)) &&& 1) = 1 then 1 else 0)), (I, J)) := by
  rw [zf_X10_isBit_M, zq_X10_isBit_M_0]
  split
  · rw [zq_X10_isBit_M_9, zq_X10_isBit_M_14, if_pos (Or.inr rfl)]
  · rw [zq_X10_isBit_M_13, zq_X10_isBit_M_14, if_pos (Or.inl rfl)]
theorem zh_lm84 : ∀ (f : Nat) (I : Nat → Nat → Int32) (n k : Nat), zh_mP I0 I → n < 1024 → k ≤ 10 → (I 0 50).toInt = zh_cnt n → (10 - zh_cnt n) * 11 + (10 - k) < f → ∃ I', zv_X10_laysMarks_M_84 I J l1 (Int32.ofNat n) (Int32.ofNat k) = some (none, (I', J)) ∧ zh_mP I0 I' := by
  intro f
  induction f with
  | zero => intro I n k _ _ _ _ h; omega
  | succ f ih =>
    intro I n k hI hn hk hc hf
    have ek : (Int32.ofNat k).toInt = k := zh_of (by omega)
    have e10 : (10 : Int32).toInt = 10 := by decide
    rw [zq_X10_laysMarks_M_84]
    split
    · exact ⟨I, zq_X10_laysMarks_M_148 I J l1 _ _, hI⟩
    · next h10 =>
      rw [zh_le, e10, ek] at h10
      have e1 : Int32.ofNat k + 1 = Int32.ofNat (k + 1) := by
        apply Int32.toInt_inj.mp
        rw [zh_add (by rw [zh_p1]; omega) (by rw [zh_p1]; omega), ek, zh_p1, zh_of (by omega)]
        omega
      have k111 : ∃ I', zv_X10_laysMarks_M_111 I J l1 (Int32.ofNat n) (Int32.ofNat k) = some (none, (I', J)) ∧ zh_mP I0 I' := by
        rw [zq_X10_laysMarks_M_111, e1]
        exact ih I n (k + 1) hI hn (by omega) hc (by omega)
      rw [zc_X10_laysMarks_M_90 _ _ _ _ _ (zh_isBitV I J _ _), zq_X10_laysMarks_M_95]
      by_cases hb : ((Int32.ofNat n >>> (Int32.ofNat k &&& 31)) &&& 1) = 1
      · rw [if_pos hb, if_neg (by decide)]
        exact k111
      · rw [if_neg hb, if_pos rfl, zq_X10_laysMarks_M_98, if_neg (zh_in (by omega) (by omega))]
        split
        · obtain ⟨b1, b2, b3⟩ := zh_bits n hn k (by omega) hb
          have hc10 := zh_cnt10 (n + 2 ^ k)
          have hcl : (I 0 50).toNatClampNeg = zh_cnt n := zh_cl hc
          rw [zq_X10_laysMarks_M_117, if_neg (zh_in (by omega) (by omega)), b1, zh_w2 I _ (by omega), hcl]
          have e50 : (I 0 50 + 1).toInt = (zh_cnt n : Int) + 1 := by rw [zh_add (by rw [zh_p1]; omega) (by rw [zh_p1]; omega), hc, zh_p1]
          refine ih _ (n + 2 ^ k) 0 (zh_mP_50 (zh_mP_29 hI (by omega) (by omega) (by omega)) (by omega) (by omega)) b2 (by omega) ?_ (by omega)
          rw [zh_w1, e50]
          omega
        · exact k111
theorem zh_lm23 (hz : l1.toInt = z) (h4 : z < 4) (hm : 0 ≤ (I0 2 z).toInt ∧ (I0 2 z).toInt ≤ 60) (h2 : (I0 2 z).toInt % 2 = 0) (hJ : ∀ j : Nat, j < 60 → (j : Int) < (I0 2 z).toInt → 0 ≤ (J 3 (60 * z + j)).toInt ∧ (J 3 (60 * z + j)).toInt ≤ 9) : ∀ (n i : Nat) (I : Nat → Nat → Int32), zh_mP I0 I → i % 2 = 0 → i ≤ 60 → 60 - i < n → ∃ I', zv_X10_laysMarks_M_23 I J l1 (Int32.ofNat i) = some (none, (I', J)) ∧ zh_mP I0 I' := by
  intro n
  induction n with
  | zero => intro i I _ _ _ h; omega
  | succ n ih =>
    intro i I hI hi2 hi60 hn
    have ecl := zh_cl hz
    have eo : (Int32.ofNat i).toInt = i := zh_of (by omega)
    have em : I 2 z = I0 2 z := hI.1 2 z (by omega)
    rw [zq_X10_laysMarks_M_23, if_neg (zh_in (by omega) (by omega)), ecl, em]
    split
    · rw [zq_X10_laysMarks_M_75]
      exact zh_lm84 1000 _ 0 0 (zh_mP_50 hI (by rw [zh_z0]; omega) (by rw [zh_z0]; omega)) (by omega) (by omega) (by rw [zh_w1, zh_z0]; decide) (by rw [show zh_cnt 0 = 0 by decide]; omega)
    · next hle =>
      rw [zh_le, eo] at hle
      have ek := zh_k60 hz h4 eo (by omega)
      have ek1 : (60 * l1 + Int32.ofNat i + 1).toInt = (60 * z + (i + 1) : Nat) := by rw [zh_add (by rw [zh_p1]; omega) (by rw [zh_p1]; omega), ek, zh_p1]; omega
      have c1 := hJ i (by omega) (by omega)
      have d1 := zh_l2i c1.1 c1.2 (by omega) (by omega)
      have hin := zh_in (x := Int64.toInt32 (J 3 (60 * z + i))) (n := 10) (by omega) (by omega)
      have hcl : (Int64.toInt32 (J 3 (60 * z + i))).toNatClampNeg ≤ 9 := by have := zs_clamp (i := Int64.toInt32 (J 3 (60 * z + i))) (by omega); omega
      rw [zq_X10_laysMarks_M_33, if_neg (zh_in (by omega) (by omega)), zh_cl ek, if_neg hin, if_neg (zh_in (by omega) (by omega)), if_neg hin]
      have e2 : Int32.ofNat i + 2 = Int32.ofNat (i + 2) := by
        apply Int32.toInt_inj.mp
        rw [zh_add (by rw [zh_c2]; omega) (by rw [zh_c2]; omega), eo, zh_c2, zh_of (by omega)]
        omega
      rw [e2]
      exact ih (i + 2) _ (zh_mP_28 hI hcl _) (by omega) (by omega) (by omega)
theorem zh_lm2 (hz : l1.toInt = z) (h4 : z < 4) (hm : 0 ≤ (I0 2 z).toInt ∧ (I0 2 z).toInt ≤ 60) (h2 : (I0 2 z).toInt % 2 = 0) (hJ : ∀ j : Nat, j < 60 → (j : Int) < (I0 2 z).toInt → 0 ≤ (J 3 (60 * z + j)).toInt ∧ (J 3 (60 * z + j)).toInt ≤ 9) : ∀ (n k : Nat) (I : Nat → Nat → Int32), zh_mP I0 I → k ≤ 10 → 10 - k < n → ∃ I', zv_X10_laysMarks_M_2 I J l1 (Int32.ofNat k) = some (none, (I', J)) ∧ zh_mP I0 I' := by
  intro n
  induction n with
  | zero => intro k I _ _ h; omega
  | succ n ih =>
    intro k I hI hk hn
    have ek : (Int32.ofNat k).toInt = k := zh_of (by omega)
    have e10 : (10 : Int32).toInt = 10 := by decide
    rw [zq_X10_laysMarks_M_2]
    split
    · rw [zq_X10_laysMarks_M_21]
      exact zh_lm23 hz h4 hm h2 hJ 100 0 I hI (by omega) (by omega) (by omega)
    · next h10 =>
      rw [zh_le, e10, ek] at h10
      have e1 : Int32.ofNat k + 1 = Int32.ofNat (k + 1) := by
        apply Int32.toInt_inj.mp
        rw [zh_add (by rw [zh_p1]; omega) (by rw [zh_p1]; omega), ek, zh_p1, zh_of (by omega)]
        omega
      rw [zq_X10_laysMarks_M_8, if_neg (zh_in (by omega) (by omega)), zh_cl ek, e1]
      exact ih (k + 1) _ (zh_mP_28 hI (by omega) _) (by omega) (by omega)
theorem zh_wm46 (hP : zh_mP I I) (hz : l1.toInt = z) (h4 : z < 4) (hm : 0 ≤ (I 2 z).toInt ∧ (I 2 z).toInt ≤ 60) (h2 : (I 2 z).toInt % 2 = 0) : ∀ (n i : Nat), i ≤ 60 → 60 - i < n → (∀ j : Nat, j < i → 0 ≤ (J 3 (60 * z + j)).toInt ∧ (J 3 (60 * z + j)).toInt ≤ 9) → ∃ x I', zv_X10_whyNotMarks_M_46 I J l1 (Int32.ofNat i) = some (some (.int x), (I', J)) ∧ (x = -2 ∨ x = 0) ∧ zh_mP I I' := by
  intro n
  induction n with
  | zero => intro i _ h; omega
  | succ n ih =>
    intro i hi60 hn hacc
    have ecl := zh_cl hz
    have eo : (Int32.ofNat i).toInt = i := zh_of (by omega)
    rw [zq_X10_whyNotMarks_M_46, if_neg (zh_in (by omega) (by omega)), ecl]
    split
    · next hle =>
      rw [zh_le, eo] at hle
      obtain ⟨I', q1, q2⟩ := zh_lm2 (I0 := I) (J := J) hz h4 hm h2 (fun j _ hj => hacc j (by omega)) 100 0 I hP (by omega) (by omega)
      rw [zc_X10_whyNotMarks_M_86 _ _ _ _ ((zf_X10_laysMarks_M I J l1).trans ((zq_X10_laysMarks_M_0 I J l1).trans q1))]
      exact ⟨0, I', zq_X10_whyNotMarks_M_91 _ _ _ _, Or.inr rfl, q2⟩
    · next hle =>
      rw [zh_le, eo] at hle
      have ek := zh_k60 hz h4 eo (by omega)
      rw [zq_X10_whyNotMarks_M_56, if_neg (zh_in (by omega) (by omega)), zc_X10_whyNotMarks_M_67 _ _ _ _ _ (zh_inV I J _ _ _), zq_X10_whyNotMarks_M_74]
      split
      · exact ⟨-2, I, zq_X10_whyNotMarks_M_77 I J l1 _, Or.inl rfl, hP⟩
      · next hb =>
        have c := zh_inr_ne hb
        have e0 : (0 : Int64).toInt = 0 := by decide
        have e9 : (9 : Int64).toInt = 9 := by decide
        rw [zh_cl ek, e0, e9] at c
        have e1 : Int32.ofNat i + 1 = Int32.ofNat (i + 1) := by
          apply Int32.toInt_inj.mp
          rw [zh_add (by rw [zh_p1]; omega) (by rw [zh_p1]; omega), eo, zh_p1, zh_of (by omega)]
          omega
        rw [zq_X10_whyNotMarks_M_80, e1]
        refine ih (i + 1) (by omega) (by omega) (fun j hj => ?_)
        by_cases hji : j < i
        · exact hacc j hji
        · have : j = i := by omega
          subst this
          exact c
theorem zh_marksV (hP : zh_mP I I) (hm : ∀ i, 0 ≤ (I 2 i).toInt ∧ (I 2 i).toInt ≤ 60) (l1 : Int32) : ∃ (x : Int32) (I' : Nat → Nat → Int32), zF_X10_whyNotMarks zW_M [.ref 0, .int l1] (I, J) = some (some (.int x), (I', J)) ∧ ((-6 ≤ x.toInt ∧ x.toInt ≤ -1) ∨ x = 0) ∧ zh_mP I I' := by
  have e2 : (-2 : Int32).toInt = -2 := by decide
  have e6 : (-6 : Int32).toInt = -6 := by decide
  have e14 : zv_X10_whyNotMarks_M_14 I J l1 = some (some (.int (-2)), (I, J)) := zq_X10_whyNotMarks_M_14 I J l1
  rw [zf_X10_whyNotMarks_M, zc_X10_whyNotMarks_M_0 _ _ _ (zh_isSlotV I J l1), zq_X10_whyNotMarks_M_4]
  split
  · exact ⟨_, I, e14, Or.inl (by omega), hP⟩
  · next hs =>
    have hs := zh_slot hs
    obtain ⟨z, hz⟩ : ∃ z : Nat, l1.toInt = z := ⟨l1.toInt.toNat, by omega⟩
    have h4 : z < 4 := by omega
    rw [zc_X10_whyNotMarks_M_7 _ _ _ (zh_isBenchV I J), zq_X10_whyNotMarks_M_11]
    by_cases q : I 6 0 ≤ 0
    · rw [if_pos q, if_pos rfl]
      exact ⟨_, I, e14, Or.inl (by omega), hP⟩
    · rw [if_neg q, if_neg (by decide), zq_X10_whyNotMarks_M_17, if_neg (zh_in (by omega) (by omega))]
      split
      · exact ⟨_, I, zq_X10_whyNotMarks_M_27 I J l1, Or.inl (by omega), hP⟩
      · rw [zq_X10_whyNotMarks_M_30, if_neg (zh_in (by omega) (by omega)), zh_cl hz]
        split
        · next h3 =>
          rw [zq_X10_whyNotMarks_M_44]
          obtain ⟨x, I', q1, q2, q3⟩ := zh_wm46 (J := J) hP hz h4 (hm z) (zh_two (hm z).1 h3) 100 0 (by omega) (by omega) (fun j hj => by omega)
          refine ⟨x, I', q1, ?_, q3⟩
          rcases q2 with rfl | rfl
          · exact Or.inl (by omega)
          · exact Or.inr rfl
        · exact ⟨_, I, zq_X10_whyNotMarks_M_41 I J l1, Or.inl (by omega), hP⟩
end ZHM
theorem zh_marks (pre : List zt_C) (v : Nat) (hd : Nat × Option Nat × Bool × List (Nat × Nat)) : zt_Con zo_Om (zo_Rel v) (hd, (22, ([zjr 0, zt_top], pre, []), [(0, 50, 50), (28, 0, 9), (29, 0, 9)], [(some (zj (.negSucc 5) (.negSucc 0)), [], [], []), (some (zj (.ofNat 0) (.ofNat 0)), [], [], [])])) zF_X10_whyNotMarks :=
  zh_con (w0 := zW_M) (G := zo_g22) rfl (by decide +kernel) (fun as M hs _ _ hG => by
    obtain ⟨vs, rfl, h1⟩ := zh_ref hs
    obtain ⟨l1, vs, rfl, h2⟩ := zh_top h1
    obtain rfl := zh_nil h2
    have hP : zh_mP M.1 M.1 := ⟨fun _ _ _ => rfl, fun i => zh_ga hG (n := 29) (b := (.ofNat 0, .ofNat 9)) rfl i, hG 0 _ rfl 50 (.ofNat 0, .ofNat 10) rfl⟩
    obtain ⟨x, I', q1, q2, q3⟩ := zh_marksV (J := M.2) hP (fun i => zh_ga hG (n := 2) (b := (.ofNat 0, .ofNat 60)) rfl i) l1
    refine ⟨_, (I', M.2), q1, zh_gsx hG (fun n i => ?_), fun n i hh => ⟨q3.1 n i (fun c => ?_), rfl⟩, ?_⟩
    · by_cases c : (n = 28 ∧ i ≤ 9) ∨ (n = 29 ∧ i ≤ 9) ∨ (n = 0 ∧ i = 50)
      · right
        intro g b hg hb
        rcases c with ⟨rfl, c⟩ | ⟨rfl, c⟩ | ⟨rfl, rfl⟩
        · rw [show zo_g22[28]? = some [(Int.negSucc 2147483647, Int.ofNat 2147483647)] from rfl] at hg
          cases hg
          simp [Nat.mod_one] at hb
          subst hb
          exact zt_rgI _
        · rw [show zo_g22[29]? = some [(Int.ofNat 0, Int.ofNat 9)] from rfl] at hg
          cases hg
          simp [Nat.mod_one] at hb
          subst hb
          exact q3.2.1 i
        · rw [show zo_g22[0]? = some (zo_g22.getD 0 []) from rfl] at hg
          cases hg
          have hb : some ((Int.ofNat 0, Int.ofNat 10) : Int × Int) = some b := hb
          cases hb
          exact q3.2.2
      · exact Or.inl (q3.1 n i c)
    · have : zt_hit [(0, 50, 50), (28, 0, 9), (29, 0, 9)] n i = true := by
        rcases c with ⟨rfl, c⟩ | ⟨rfl, c⟩ | ⟨rfl, rfl⟩
        · simp [zt_hit]; omega
        · simp [zt_hit]; omega
        · rfl
      rw [this] at hh
      cases hh
    · rcases q2 with q2 | rfl
      · exact ⟨_, List.mem_cons_self, zh_res q2.1 q2.2⟩
      · exact ⟨_, List.mem_of_getElem? (i := 1) rfl, zh_res (by decide) (by decide)⟩)
/-- paste -/
def zh_pJ (J0 J : Nat → Nat → Int64) : Prop := ∀ n i, ¬ ((n = 3 ∧ i ≤ 239) ∨ (n = 4 ∧ i ≤ 59)) → J n i = J0 n i
theorem zh_pJ_w {J0 J : Nat → Nat → Int64} (h : zh_pJ J0 J) {n i : Nat} (hn : (n = 3 ∧ i ≤ 239) ∨ (n = 4 ∧ i ≤ 59)) (x : Int64) : zh_pJ J0 (zm_wl J n i x) := by
  intro a b hab
  unfold zm_wl
  rw [if_neg (fun e => hab (by rw [e.1, e.2]; exact hn))]
  exact h a b hab
section ZHQ
variable {I : Nat → Nat → Int32} {J0 : Nat → Nat → Int64} {l1 l2 l3 l4 l5 : Int32} {z y i k n : Nat}
theorem zh_k3 {a b c : Int32} {z i x : Nat} (hz : a.toInt = z) (h4 : z < 4) (hi : b.toInt = i) (h60 : i ≤ 60) (hx : c.toInt = x) (hxx : i + x < 60) : (60 * a + b + c).toInt = (60 * z + i + x : Nat) := by
  have e1 : (60 * a).toInt = 60 * z := by rw [zh_mul (by rw [zh_c60]; omega) (by rw [zh_c60]; omega), zh_c60, hz]
  have e2 : (60 * a + b).toInt = 60 * z + i := by rw [zh_add (by omega) (by omega), e1, hi]
  rw [zh_add (by omega) (by omega), e2, hx]
  omega
theorem zh_pm155 (hy : l3.toInt = y) (hy4 : y < 4) (hk : l4.toInt = k) (hn : l5.toInt = n) (hkn : k + n ≤ 60) : ∀ (f x : Nat) (J : Nat → Nat → Int64), zh_pJ J0 J → x ≤ n → n - x < f → ∃ J', zv_X10_paste_M_155 I J l1 l2 l3 l4 l5 (Int32.ofNat x) = some (some (.int 0), (I, J')) ∧ zh_pJ J0 J' := by
  intro f
  induction f with
  | zero => intro x J _ _ h; omega
  | succ f ih =>
    intro x J hJ hx hf
    have eo : (Int32.ofNat x).toInt = x := zh_of (by omega)
    rw [zq_X10_paste_M_155]
    split
    · exact ⟨J, zq_X10_paste_M_190 I J l1 l2 l3 l4 l5 _, hJ⟩
    · next hle =>
      rw [zh_le, eo] at hle
      have ek := zh_k3 hy hy4 hk (by omega) eo (by omega)
      rw [zq_X10_paste_M_162, if_neg (zh_in (by omega) (by omega)), if_neg (zh_in (by omega) (by omega)), zh_cl ek]
      have e1 : Int32.ofNat x + 1 = Int32.ofNat (x + 1) := by
        apply Int32.toInt_inj.mp
        rw [zh_add (by rw [zh_p1]; omega) (by rw [zh_p1]; omega), eo, zh_p1, zh_of (by omega)]
        omega
      rw [e1]
      exact ih (x + 1) _ (zh_pJ_w hJ (by omega) _) (by omega) (by omega)
theorem zh_pm118 (hz : l1.toInt = z) (hz4 : z < 4) (hi : l2.toInt = i) (hy : l3.toInt = y) (hy4 : y < 4) (hk : l4.toInt = k) (hn : l5.toInt = n) (hin : i + n ≤ 60) (hkn : k + n ≤ 60) : ∀ (f x : Nat) (J : Nat → Nat → Int64), zh_pJ J0 J → x ≤ n → n - x < f → ∃ J', zv_X10_paste_M_118 I J l1 l2 l3 l4 l5 (Int32.ofNat x) = some (some (.int 0), (I, J')) ∧ zh_pJ J0 J' := by
  intro f
  induction f with
  | zero => intro x J _ _ h; omega
  | succ f ih =>
    intro x J hJ hx hf
    have eo : (Int32.ofNat x).toInt = x := zh_of (by omega)
    rw [zq_X10_paste_M_118]
    split
    · rw [zq_X10_paste_M_152]
      exact zh_pm155 hy hy4 hk hn hkn 100 0 J hJ (by omega) (by omega)
    · next hle =>
      rw [zh_le, eo] at hle
      have ek := zh_k3 hz hz4 hi (by omega) eo (by omega)
      rw [zq_X10_paste_M_125, if_neg (zh_in (by omega) (by omega)), if_neg (zh_in (by omega) (by omega)), zh_cl eo]
      have e1 : Int32.ofNat x + 1 = Int32.ofNat (x + 1) := by
        apply Int32.toInt_inj.mp
        rw [zh_add (by rw [zh_p1]; omega) (by rw [zh_p1]; omega), eo, zh_p1, zh_of (by omega)]
        omega
      rw [e1]
      exact ih (x + 1) _ (zh_pJ_w hJ (by omega) _) (by omega) (by omega)
theorem zh_ladd {a b : Int32} (h : 0 ≤ a.toInt) (h' : 0 ≤ b.toInt) : (Int32.toInt64 a + Int32.toInt64 b).toInt = a.toInt + b.toInt := by
  have h1 := zt_rgI a
  have h2 := zt_rgI b
  rw [Int64.toInt_add, Int32.toInt_toInt64, Int32.toInt_toInt64]
  exact zt_bmL (by omega) (by omega)
theorem zh_pasteV (J : Nat → Nat → Int64) (hm : ∀ i, 0 ≤ (I 2 i).toInt ∧ (I 2 i).toInt ≤ 60) : ∃ (x : Int32) (J' : Nat → Nat → Int64), zF_X10_paste zW_M [.ref 0, .int l1, .int l2, .int l3, .int l4, .int l5] (I, J) = some (some (.int x), (zm_w I 0 0 0, J')) ∧ (-8 ≤ x.toInt ∧ x.toInt ≤ 0) ∧ zh_pJ J J' := by
  have e2 : (-2 : Int32).toInt = -2 := by decide
  have e6 : (-6 : Int32).toInt = -6 := by decide
  have e7 : (-7 : Int32).toInt = -7 := by decide
  have e8 : (-8 : Int32).toInt = -8 := by decide
  have hJ : zh_pJ J J := fun _ _ _ => rfl
  have hm' : ∀ i, 0 ≤ ((zm_w I 0 0 0) 2 i).toInt ∧ ((zm_w I 0 0 0) 2 i).toInt ≤ 60 := fun i => by rw [zh_w2 I _ (by omega)]; exact hm i
  rw [zf_X10_paste_M, zc_X10_paste_M_0 _ _ _ _ _ _ _ (zh_isSlotV _ J l1)]
  generalize zm_w I 0 0 0 = I at hm'
  have e19 : zv_X10_paste_M_19 I J l1 l2 l3 l4 l5 = some (some (.int (-2)), (I, J)) := zq_X10_paste_M_19 I J l1 l2 l3 l4 l5
  have e42 : zv_X10_paste_M_42 I J l1 l2 l3 l4 l5 = some (some (.int (-6)), (I, J)) := zq_X10_paste_M_42 I J l1 l2 l3 l4 l5
  have e112 : zv_X10_paste_M_112 I J l1 l2 l3 l4 l5 = some (some (.int (-7)), (I, J)) := zq_X10_paste_M_112 I J l1 l2 l3 l4 l5
  rw [zq_X10_paste_M_9]
  split
  · exact ⟨_, J, e19, by omega, hJ⟩
  · next hs =>
    have hs := zh_slot hs
    obtain ⟨z, hz⟩ : ∃ z : Nat, l1.toInt = z := ⟨l1.toInt.toNat, by omega⟩
    rw [zc_X10_paste_M_12 _ _ _ _ _ _ _ (zh_isSlotV _ J l3), zq_X10_paste_M_16]
    split
    · exact ⟨_, J, e19, by omega, hJ⟩
    · next hs3 =>
      have hs3 := zh_slot hs3
      obtain ⟨y, hy⟩ : ∃ y : Nat, l3.toInt = y := ⟨l3.toInt.toNat, by omega⟩
      have i1 := zh_in (x := l1) (n := 4) (by omega) (by omega)
      have i3 := zh_in (x := l3) (n := 4) (by omega) (by omega)
      rw [zq_X10_paste_M_22, if_neg i1]
      split
      · exact ⟨_, J, e42, by omega, hJ⟩
      · rw [zq_X10_paste_M_32, if_neg i3]
        split
        · exact ⟨_, J, e42, by omega, hJ⟩
        · rw [zq_X10_paste_M_45, if_neg i1, if_neg i3]
          split
          · rw [zq_X10_paste_M_63]
            split
            · exact ⟨_, J, e112, by omega, hJ⟩
            · next h2 =>
              rw [zh_lt, zh_z0] at h2
              rw [zq_X10_paste_M_67]
              split
              · exact ⟨_, J, e112, by omega, hJ⟩
              · next h4 =>
                rw [zh_lt, zh_z0] at h4
                rw [zq_X10_paste_M_72]
                split
                · exact ⟨_, J, e112, by omega, hJ⟩
                · next h5 =>
                  rw [zh_lt, zh_z0] at h5
                  rw [zq_X10_paste_M_77, if_neg i1]
                  split
                  · exact ⟨_, J, e112, by omega, hJ⟩
                  · next hc1 =>
                    rw [zh_cmp_gt, Int64.lt_iff_toInt_lt, zh_ladd (by omega) (by omega), Int32.toInt_toInt64, zh_cl hz] at hc1
                    have m1 := hm' z
                    rw [zq_X10_paste_M_94, if_neg i3]
                    split
                    · next hc2 =>
                      have hc2 : ¬ (0 < lg_cmp (Int32.toInt64 l4 + Int32.toInt64 l5) (Int32.toInt64 (I 2 (Int32.toNatClampNeg l3)))) := Int32.not_lt.mpr hc2
                      rw [zh_cmp_gt, Int64.lt_iff_toInt_lt, zh_ladd (by omega) (by omega), Int32.toInt_toInt64, zh_cl hy] at hc2
                      have m2 := hm' y
                      rw [zq_X10_paste_M_115]
                      obtain ⟨J', q1, q2⟩ := zh_pm118 (I := I) (J0 := J) (l1 := l1) (l2 := l2) (l3 := l3) (l4 := l4) (l5 := l5) (z := z) (y := y) (i := l2.toInt.toNat) (k := l4.toInt.toNat) (n := l5.toInt.toNat) hz (by omega) (by omega) hy (by omega) (by omega) (by omega) (by omega) (by omega) 100 0 J hJ (by omega) (by omega)
                      exact ⟨0, J', q1, by rw [zh_z0]; omega, q2⟩
                    · exact ⟨_, J, e112, by omega, hJ⟩
          · exact ⟨_, J, zq_X10_paste_M_60 I J l1 l2 l3 l4 l5, by omega, hJ⟩
end ZHQ
theorem zh_pasteM (v : Nat) (hd : Nat × Option Nat × Bool × List (Nat × Nat)) : zt_Con zo_Om (zo_Rel v) (hd, (22, ([zjr 0, zt_top, zt_top, zt_top, zt_top, zt_top], [], []), [(0, 0, 0), (3, 0, 239), (4, 0, 59)], [(some (zj (.negSucc 7) (.ofNat 0)), [], [], [])])) zF_X10_paste :=
  zh_con (w0 := zW_M) (G := zo_g22) rfl (by decide +kernel) (fun as M hs _ _ hG => by
    obtain ⟨vs, rfl, h1⟩ := zh_ref hs
    obtain ⟨l1, vs, rfl, h2⟩ := zh_top h1
    obtain ⟨l2, vs, rfl, h3⟩ := zh_top h2
    obtain ⟨l3, vs, rfl, h4⟩ := zh_top h3
    obtain ⟨l4, vs, rfl, h5⟩ := zh_top h4
    obtain ⟨l5, vs, rfl, h6⟩ := zh_top h5
    obtain rfl := zh_nil h6
    obtain ⟨x, J', q1, q2, q3⟩ := zh_pasteV (I := M.1) (l1 := l1) (l2 := l2) (l3 := l3) (l4 := l4) (l5 := l5) M.2 (fun i => zh_ga hG (n := 2) (b := (.ofNat 0, .ofNat 60)) rfl i)
    refine ⟨_, (zm_w M.1 0 0 0, J'), q1, zh_gsx hG (fun n i => ?_), fun n i hh => ?_, _, List.mem_cons_self, zh_res q2.1 q2.2⟩
    · by_cases c : n = 0 ∧ i = 0
      · obtain ⟨rfl, rfl⟩ := c
        right
        intro g b hg hb
        rw [show zo_g22[0]? = some (zo_g22.getD 0 []) from rfl] at hg
        cases hg
        have hb : some ((Int.negSucc 2147483647, Int.ofNat 2147483647) : Int × Int) = some b := hb
        cases hb
        exact zt_rgI _
      · exact Or.inl (zh_w2 _ _ c)
    · have hk : ∀ P : Prop, (P → zt_hit [(0, 0, 0), (3, 0, 239), (4, 0, 59)] n i = true) → ¬ P := fun P hp h => by
        rw [hp h] at hh
        cases hh
      refine ⟨zh_w2 _ _ (hk _ (fun c => by rw [c.1, c.2]; rfl)), q3 n i (hk _ (fun c => ?_))⟩
      rcases c with ⟨rfl, c⟩ | ⟨rfl, c⟩
      · simp [zt_hit]; omega
      · simp [zt_hit]; omega)
end
section
/-! EQUATIONS OF STRETCHES, printed by program (wip/gen/gen24a.py) -/
noncomputable def zv_X5_leastToCut_PR_0 (I : Nat → Nat → Int32) (J : Nat → Nat → Int64) (l1 : Int32) : zm_R := zm_V zT_X5_leastToCut zW_PR (0, [some (.ref 0), some (.int l1), none], [], (I, J))
noncomputable def zv_X5_leastToCut_PR_2 (I : Nat → Nat → Int32) (J : Nat → Nat → Int64) (l1 : Int32) (l2 : Int32) : zm_R := zm_V zT_X5_leastToCut zW_PR (2, [some (.ref 0), some (.int l1), some (.int l2)], [], (I, J))
noncomputable def zv_X5_leastToCut_PR_8 (I : Nat → Nat → Int32) (J : Nat → Nat → Int64) (l1 : Int32) (l2 : Int32) : zm_R := zm_V zT_X5_leastToCut zW_PR (8, [some (.ref 0), some (.int l1), some (.int l2)], [], (I, J))
noncomputable def zv_X5_leastToCut_PR_16 (I : Nat → Nat → Int32) (J : Nat → Nat → Int64) (l1 : Int32) (l2 : Int32) : zm_R := zm_V zT_X5_leastToCut zW_PR (16, [some (.ref 0), some (.int l1), some (.int l2)], [], (I, J))
noncomputable def zv_X5_leastToCut_PR_29 (I : Nat → Nat → Int32) (J : Nat → Nat → Int64) (l1 : Int32) (l2 : Int32) : zm_R := zm_V zT_X5_leastToCut zW_PR (29, [some (.ref 0), some (.int l1), some (.int l2)], [], (I, J))
noncomputable def zv_X5_leastToCut_PR_31 (I : Nat → Nat → Int32) (J : Nat → Nat → Int64) (l1 : Int32) (l2 : Int32) : zm_R := zm_V zT_X5_leastToCut zW_PR (31, [some (.ref 0), some (.int l1), some (.int l2)], [], (I, J))
noncomputable def zv_X5_leastToCut_PR_37 (I : Nat → Nat → Int32) (J : Nat → Nat → Int64) (l1 : Int32) (l2 : Int32) : zm_R := zm_V zT_X5_leastToCut zW_PR (37, [some (.ref 0), some (.int l1), some (.int l2)], [], (I, J))
theorem zq_X5_leastToCut_PR_0 (I : Nat → Nat → Int32) (J : Nat → Nat → Int64) (l1 : Int32) : zv_X5_leastToCut_PR_0 I J l1 = zv_X5_leastToCut_PR_2 I J l1 0 := (zm_V_eq _ _ _).trans ((fun (k : zm_S → zm_R) => (rfl : zm_step zT_X5_leastToCut zW_PR k (0, [some (.ref 0), some (.int l1), none], [], (I, J)) = k (2, [some (.ref 0), some (.int l1), some (.int 0)], [], (I, J)))) (zm_V zT_X5_leastToCut zW_PR))
theorem zq_X5_leastToCut_PR_2 (I : Nat → Nat → Int32) (J : Nat → Nat → Int64) (l1 : Int32) (l2 : Int32) : zv_X5_leastToCut_PR_2 I J l1 l2 = if 10 ≤ l2 then zv_X5_leastToCut_PR_37 I J l1 l2 else zv_X5_leastToCut_PR_8 I J l1 l2 := (zm_V_eq _ _ _).trans ((fun (k : zm_S → zm_R) => (rfl : zm_step zT_X5_leastToCut zW_PR k (2, [some (.ref 0), some (.int l1), some (.int l2)], [], (I, J)) = if 10 ≤ l2 then k (37, [some (.ref 0), some (.int l1), some (.int l2)], [], (I, J)) else k (8, [some (.ref 0), some (.int l1), some (.int l2)], [], (I, J)))) (zm_V zT_X5_leastToCut zW_PR))
theorem zq_X5_leastToCut_PR_8 (I : Nat → Nat → Int32) (J : Nat → Nat → Int64) (l1 : Int32) (l2 : Int32) : zv_X5_leastToCut_PR_8 I J l1 l2 = if (((Int32.toUInt32 l1 >>> (Int32.toUInt32 l2 &&& Int32.toUInt32 31)).toInt32) &&& 1) = 0 then zv_X5_leastToCut_PR_16 I J l1 l2 else zv_X5_leastToCut_PR_31 I J l1 l2 := (zm_V_eq _ _ _).trans ((fun (k : zm_S → zm_R) => (rfl : zm_step zT_X5_leastToCut zW_PR k (8, [some (.ref 0), some (.int l1), some (.int l2)], [], (I, J)) = if (((Int32.toUInt32 l1 >>> (Int32.toUInt32 l2 &&& Int32.toUInt32 31)).toInt32) &&& 1) = 0 then k (16, [some (.ref 0), some (.int l1), some (.int l2)], [], (I, J)) else k (31, [some (.ref 0), some (.int l1), some (.int l2)], [], (I, J)))) (zm_V zT_X5_leastToCut zW_PR))
theorem zq_X5_leastToCut_PR_16 (I : Nat → Nat → Int32) (J : Nat → Nat → Int64) (l1 : Int32) (l2 : Int32) : zv_X5_leastToCut_PR_16 I J l1 l2 = if (l2 : Int32) < 0 ∨ 10 ≤ Int32.toNatClampNeg l2 then none else if ((I 2 (Int32.toNatClampNeg l2)) &&& (l1 ^^^ (-1))) = 0 then zv_X5_leastToCut_PR_29 I J l1 l2 else zv_X5_leastToCut_PR_31 I J l1 l2 := (zm_V_eq _ _ _).trans ((fun (k : zm_S → zm_R) => (rfl : zm_step zT_X5_leastToCut zW_PR k (16, [some (.ref 0), some (.int l1), some (.int l2)], [], (I, J)) = if (l2 : Int32) < 0 ∨ 10 ≤ Int32.toNatClampNeg l2 then none else if ((I 2 (Int32.toNatClampNeg l2)) &&& (l1 ^^^ (-1))) = 0 then k (29, [some (.ref 0), some (.int l1), some (.int l2)], [], (I, J)) else k (31, [some (.ref 0), some (.int l1), some (.int l2)], [], (I, J)))) (zm_V zT_X5_leastToCut zW_PR))
theorem zq_X5_leastToCut_PR_29 (I : Nat → Nat → Int32) (J : Nat → Nat → Int64) (l1 : Int32) (l2 : Int32) : zv_X5_leastToCut_PR_29 I J l1 l2 = some (some (.int l2), (I, J)) := (zm_V_eq _ _ _).trans ((fun (k : zm_S → zm_R) => (rfl : zm_step zT_X5_leastToCut zW_PR k (29, [some (.ref 0), some (.int l1), some (.int l2)], [], (I, J)) = some (some (.int l2), (I, J)))) (zm_V zT_X5_leastToCut zW_PR))
theorem zq_X5_leastToCut_PR_31 (I : Nat → Nat → Int32) (J : Nat → Nat → Int64) (l1 : Int32) (l2 : Int32) : zv_X5_leastToCut_PR_31 I J l1 l2 = zv_X5_leastToCut_PR_2 I J l1 (l2 + 1) := (zm_V_eq _ _ _).trans ((fun (k : zm_S → zm_R) => (rfl : zm_step zT_X5_leastToCut zW_PR k (31, [some (.ref 0), some (.int l1), some (.int l2)], [], (I, J)) = k (2, [some (.ref 0), some (.int l1), some (.int (l2 + 1))], [], (I, J)))) (zm_V zT_X5_leastToCut zW_PR))
theorem zq_X5_leastToCut_PR_37 (I : Nat → Nat → Int32) (J : Nat → Nat → Int64) (l1 : Int32) (l2 : Int32) : zv_X5_leastToCut_PR_37 I J l1 l2 = some (some (.int (-1)), (I, J)) := (zm_V_eq _ _ _).trans ((fun (k : zm_S → zm_R) => (rfl : zm_step zT_X5_leastToCut zW_PR k (37, [some (.ref 0), some (.int l1), some (.int l2)], [], (I, J)) = some (some (.int (-1)), (I, J)))) (zm_V zT_X5_leastToCut zW_PR))
theorem zf_X5_leastToCut_PR (I : Nat → Nat → Int32) (J : Nat → Nat → Int64) (l1 : Int32) : zF_X5_leastToCut zW_PR [.ref 0, .int l1] (I, J) = zv_X5_leastToCut_PR_0 I J l1 := rfl
end
section
/-! CONTRACTS BY HAND: rows of the class, paste, sights -/
theorem zi_four {l : Int32} (h0 : ¬ l < 0) (h4 : ¬ 4 ≤ l) : l = 0 ∨ l = 1 ∨ l = 2 ∨ l = 3 := by
  have h0 := Int32.not_lt.mp h0
  have h4 := Int32.not_le.mp h4
  rw [Int32.le_iff_toInt_le] at h0
  rw [Int32.lt_iff_toInt_lt] at h4
  have e0 : (0 : Int32).toInt = 0 := by decide
  have e4 : (4 : Int32).toInt = 4 := by decide
  have h : l.toInt = 0 ∨ l.toInt = 1 ∨ l.toInt = 2 ∨ l.toInt = 3 := by omega
  rcases h with h | h | h | h
  · exact Or.inl (Int32.toInt_inj.mp (h.trans (by decide)))
  · exact Or.inr (Or.inl (Int32.toInt_inj.mp (h.trans (by decide))))
  · exact Or.inr (Or.inr (Or.inl (Int32.toInt_inj.mp (h.trans (by decide)))))
  · exact Or.inr (Or.inr (Or.inr (Int32.toInt_inj.mp (h.trans (by decide)))))
section ZYR
variable {I : Nat → Nat → Int32} {J : Nat → Nat → Int64}
set_option maxRecDepth 20000 in
theorem zgx_rowAt_1 {l : Int32} (h : l < 0) : zF_X9_rowAt zW_X [.ref 0, .int l] (I, J) = some (some .null, (I, J)) := by
  show zm_V zT_X9_rowAt zW_X (0, [some (.ref 0), some (.int l)], [], (I, J)) = _
  refine Eq.trans ((zm_V_eq _ _ _).trans (show zm_step zT_X9_rowAt zW_X (zm_V zT_X9_rowAt zW_X) (0, [some (.ref 0), some (.int l)], [], (I, J)) = if (l : Int32) < 0 then zm_V zT_X9_rowAt zW_X (18, [some (.ref 0), some (.int l)], [], (I, J)) else zm_V zT_X9_rowAt zW_X (4, [some (.ref 0), some (.int l)], [], (I, J)) from rfl)) ?_
  rw [if_pos (h)]
  show zm_V zT_X9_rowAt zW_X (18, [some (.ref 0), some (.int l)], [], (I, J)) = _
  refine Eq.trans ((zm_V_eq _ _ _).trans (show zm_step zT_X9_rowAt zW_X (zm_V zT_X9_rowAt zW_X) (18, [some (.ref 0), some (.int l)], [], (I, J)) = zm_V zT_X9_rowAt zW_X (19, [some (.ref 0), some (.int l)], [.null], (I, J)) from rfl)) ?_
  show zm_V zT_X9_rowAt zW_X (19, [some (.ref 0), some (.int l)], [.null], (I, J)) = _
  refine Eq.trans ((zm_V_eq _ _ _).trans (show zm_step zT_X9_rowAt zW_X (zm_V zT_X9_rowAt zW_X) (19, [some (.ref 0), some (.int l)], [.null], (I, J)) = some (some (.null), (I, J)) from rfl)) ?_
  rfl
set_option maxRecDepth 20000 in
theorem zgx_rowAt_2 {l : Int32} (h0 : ¬ l < 0) (h : 4 ≤ l) : zF_X9_rowAt zW_X [.ref 0, .int l] (I, J) = some (some .null, (I, J)) := by
  show zm_V zT_X9_rowAt zW_X (0, [some (.ref 0), some (.int l)], [], (I, J)) = _
  refine Eq.trans ((zm_V_eq _ _ _).trans (show zm_step zT_X9_rowAt zW_X (zm_V zT_X9_rowAt zW_X) (0, [some (.ref 0), some (.int l)], [], (I, J)) = if (l : Int32) < 0 then zm_V zT_X9_rowAt zW_X (18, [some (.ref 0), some (.int l)], [], (I, J)) else zm_V zT_X9_rowAt zW_X (4, [some (.ref 0), some (.int l)], [], (I, J)) from rfl)) ?_
  rw [if_neg (h0)]
  show zm_V zT_X9_rowAt zW_X (4, [some (.ref 0), some (.int l)], [], (I, J)) = _
  refine Eq.trans ((zm_V_eq _ _ _).trans (show zm_step zT_X9_rowAt zW_X (zm_V zT_X9_rowAt zW_X) (4, [some (.ref 0), some (.int l)], [], (I, J)) = if (4 : Int32) ≤ l then zm_V zT_X9_rowAt zW_X (18, [some (.ref 0), some (.int l)], [], (I, J)) else zm_V zT_X9_rowAt zW_X (9, [some (.ref 0), some (.int l)], [], (I, J)) from rfl)) ?_
  rw [if_pos (h)]
  show zm_V zT_X9_rowAt zW_X (18, [some (.ref 0), some (.int l)], [], (I, J)) = _
  refine Eq.trans ((zm_V_eq _ _ _).trans (show zm_step zT_X9_rowAt zW_X (zm_V zT_X9_rowAt zW_X) (18, [some (.ref 0), some (.int l)], [], (I, J)) = zm_V zT_X9_rowAt zW_X (19, [some (.ref 0), some (.int l)], [.null], (I, J)) from rfl)) ?_
  show zm_V zT_X9_rowAt zW_X (19, [some (.ref 0), some (.int l)], [.null], (I, J)) = _
  refine Eq.trans ((zm_V_eq _ _ _).trans (show zm_step zT_X9_rowAt zW_X (zm_V zT_X9_rowAt zW_X) (19, [some (.ref 0), some (.int l)], [.null], (I, J)) = some (some (.null), (I, J)) from rfl)) ?_
  rfl
theorem zgx_rowAt_n {l : Int32} (h : l < 0 ∨ 4 ≤ l) : zF_X9_rowAt zW_X [.ref 0, .int l] (I, J) = some (some .null, (I, J)) := by
  by_cases h0 : l < 0
  · exact zgx_rowAt_1 h0
  · exact zgx_rowAt_2 h0 (h.resolve_left h0)
set_option maxRecDepth 20000 in
theorem zgx_rowAt_r0 : zF_X9_rowAt zW_X [.ref 0, .int 0] (I, J) = some (some (.ref 54), (I, J)) := by
  show zm_V zT_X9_rowAt zW_X (0, [some (.ref 0), some (.int 0)], [], (I, J)) = _
  refine Eq.trans ((zm_V_eq _ _ _).trans (show zm_step zT_X9_rowAt zW_X (zm_V zT_X9_rowAt zW_X) (0, [some (.ref 0), some (.int 0)], [], (I, J)) = if ((0 : Int32) : Int32) < 0 then zm_V zT_X9_rowAt zW_X (18, [some (.ref 0), some (.int 0)], [], (I, J)) else zm_V zT_X9_rowAt zW_X (4, [some (.ref 0), some (.int 0)], [], (I, J)) from rfl)) ?_
  rw [if_neg (by decide)]
  show zm_V zT_X9_rowAt zW_X (4, [some (.ref 0), some (.int 0)], [], (I, J)) = _
  refine Eq.trans ((zm_V_eq _ _ _).trans (show zm_step zT_X9_rowAt zW_X (zm_V zT_X9_rowAt zW_X) (4, [some (.ref 0), some (.int 0)], [], (I, J)) = if (4 : Int32) ≤ (0 : Int32) then zm_V zT_X9_rowAt zW_X (18, [some (.ref 0), some (.int 0)], [], (I, J)) else zm_V zT_X9_rowAt zW_X (9, [some (.ref 0), some (.int 0)], [], (I, J)) from rfl)) ?_
  rw [if_neg (by decide)]
  show zm_V zT_X9_rowAt zW_X (9, [some (.ref 0), some (.int 0)], [], (I, J)) = _
  refine Eq.trans ((zm_V_eq _ _ _).trans (show zm_step zT_X9_rowAt zW_X (zm_V zT_X9_rowAt zW_X) (9, [some (.ref 0), some (.int 0)], [], (I, J)) = zm_V zT_X9_rowAt zW_X (19, [some (.ref 0), some (.int 0)], [.ref 54], (I, J)) from rfl)) ?_
  show zm_V zT_X9_rowAt zW_X (19, [some (.ref 0), some (.int 0)], [.ref 54], (I, J)) = _
  refine Eq.trans ((zm_V_eq _ _ _).trans (show zm_step zT_X9_rowAt zW_X (zm_V zT_X9_rowAt zW_X) (19, [some (.ref 0), some (.int 0)], [.ref 54], (I, J)) = some (some (.ref 54), (I, J)) from rfl)) ?_
  rfl
set_option maxRecDepth 20000 in
theorem zgx_rowAt_r1 : zF_X9_rowAt zW_X [.ref 0, .int 1] (I, J) = some (some (.ref 56), (I, J)) := by
  show zm_V zT_X9_rowAt zW_X (0, [some (.ref 0), some (.int 1)], [], (I, J)) = _
  refine Eq.trans ((zm_V_eq _ _ _).trans (show zm_step zT_X9_rowAt zW_X (zm_V zT_X9_rowAt zW_X) (0, [some (.ref 0), some (.int 1)], [], (I, J)) = if ((1 : Int32) : Int32) < 0 then zm_V zT_X9_rowAt zW_X (18, [some (.ref 0), some (.int 1)], [], (I, J)) else zm_V zT_X9_rowAt zW_X (4, [some (.ref 0), some (.int 1)], [], (I, J)) from rfl)) ?_
  rw [if_neg (by decide)]
  show zm_V zT_X9_rowAt zW_X (4, [some (.ref 0), some (.int 1)], [], (I, J)) = _
  refine Eq.trans ((zm_V_eq _ _ _).trans (show zm_step zT_X9_rowAt zW_X (zm_V zT_X9_rowAt zW_X) (4, [some (.ref 0), some (.int 1)], [], (I, J)) = if (4 : Int32) ≤ (1 : Int32) then zm_V zT_X9_rowAt zW_X (18, [some (.ref 0), some (.int 1)], [], (I, J)) else zm_V zT_X9_rowAt zW_X (9, [some (.ref 0), some (.int 1)], [], (I, J)) from rfl)) ?_
  rw [if_neg (by decide)]
  show zm_V zT_X9_rowAt zW_X (9, [some (.ref 0), some (.int 1)], [], (I, J)) = _
  refine Eq.trans ((zm_V_eq _ _ _).trans (show zm_step zT_X9_rowAt zW_X (zm_V zT_X9_rowAt zW_X) (9, [some (.ref 0), some (.int 1)], [], (I, J)) = zm_V zT_X9_rowAt zW_X (19, [some (.ref 0), some (.int 1)], [.ref 56], (I, J)) from rfl)) ?_
  show zm_V zT_X9_rowAt zW_X (19, [some (.ref 0), some (.int 1)], [.ref 56], (I, J)) = _
  refine Eq.trans ((zm_V_eq _ _ _).trans (show zm_step zT_X9_rowAt zW_X (zm_V zT_X9_rowAt zW_X) (19, [some (.ref 0), some (.int 1)], [.ref 56], (I, J)) = some (some (.ref 56), (I, J)) from rfl)) ?_
  rfl
set_option maxRecDepth 20000 in
theorem zgx_rowAt_r2 : zF_X9_rowAt zW_X [.ref 0, .int 2] (I, J) = some (some (.ref 58), (I, J)) := by
  show zm_V zT_X9_rowAt zW_X (0, [some (.ref 0), some (.int 2)], [], (I, J)) = _
  refine Eq.trans ((zm_V_eq _ _ _).trans (show zm_step zT_X9_rowAt zW_X (zm_V zT_X9_rowAt zW_X) (0, [some (.ref 0), some (.int 2)], [], (I, J)) = if ((2 : Int32) : Int32) < 0 then zm_V zT_X9_rowAt zW_X (18, [some (.ref 0), some (.int 2)], [], (I, J)) else zm_V zT_X9_rowAt zW_X (4, [some (.ref 0), some (.int 2)], [], (I, J)) from rfl)) ?_
  rw [if_neg (by decide)]
  show zm_V zT_X9_rowAt zW_X (4, [some (.ref 0), some (.int 2)], [], (I, J)) = _
  refine Eq.trans ((zm_V_eq _ _ _).trans (show zm_step zT_X9_rowAt zW_X (zm_V zT_X9_rowAt zW_X) (4, [some (.ref 0), some (.int 2)], [], (I, J)) = if (4 : Int32) ≤ (2 : Int32) then zm_V zT_X9_rowAt zW_X (18, [some (.ref 0), some (.int 2)], [], (I, J)) else zm_V zT_X9_rowAt zW_X (9, [some (.ref 0), some (.int 2)], [], (I, J)) from rfl)) ?_
  rw [if_neg (by decide)]
  show zm_V zT_X9_rowAt zW_X (9, [some (.ref 0), some (.int 2)], [], (I, J)) = _
  refine Eq.trans ((zm_V_eq _ _ _).trans (show zm_step zT_X9_rowAt zW_X (zm_V zT_X9_rowAt zW_X) (9, [some (.ref 0), some (.int 2)], [], (I, J)) = zm_V zT_X9_rowAt zW_X (19, [some (.ref 0), some (.int 2)], [.ref 58], (I, J)) from rfl)) ?_
  show zm_V zT_X9_rowAt zW_X (19, [some (.ref 0), some (.int 2)], [.ref 58], (I, J)) = _
  refine Eq.trans ((zm_V_eq _ _ _).trans (show zm_step zT_X9_rowAt zW_X (zm_V zT_X9_rowAt zW_X) (19, [some (.ref 0), some (.int 2)], [.ref 58], (I, J)) = some (some (.ref 58), (I, J)) from rfl)) ?_
  rfl
set_option maxRecDepth 20000 in
theorem zgx_rowAt_r3 : zF_X9_rowAt zW_X [.ref 0, .int 3] (I, J) = some (some (.ref 60), (I, J)) := by
  show zm_V zT_X9_rowAt zW_X (0, [some (.ref 0), some (.int 3)], [], (I, J)) = _
  refine Eq.trans ((zm_V_eq _ _ _).trans (show zm_step zT_X9_rowAt zW_X (zm_V zT_X9_rowAt zW_X) (0, [some (.ref 0), some (.int 3)], [], (I, J)) = if ((3 : Int32) : Int32) < 0 then zm_V zT_X9_rowAt zW_X (18, [some (.ref 0), some (.int 3)], [], (I, J)) else zm_V zT_X9_rowAt zW_X (4, [some (.ref 0), some (.int 3)], [], (I, J)) from rfl)) ?_
  rw [if_neg (by decide)]
  show zm_V zT_X9_rowAt zW_X (4, [some (.ref 0), some (.int 3)], [], (I, J)) = _
  refine Eq.trans ((zm_V_eq _ _ _).trans (show zm_step zT_X9_rowAt zW_X (zm_V zT_X9_rowAt zW_X) (4, [some (.ref 0), some (.int 3)], [], (I, J)) = if (4 : Int32) ≤ (3 : Int32) then zm_V zT_X9_rowAt zW_X (18, [some (.ref 0), some (.int 3)], [], (I, J)) else zm_V zT_X9_rowAt zW_X (9, [some (.ref 0), some (.int 3)], [], (I, J)) from rfl)) ?_
  rw [if_neg (by decide)]
  show zm_V zT_X9_rowAt zW_X (9, [some (.ref 0), some (.int 3)], [], (I, J)) = _
  refine Eq.trans ((zm_V_eq _ _ _).trans (show zm_step zT_X9_rowAt zW_X (zm_V zT_X9_rowAt zW_X) (9, [some (.ref 0), some (.int 3)], [], (I, J)) = zm_V zT_X9_rowAt zW_X (19, [some (.ref 0), some (.int 3)], [.ref 60], (I, J)) from rfl)) ?_
  show zm_V zT_X9_rowAt zW_X (19, [some (.ref 0), some (.int 3)], [.ref 60], (I, J)) = _
  refine Eq.trans ((zm_V_eq _ _ _).trans (show zm_step zT_X9_rowAt zW_X (zm_V zT_X9_rowAt zW_X) (19, [some (.ref 0), some (.int 3)], [.ref 60], (I, J)) = some (some (.ref 60), (I, J)) from rfl)) ?_
  rfl
theorem zgx_rowAt_r {l : Int32} (h0 : ¬ l < 0) (h4 : ¬ 4 ≤ l) : ∃ hh, (hh = 54 ∨ hh = 56 ∨ hh = 58 ∨ hh = 60) ∧ zF_X9_rowAt zW_X [.ref 0, .int l] (I, J) = some (some (.ref hh), (I, J)) := by
  rcases zi_four h0 h4 with rfl | rfl | rfl | rfl
  · exact ⟨54, by simp, zgx_rowAt_r0⟩
  · exact ⟨56, by simp, zgx_rowAt_r1⟩
  · exact ⟨58, by simp, zgx_rowAt_r2⟩
  · exact ⟨60, by simp, zgx_rowAt_r3⟩
end ZYR
section ZHR
variable {I : Nat → Nat → Int32} {J : Nat → Nat → Int64}
theorem zh_rowAt (l : Int32) : (∃ h, zm_isRow h ∧ zF_X9_rowAt zW_X [.ref 0, .int l] (I, J) = some (some (.ref h), (I, J))) ∨ zF_X9_rowAt zW_X [.ref 0, .int l] (I, J) = some (some .null, (I, J)) := by
  by_cases h0 : l < 0
  · exact Or.inr (zgx_rowAt_n (Or.inl h0))
  · by_cases h4 : 4 ≤ l
    · exact Or.inr (zgx_rowAt_n (Or.inr h4))
    · obtain ⟨h, h1, h2⟩ := zgx_rowAt_r (I := I) (J := J) h0 h4
      exact Or.inl ⟨h, h1, h2⟩
theorem zh_isMadeV (M : zm_I) : ∃ r : Int32, zF_X7_isMade zW_R [.ref 0] M = some (some (.int r), M) := by
  have e : zF_X7_isMade zW_R [.ref 0] M = zv_X7_isMade_R_0 M.1 M.2 := zf_X7_isMade_R M.1 M.2
  rw [e, zq_X7_isMade_R_0]
  split
  · exact ⟨0, by rw [zq_X7_isMade_R_12, zq_X7_isMade_R_13, if_pos (Or.inl rfl)]⟩
  · exact ⟨1, by rw [zq_X7_isMade_R_8, zq_X7_isMade_R_13, if_pos (Or.inr rfl)]⟩
theorem zh_stretchV (M : zm_I) (a b : Int32) (hs : 0 ≤ (M.1 0 1).toInt ∧ (M.1 0 1).toInt ≤ 60) : ∃ r : Int32, zF_X7_hasStretch zW_R [.ref 0, .int a, .int b] M = some (some (.int r), M) ∧ (¬ r = 0 → 0 ≤ a.toInt ∧ 0 ≤ b.toInt ∧ a.toInt + b.toInt ≤ (M.1 0 1).toInt) := by
  have e : zF_X7_hasStretch zW_R [.ref 0, .int a, .int b] M = zv_X7_hasStretch_R_0 M.1 M.2 a b := zf_X7_hasStretch_R M.1 M.2 a b
  have e30 : zv_X7_hasStretch_R_30 M.1 M.2 a b = some (some (.int 0), M) := by rw [zq_X7_hasStretch_R_30, zq_X7_hasStretch_R_31, if_pos (Or.inl rfl)]
  rw [e, zq_X7_hasStretch_R_0]
  split
  · exact ⟨0, e30, fun h => absurd rfl h⟩
  · next h1 =>
    rw [zh_lt, zh_z0] at h1
    rw [zq_X7_hasStretch_R_4]
    split
    · exact ⟨0, e30, fun h => absurd rfl h⟩
    · next h2 =>
      rw [zh_lt, zh_z0] at h2
      rw [zq_X7_hasStretch_R_8]
      split
      · exact ⟨0, e30, fun h => absurd rfl h⟩
      · next h3 =>
        rw [zh_lt] at h3
        rw [zq_X7_hasStretch_R_16]
        split
        · exact ⟨0, e30, fun h => absurd rfl h⟩
        · next h4 =>
          rw [zh_lt, zh_sub (by omega) (by omega)] at h4
          exact ⟨1, by rw [zq_X7_hasStretch_R_26, zq_X7_hasStretch_R_31, if_pos (Or.inr rfl)], fun _ => by omega⟩
theorem zh_sub1 (h i : Nat) : (zm_sub2 [(h, 2)] (I, J)).1 0 i = I h i := rfl
theorem zh_sub2 (h i : Nat) : (zm_sub2 [(h, 2)] (I, J)).2 1 i = J (h + 1) i := rfl
def zh_cJ (h : Nat) (J0 J : Nat → Nat → Int64) : Prop := ∀ n i, ¬ (n = h + 1 ∧ i ≤ 59) → J n i = J0 n i
theorem zh_cJ_w {h : Nat} {J0 J : Nat → Nat → Int64} (hJ : zh_cJ h J0 J) {i : Nat} (hi : i ≤ 59) (x : Int64) : zh_cJ h J0 (zm_wl J (h + 1) i x) := by
  intro a b hab
  unfold zm_wl
  rw [if_neg (fun e => hab ⟨e.1, by omega⟩)]
  exact hJ a b hab
theorem zh_cs8 {h h2 : Nat} (hh : zm_isRow h) (hh2 : zm_isRow h2) {J0 : Nat → Nat → Int64} {l2 l3 l4 : Int32} {i k n : Nat} (hi : l2.toInt = i) (hk : l3.toInt = k) (hn : l4.toInt = n) (h1 : i + n ≤ 60) (h3 : k + n ≤ 60) : ∀ (f x : Nat) (J : Nat → Nat → Int64), zh_cJ h J0 J → x ≤ n → n - x < f → ∃ J', zv_X7_copyStretch_X_8 I J h h2 l2 l3 l4 (Int32.ofNat x) = some (none, (I, J')) ∧ zh_cJ h J0 J' := by
  intro f
  induction f with
  | zero => intro x J _ _ h; omega
  | succ f ih =>
    intro x J hJ hx hf
    have eo : (Int32.ofNat x).toInt = x := zh_of (by omega)
    rw [zq_X7_copyStretch_X_8 _ _ _ _ _ _ _ _ hh hh2]
    split
    · rw [zq_X7_copyStretch_X_39 _ _ _ _ _ _ _ _ hh hh2]
      exact ⟨J, zq_X7_copyStretch_X_77 I J h h2 l2 l3 l4 _ hh hh2, hJ⟩
    · next hle =>
      rw [zh_le, eo] at hle
      have e2 : (l2 + Int32.ofNat x).toInt = (i + x : Nat) := by rw [zh_add (by omega) (by omega), hi, eo]; omega
      have e3 : (l3 + Int32.ofNat x).toInt = (k + x : Nat) := by rw [zh_add (by omega) (by omega), hk, eo]; omega
      rw [zq_X7_copyStretch_X_15 _ _ _ _ _ _ _ _ hh hh2, if_neg (zh_in (by omega) (by omega)), if_neg (zh_in (by omega) (by omega)), zh_cl e3]
      have e1 : Int32.ofNat x + 1 = Int32.ofNat (x + 1) := by
        apply Int32.toInt_inj.mp
        rw [zh_add (by rw [zh_p1]; omega) (by rw [zh_p1]; omega), eo, zh_p1, zh_of (by omega)]
        omega
      rw [e1]
      exact ih (x + 1) _ (zh_cJ_w hJ (by omega) _) (by omega) (by omega)
theorem zh_idx {a b : Int32} {i n : Nat} (ha : a.toInt = i) (hb : 0 ≤ b.toInt) (hl : i + b.toInt < n) (hn : n ≤ 1000) : ¬ ((a + b) < 0 ∨ n ≤ (a + b).toNatClampNeg) ∧ (a + b).toNatClampNeg < n := by
  have e : (a + b).toInt = i + b.toInt := by rw [zh_add (by omega) (by omega), ha]
  have h1 := zs_clamp (i := a + b) (by omega)
  exact ⟨zh_in (by omega) (by omega), by omega⟩
theorem zh_dec {l : Int32} (h : 0 ≤ l.toInt) : (l + (-1)).toInt = l.toInt - 1 := by
  have := zt_rgI l
  rw [zh_add (by rw [zh_m1]; omega) (by rw [zh_m1]; omega), zh_m1]; omega
theorem zh_cs48 {h h2 : Nat} (hh : zm_isRow h) (hh2 : zm_isRow h2) {J0 : Nat → Nat → Int64} {l2 l3 l4 : Int32} {i k n : Nat} (hi : l2.toInt = i) (hk : l3.toInt = k) (h1 : i + n ≤ 60) (h3 : k + n ≤ 60) : ∀ (f : Nat) (l5 : Int32) (J : Nat → Nat → Int64), zh_cJ h J0 J → -1 ≤ l5.toInt → l5.toInt < n → l5.toInt + 1 < f → ∃ J', zv_X7_copyStretch_X_48 I J h h2 l2 l3 l4 l5 = some (none, (I, J')) ∧ zh_cJ h J0 J' := by
  intro f
  induction f with
  | zero => intro l5 J _ _ _ h; omega
  | succ f ih =>
    intro l5 J hJ hx0 hx hf
    rw [zq_X7_copyStretch_X_48 _ _ _ _ _ _ _ _ hh hh2]
    split
    · exact ⟨J, zq_X7_copyStretch_X_77 I J h h2 l2 l3 l4 _ hh hh2, hJ⟩
    · next hle =>
      rw [zh_lt, zh_z0] at hle
      have g2 := zh_idx (n := 60) hi (b := l5) (by omega) (by omega) (by omega)
      have g3 := zh_idx (n := 60) hk (b := l5) (by omega) (by omega) (by omega)
      have em := zh_dec (l := l5) (by omega)
      rw [zq_X7_copyStretch_X_53 _ _ _ _ _ _ _ _ hh hh2, if_neg g2.1, if_neg g3.1]
      refine ih _ _ (zh_cJ_w hJ (Nat.le_of_lt_succ g3.2) _) ?_ ?_ ?_
      · rw [em]; clear em g2 g3; omega
      · rw [em]; clear em g2 g3; omega
      · rw [em]; clear em g2 g3; omega
theorem zh_copyV {h h2 : Nat} (hh : zm_isRow h) (hh2 : zm_isRow h2) (J : Nat → Nat → Int64) {l2 l3 l4 : Int32} (h2' : 0 ≤ l2.toInt) (h3' : 0 ≤ l3.toInt) (h4' : 0 ≤ l4.toInt) (h1 : l2.toInt + l4.toInt ≤ 60) (h3 : l3.toInt + l4.toInt ≤ 60) : ∃ J', zF_X7_copyStretch zW_X [.ref h, .ref h2, .int l2, .int l3, .int l4] (I, J) = some (none, (I, J')) ∧ zh_cJ h J J' := by
  have hJ : zh_cJ h J J := fun _ _ _ => rfl
  rw [zf_X7_copyStretch_X, zq_X7_copyStretch_X_0 _ _ _ _ _ _ _ hh hh2]
  split
  · have e4 : (l4 - 1).toInt = l4.toInt - 1 := by rw [zh_sub (by rw [zh_p1]; omega) (by rw [zh_p1]; omega), zh_p1]
    rw [zq_X7_copyStretch_X_42 _ _ _ _ _ _ _ hh hh2]
    exact zh_cs48 hh hh2 (i := l2.toInt.toNat) (k := l3.toInt.toNat) (n := l4.toInt.toNat) (by omega) (by omega) (by omega) (by omega) 100 _ J hJ (by omega) (by omega) (by omega)
  · rw [zq_X7_copyStretch_X_5 _ _ _ _ _ _ _ hh hh2]
    exact zh_cs8 hh hh2 (i := l2.toInt.toNat) (k := l3.toInt.toNat) (n := l4.toInt.toNat) (by omega) (by omega) (by omega) (by omega) (by omega) 100 0 J hJ (by omega) (by omega)
theorem zh_pasteXV (J : Nat → Nat → Int64) (hs : ∀ h, zm_isRow h → 0 ≤ (I h 1).toInt ∧ (I h 1).toInt ≤ 60) (l1 l2 l3 l4 l5 : Int32) : ∃ (x : Int32) (J' : Nat → Nat → Int64), zF_X9_paste zW_X [.ref 0, .int l1, .int l2, .int l3, .int l4, .int l5] (I, J) = some (some (.int x), (I, J')) ∧ (-8 ≤ x.toInt ∧ x.toInt ≤ 0) ∧ (J' = J ∨ ∃ h, zm_isRow h ∧ zh_cJ h J J') := by
  have e2 : (-2 : Int32).toInt = -2 := by decide
  have e6 : (-6 : Int32).toInt = -6 := by decide
  have e7 : (-7 : Int32).toInt = -7 := by decide
  have e8 : (-8 : Int32).toInt = -8 := by decide
  rcases zh_rowAt (I := I) (J := J) l1 with ⟨h, hh, hr⟩ | hr
  · rcases zh_rowAt (I := I) (J := J) l3 with ⟨h2, hh2, hr2⟩ | hr2
    · rw [zf_X9_paste_X, zc_X9_paste_X_0 _ _ _ _ _ _ _ hr, zc_X9_paste_X_5 _ _ _ _ _ _ _ _ hh hr2, zq_X9_paste_X_12 _ _ _ _ _ _ _ _ _ hh hh2, zq_X9_paste_X_19 _ _ _ _ _ _ _ _ _ hh hh2]
      obtain ⟨r, q⟩ := zh_isMadeV (zm_sub2 [(h, 2)] (I, J))
      rw [zc_X9_paste_X_27 _ _ _ _ _ _ _ _ _ hh hh2 q]
      simp only [zm_mrg_id]
      have e43 := zq_X9_paste_X_43 I J h h2 l1 l2 l3 l4 l5 hh hh2
      rw [zq_X9_paste_X_32 _ _ _ _ _ _ _ _ _ _ hh hh2]
      split
      · exact ⟨_, J, e43, by omega, Or.inl rfl⟩
      · obtain ⟨r2, q2⟩ := zh_isMadeV (zm_sub2 [(h2, 2)] (I, J))
        rw [zc_X9_paste_X_35 _ _ _ _ _ _ _ _ _ hh hh2 q2]
        simp only [zm_mrg_id]
        rw [zq_X9_paste_X_40 _ _ _ _ _ _ _ _ _ _ hh hh2]
        split
        · exact ⟨_, J, e43, by omega, Or.inl rfl⟩
        · rw [zq_X9_paste_X_46 _ _ _ _ _ _ _ _ _ hh hh2]
          split
          · obtain ⟨r3, q3, c3⟩ := zh_stretchV (zm_sub2 [(h, 2)] (I, J)) l2 l5 (hs h hh)
            rw [zc_X9_paste_X_62 _ _ _ _ _ _ _ _ _ hh hh2 q3]
            simp only [zm_mrg_id]
            have e85 := zq_X9_paste_X_85 I J h h2 l1 l2 l3 l4 l5 hh hh2
            rw [zq_X9_paste_X_70 _ _ _ _ _ _ _ _ _ _ hh hh2]
            split
            · exact ⟨_, J, e85, by omega, Or.inl rfl⟩
            · next d3 =>
              obtain ⟨r4, q4, c4⟩ := zh_stretchV (zm_sub2 [(h2, 2)] (I, J)) l4 l5 (hs h2 hh2)
              rw [zc_X9_paste_X_73 _ _ _ _ _ _ _ _ _ hh hh2 q4]
              simp only [zm_mrg_id]
              rw [zq_X9_paste_X_82 _ _ _ _ _ _ _ _ _ _ hh hh2]
              split
              · exact ⟨_, J, e85, by omega, Or.inl rfl⟩
              · next d4 =>
                have c3 := c3 d3
                have c4 := c4 d4
                rw [zh_sub1] at c3 c4
                have m1 := hs h hh
                have m2 := hs h2 hh2
                obtain ⟨J', q5, c5⟩ := zh_copyV (I := I) hh2 hh J (l2 := l2) (l3 := l4) (l4 := l5) (by omega) (by omega) (by omega) (by omega) (by omega)
                rw [zc_X9_paste_X_88 _ _ _ _ _ _ _ _ _ hh hh2 q5]
                exact ⟨0, J', zq_X9_paste_X_100 I J' h h2 l1 l2 l3 l4 l5 hh hh2, by rw [zh_z0]; omega, Or.inr ⟨h2, hh2, c5⟩⟩
          · exact ⟨_, J, zq_X9_paste_X_59 I J h h2 l1 l2 l3 l4 l5 hh hh2, by omega, Or.inl rfl⟩
    · rw [zf_X9_paste_Xrn, zc_X9_paste_Xrn_0 _ _ _ _ _ _ _ hr, zc_X9_paste_Xrn_5 _ _ _ _ _ _ _ _ hh hr2, zq_X9_paste_Xrn_12 _ _ _ _ _ _ _ _ hh, zq_X9_paste_Xrn_19 _ _ _ _ _ _ _ _ hh]
      exact ⟨_, J, zq_X9_paste_Xrn_24 _ _ _ _ _ _ _ _ hh, by omega, Or.inl rfl⟩
  · rcases zh_rowAt (I := I) (J := J) l3 with ⟨h2, hh2, hr2⟩ | hr2
    · rw [zf_X9_paste_Xnr, zc_X9_paste_Xnr_0 _ _ _ _ _ _ _ hr, zc_X9_paste_Xnr_5 _ _ _ _ _ _ _ hr2, zq_X9_paste_Xnr_12 _ _ _ _ _ _ _ _ hh2]
      exact ⟨_, J, zq_X9_paste_Xnr_24 _ _ _ _ _ _ _ _ hh2, by omega, Or.inl rfl⟩
    · rw [zf_X9_paste_Xnn, zc_X9_paste_Xnn_0 _ _ _ _ _ _ _ hr, zc_X9_paste_Xnn_5 _ _ _ _ _ _ _ hr2, zq_X9_paste_Xnn_12]
      exact ⟨_, J, zq_X9_paste_Xnn_24 _ _ _ _ _ _ _, by omega, Or.inl rfl⟩
end ZHR
theorem zh_rowG {M : zm_I} (hG : zt_Gs zo_g1 M) : ∀ h, zm_isRow h → 0 ≤ (M.1 h 1).toInt ∧ (M.1 h 1).toInt ≤ 60 := by
  intro h hh
  rcases hh with rfl | rfl | rfl | rfl
  · exact hG 54 _ rfl 1 (.ofNat 0, .ofNat 60) rfl
  · exact hG 56 _ rfl 1 (.ofNat 0, .ofNat 60) rfl
  · exact hG 58 _ rfl 1 (.ofNat 0, .ofNat 60) rfl
  · exact hG 60 _ rfl 1 (.ofNat 0, .ofNat 60) rfl
theorem zh_gsJ {G : zt_G} {M : zm_I} {J' : Nat → Nat → Int64} (hG : zt_Gs G M) : zt_Gs G (M.1, J') := fun n g hg i b hb => hG n g hg i b hb
theorem zh_pasteX (v : Nat) (hd : Nat × Option Nat × Bool × List (Nat × Nat)) : zt_Con zo_Om (zo_Rel v) (hd, (1, ([zjr 0, zt_top, zt_top, zt_top, zt_top, zt_top], [], []), [(55, 0, 59), (57, 0, 59), (59, 0, 59), (61, 0, 59)], [(some (zj (.negSucc 7) (.ofNat 0)), [], [], [])])) zF_X9_paste :=
  zh_con (w0 := zW_X) (G := zo_g1) rfl (by decide +kernel) (fun as M hs _ _ hG => by
    obtain ⟨vs, rfl, h1⟩ := zh_ref hs
    obtain ⟨l1, vs, rfl, h2⟩ := zh_top h1
    obtain ⟨l2, vs, rfl, h3⟩ := zh_top h2
    obtain ⟨l3, vs, rfl, h4⟩ := zh_top h3
    obtain ⟨l4, vs, rfl, h5⟩ := zh_top h4
    obtain ⟨l5, vs, rfl, h6⟩ := zh_top h5
    obtain rfl := zh_nil h6
    obtain ⟨x, J', q1, q2, q3⟩ := zh_pasteXV (I := M.1) M.2 (zh_rowG hG) l1 l2 l3 l4 l5
    refine ⟨_, (M.1, J'), q1, zh_gsJ hG, fun n i hh => ⟨rfl, ?_⟩, _, List.mem_cons_self, zh_res q2.1 q2.2⟩
    rcases q3 with rfl | ⟨h, hr, q3⟩
    · rfl
    · refine q3 n i (fun c => ?_)
      have : zt_hit [(55, 0, 59), (57, 0, 59), (59, 0, 59), (61, 0, 59)] n i = true := by
        rcases hr with rfl | rfl | rfl | rfl <;> (rw [c.1]; simp [zt_hit]; omega)
      rw [this] at hh
      cases hh)
end
