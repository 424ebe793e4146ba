/-! CONTRACTS BY HAND: turn, isWord -/
theorem zh_gsw {G : zt_G} {M : zm_I} {I' : Nat → Nat → Int32} {J' : Nat → Nat → Int64} (hG : zt_Gs G M) (n0 : Nat) (b : Int × Int) (hn : G[n0]? = some [b]) (h1 : ∀ n i, n ≠ n0 → I' n i = M.1 n i) (h2 : ∀ i, b.1 ≤ (I' n0 i).toInt ∧ (I' n0 i).toInt ≤ b.2) : zt_Gs G (I', J') := by
  intro n g hg i b' hb
  by_cases e : n = n0
  · subst e
    rw [hn] at hg
    cases hg
    simp [Nat.mod_one] at hb
    subst hb
    exact h2 i
  · show _ ≤ (I' n i).toInt ∧ (I' n i).toInt ≤ _
    rw [h1 n i e]
    exact hG n g hg i b' hb
theorem zh_w1 (I : Nat → Nat → Int32) (n i : Nat) (x : Int32) : zm_w I n i x n i = x := by unfold zm_w; rw [if_pos ⟨rfl, rfl⟩]
theorem zh_w2 (I : Nat → Nat → Int32) {n i a b : Nat} (x : Int32) (h : ¬ (a = n ∧ b = i)) : zm_w I n i x a b = I a b := by unfold zm_w; rw [if_neg h]
theorem zh_m1 : (-1 : Int32).toInt = -1 := by decide
theorem zh_p1 : (1 : Int32).toInt = 1 := by decide
theorem zh_z0 : (0 : Int32).toInt = 0 := by decide
theorem zh_lt {a b : Int32} : a < b ↔ a.toInt < b.toInt := Int32.lt_iff_toInt_lt
theorem zh_le {a b : Int32} : a ≤ b ↔ a.toInt ≤ b.toInt := Int32.le_iff_toInt_le
theorem zh_ww (I : Nat → Nat → Int32) (n i : Nat) (x y : Int32) : zm_w (zm_w I n i x) n i y = zm_w I n i y := by
  funext a b
  by_cases h : a = n ∧ b = i
  · rw [h.1, h.2, zh_w1, zh_w1]
  · rw [zh_w2 _ _ h, zh_w2 _ _ h, zh_w2 _ _ h]
def zh_tuP (I0 I : Nat → Nat → Int32) : Prop := (∀ n i, ¬ (n = 8 ∧ i ≤ 4) → I n i = I0 n i) ∧ ∀ i, 0 ≤ (I 8 i).toInt ∧ (I 8 i).toInt ≤ 5
theorem zh_tuP_w {I0 I : Nat → Nat → Int32} (h : zh_tuP I0 I) {c : Nat} (hc : c ≤ 4) {x : Int32} (h0 : 0 ≤ x.toInt) (h5 : x.toInt ≤ 5) : zh_tuP I0 (zm_w I 8 c x) := by
  refine ⟨fun n i hn => ?_, fun i => ?_⟩
  · rw [zh_w2 I x (fun e => hn ⟨e.1, by omega⟩)]
    exact h.1 n i hn
  · by_cases e : i = c
    · subst e
      rw [zh_w1]
      exact ⟨h0, h5⟩
    · rw [zh_w2 I x (fun q => e q.2)]
      exact h.2 i
theorem zh_turn32 {I0 : Nat → Nat → Int32} (J : Nat → Nat → Int64) (ho : ∀ i, 0 ≤ (I0 2 i).toInt ∧ (I0 2 i).toInt ≤ 4) (hse : 0 ≤ (I0 4 5).toInt ∧ (I0 4 5).toInt ≤ 6) (l2 : Int32) : ∀ (n : Nat) (I : Nat → Nat → Int32) (l3 : Int32) (l4 : Option Value), zh_tuP I0 I → -1 ≤ l3.toInt → l3.toInt ≤ 4 → l3.toInt + 1 < n → ∃ x I', zv_X6_turn_LB_32 I J l2 l3 l4 = some (some (.int x), (I', J)) ∧ (x = 0 ∨ x = 1) ∧ zh_tuP I0 I' := by
  intro n
  induction n with
  | zero => intro I l3 l4 hI h1 h2 h3; omega
  | succ n ih =>
    intro I l3 l4 hI h1 h2 h3
    rw [zq_X6_turn_LB_32]
    split
    · exact ⟨0, I, zq_X6_turn_LB_85 I J l2 l3 l4, Or.inl rfl, hI⟩
    · next hn =>
      rw [zh_lt, zh_z0] at hn
      have ec : I 2 (Int32.toNatClampNeg l3) = I0 2 (Int32.toNatClampNeg l3) := hI.1 2 _ (by omega)
      have hc := ho (Int32.toNatClampNeg l3)
      rw [← ec] at hc
      rw [zq_X6_turn_LB_36, if_neg (zh_in (n := 5) (by omega) (by omega))]
      generalize I 2 (Int32.toNatClampNeg l3) = c at hc ⊢
      have hcin := zh_in (x := c) (n := 5) (by omega) (by omega)
      have hcn : c.toNatClampNeg ≤ 4 := by have := zs_clamp (i := c) (by omega); omega
      rw [if_neg hcin, if_neg hcin, if_neg hcin, zh_w1, zh_w2 I _ (by omega : ¬ (4 = 8 ∧ 5 = c.toNatClampNeg))]
      have hs := hI.2 c.toNatClampNeg
      have e1 : (I 8 c.toNatClampNeg + 1).toInt = (I 8 c.toNatClampNeg).toInt + 1 := by rw [zh_add (by rw [zh_p1]; omega) (by rw [zh_p1]; omega), zh_p1]
      have e2 : I 4 5 = I0 4 5 := hI.1 4 5 (by omega)
      split
      · next hle =>
        rw [zq_X6_turn_LB_71, if_neg hcin, zh_ww]
        have e3 : (l3 + (-1)).toInt = l3.toInt - 1 := by rw [zh_add (by rw [zh_m1]; omega) (by rw [zh_m1]; omega), zh_m1]; omega
        exact ih _ _ _ (zh_tuP_w hI hcn (by rw [zh_z0]; omega) (by rw [zh_z0]; omega)) (by omega) (by omega) (by omega)
      · next hle =>
        rw [zh_le, e1, e2] at hle
        exact ⟨1, _, zq_X6_turn_LB_69 _ J l2 l3 c, Or.inr rfl, zh_tuP_w hI hcn (by omega) (by omega)⟩
theorem zh_turn7 {I0 : Nat → Nat → Int32} (J : Nat → Nat → Int64) (ho : ∀ i, 0 ≤ (I0 2 i).toInt ∧ (I0 2 i).toInt ≤ 4) (hse : 0 ≤ (I0 4 5).toInt ∧ (I0 4 5).toInt ≤ 6) (l2 : Int32) (h2 : -1 ≤ l2.toInt) (h24 : l2.toInt ≤ 4) : ∀ (n : Nat) (I : Nat → Nat → Int32) (l3 : Int32), zh_tuP I0 I → -1 ≤ l3.toInt → l3.toInt ≤ 4 → l3.toInt + 1 < n → ∃ x I', zv_X6_turn_LB_7 I J l2 l3 = some (some (.int x), (I', J)) ∧ (x = 0 ∨ x = 1) ∧ zh_tuP I0 I' := by
  intro n
  induction n with
  | zero => intro I l3 hI h1 h3 h4; omega
  | succ n ih =>
    intro I l3 hI h1 h3 h4
    rw [zq_X6_turn_LB_7]
    split
    · rw [zq_X6_turn_LB_30]
      exact zh_turn32 J ho hse l2 10 I l2 none hI h2 h24 (by omega)
    · next hn =>
      rw [zh_le] at hn
      have ec : I 2 (Int32.toNatClampNeg l3) = I0 2 (Int32.toNatClampNeg l3) := hI.1 2 _ (by omega)
      have hc := ho (Int32.toNatClampNeg l3)
      rw [← ec] at hc
      rw [zq_X6_turn_LB_12, if_neg (zh_in (n := 5) (by omega) (by omega))]
      generalize I 2 (Int32.toNatClampNeg l3) = c at hc ⊢
      have hcin := zh_in (x := c) (n := 5) (by omega) (by omega)
      have hcn : c.toNatClampNeg ≤ 4 := by have := zs_clamp (i := c) (by omega); omega
      rw [if_neg hcin]
      have e3 : (l3 + (-1)).toInt = l3.toInt - 1 := by rw [zh_add (by rw [zh_m1]; omega) (by rw [zh_m1]; omega), zh_m1]; omega
      exact ih _ _ (zh_tuP_w hI hcn (by rw [zh_z0]; omega) (by rw [zh_z0]; omega)) (by omega) (by omega) (by omega)
theorem zh_turn (v : Nat) (hd : Nat × Option Nat × Bool × List (Nat × Nat)) : zt_Con zo_Om (zo_Rel v) (hd, (10, ([zjr 0, zjr 4, zj (.negSucc 0) (.ofNat 4)], [], []), [(8, 0, 4)], zh_bool [])) zF_X6_turn :=
  zh_con (w0 := zW_LB) (G := zo_g10) rfl (by decide +kernel) (fun as M hs _ _ hG => by
    obtain ⟨vs, rfl, h1⟩ := zh_ref hs
    obtain ⟨vs, rfl, h2⟩ := zh_ref h1
    obtain ⟨x, vs, rfl, h3, h4, h5⟩ := zh_int h2
    obtain rfl := zh_nil h5
    have h3 : (-1 : Int) ≤ x.toInt := h3
    have h4 : x.toInt ≤ 4 := h4
    have ho : ∀ i, 0 ≤ (M.1 2 i).toInt ∧ (M.1 2 i).toInt ≤ 4 := fun i => zh_ga hG (n := 2) (b := (.ofNat 0, .ofNat 4)) rfl i
    have h8 : ∀ i, 0 ≤ (M.1 8 i).toInt ∧ (M.1 8 i).toInt ≤ 5 := fun i => zh_ga hG (n := 8) (b := (.ofNat 0, .ofNat 5)) rfl i
    have hse : 0 ≤ (M.1 4 5).toInt ∧ (M.1 4 5).toInt ≤ 6 := hG 4 _ rfl 5 (.ofNat 0, .ofNat 6) rfl
    have hca : 0 ≤ (M.1 4 6).toInt ∧ (M.1 4 6).toInt ≤ 5 := hG 4 _ rfl 6 (.ofNat 0, .ofNat 5) rfl
    have e1 : (M.1 4 6 - 1).toInt = (M.1 4 6).toInt - 1 := by rw [zh_sub (by rw [zh_p1]; omega) (by rw [zh_p1]; omega), zh_p1]
    obtain ⟨y, I', q1, q2, q3⟩ := zh_turn7 M.2 ho hse x h3 h4 10 M.1 (M.1 4 6 - 1) ⟨fun _ _ _ => rfl, h8⟩ (by omega) (by omega) (by omega)
    refine ⟨_, (I', M.2), (zf_X6_turn_LB M.1 M.2 x).trans ((zq_X6_turn_LB_0 M.1 M.2 x).trans q1), zh_gsw hG 8 (.ofNat 0, .ofNat 5) rfl (fun n i hn => q3.1 n i (fun e => hn e.1)) q3.2, ?_, zh_bools q2 zh_no⟩
    intro n i hh
    exact ⟨q3.1 n i (fun e => by
      have : zt_hit [(8, 0, 4)] n i = true := by rw [e.1]; simp [zt_hit]; omega
      rw [this] at hh
      cases hh), rfl⟩)
/-- a stretch's equation -/
theorem zh_st {T : zm_T} {wl : zm_L} {S : zm_S} {f : (zm_S → zm_R) → zm_R} (h : ∀ k, zm_step T wl k S = f k) : zm_V T wl S = f (zm_V T wl) := (zm_V_eq T wl S).trans (h _)
section ZHW
variable (I : Nat → Nat → Int32) (J : Nat → Nat → Int64) (k : Nat) (o : Option Value)
def zh_wl (k : Nat) (o : Option Value) : List (Option Value) := [some (.ref 0), some (.retAddr k), o]
noncomputable def zh_wV (pc : Nat) (ls : List (Option Value)) (st : List Value) (M : zm_I) : zm_R := zm_V zT_X8_isWord zW_TB (pc, ls, st, M)
theorem zh_w_0 : zh_wV 0 (zh_wl k o) [] (I, J) = if I 0 4 = 1 then zh_wV 8 (zh_wl k o) [] (I, J) else zh_wV 24 (zh_wl k o) [] (I, J) := zh_st (T := zT_X8_isWord) (wl := zW_TB) (S := (0, (zh_wl k o), [], (I, J))) (f := fun q => if I 0 4 = 1 then q (8, zh_wl k o, [], (I, J)) else q (24, zh_wl k o, [], (I, J))) (fun _ => rfl)
theorem zh_w_8 : zh_wV 8 (zh_wl k o) [] (I, J) = zm_app (1, some 99, true, [], zF_len) zW_TB [Value.retAddr k] (I, J) (fun (v : Option Value) (N : zm_I) => zh_wV 21 (zh_wl k o) (v.toList ++ [Value.int (I 0 6 - I 0 5)]) N) := zh_st (T := zT_X8_isWord) (wl := zW_TB) (S := (8, (zh_wl k o), [], (I, J))) (f := fun q => zm_app (1, some 99, true, [], zF_len) zW_TB [Value.retAddr k] (I, J) (fun (v : Option Value) (N : zm_I) => q (21, zh_wl k o, v.toList ++ [Value.int (I 0 6 - I 0 5)], N))) (fun _ => rfl)
theorem zh_w_21 (a b : Int32) : zh_wV 21 (zh_wl k o) [.int b, .int a] (I, J) = if a = b then zh_wV 26 (zh_wl k o) [] (I, J) else zh_wV 24 (zh_wl k o) [] (I, J) := zh_st (T := zT_X8_isWord) (wl := zW_TB) (S := (21, (zh_wl k o), [.int b, .int a], (I, J))) (f := fun q => if a = b then q (26, zh_wl k o, [], (I, J)) else q (24, zh_wl k o, [], (I, J))) (fun _ => rfl)
theorem zh_w_24 : zh_wV 24 (zh_wl k o) [] (I, J) = some (some (.int 0), (I, J)) := zh_st (T := zT_X8_isWord) (wl := zW_TB) (S := (24, (zh_wl k o), [], (I, J))) (f := fun _ => some (some (.int 0), (I, J))) (fun _ => rfl)
theorem zh_w_26 : zh_wV 26 (zh_wl k o) [] (I, J) = zh_wV 28 (zh_wl k (some (.int 0))) [] (I, J) := zh_st (T := zT_X8_isWord) (wl := zW_TB) (S := (26, (zh_wl k o), [], (I, J))) (f := fun q => q (28, zh_wl k (some (.int 0)), [], (I, J))) (fun _ => rfl)
theorem zh_w_28 (i : Int32) : zh_wV 28 (zh_wl k (some (.int i))) [] (I, J) = zm_app (1, some 99, true, [], zF_len) zW_TB [Value.retAddr k] (I, J) (fun (v : Option Value) (N : zm_I) => zh_wV 33 (zh_wl k (some (.int i))) (v.toList ++ [Value.int i]) N) := zh_st (T := zT_X8_isWord) (wl := zW_TB) (S := (28, (zh_wl k (some (.int i))), [], (I, J))) (f := fun q => zm_app (1, some 99, true, [], zF_len) zW_TB [Value.retAddr k] (I, J) (fun (v : Option Value) (N : zm_I) => q (33, zh_wl k (some (.int i)), v.toList ++ [Value.int i], N))) (fun _ => rfl)
theorem zh_w_33 (a b : Int32) : zh_wV 33 (zh_wl k o) [.int b, .int a] (I, J) = if b ≤ a then zh_wV 63 (zh_wl k o) [] (I, J) else zh_wV 36 (zh_wl k o) [] (I, J) := zh_st (T := zT_X8_isWord) (wl := zW_TB) (S := (33, (zh_wl k o), [.int b, .int a], (I, J))) (f := fun q => if b ≤ a then q (63, zh_wl k o, [], (I, J)) else q (36, zh_wl k o, [], (I, J))) (fun _ => rfl)
theorem zh_w_36 (i : Int32) : zh_wV 36 (zh_wl k (some (.int i))) [] (I, J) = if (I 0 5 + i) < 0 ∨ 800 ≤ (I 0 5 + i).toNatClampNeg then none else zh_wV 47 (zh_wl k (some (.int i))) [.int (I 1 (I 0 5 + i).toNatClampNeg)] (I, J) := zh_st (T := zT_X8_isWord) (wl := zW_TB) (S := (36, zh_wl k (some (.int i)), [], (I, J))) (f := fun q => if (I 0 5 + i) < 0 ∨ 800 ≤ (I 0 5 + i).toNatClampNeg then none else q (47, zh_wl k (some (.int i)), [.int (I 1 (I 0 5 + i).toNatClampNeg)], (I, J))) (fun _ => rfl)
theorem zh_w_47 (i x : Int32) : zh_wV 47 (zh_wl k (some (.int i))) [.int x] (I, J) = zm_app (2, some 99, true, [], zF_cha) zW_TB [Value.retAddr k, Value.int i] (I, J) (fun (v : Option Value) (N : zm_I) => zh_wV 52 (zh_wl k (some (.int i))) (v.toList ++ [Value.int x]) N) := zh_st (T := zT_X8_isWord) (wl := zW_TB) (S := (47, zh_wl k (some (.int i)), [.int x], (I, J))) (f := fun q => zm_app (2, some 99, true, [], zF_cha) zW_TB [Value.retAddr k, Value.int i] (I, J) (fun (v : Option Value) (N : zm_I) => q (52, zh_wl k (some (.int i)), v.toList ++ [Value.int x], N))) (fun _ => rfl)
theorem zh_w_52 (a b : Int32) : zh_wV 52 (zh_wl k o) [.int b, .int a] (I, J) = if a = b then zh_wV 57 (zh_wl k o) [] (I, J) else zh_wV 55 (zh_wl k o) [] (I, J) := zh_st (T := zT_X8_isWord) (wl := zW_TB) (S := (52, (zh_wl k o), [.int b, .int a], (I, J))) (f := fun q => if a = b then q (57, zh_wl k o, [], (I, J)) else q (55, zh_wl k o, [], (I, J))) (fun _ => rfl)
theorem zh_w_55 : zh_wV 55 (zh_wl k o) [] (I, J) = some (some (.int 0), (I, J)) := zh_st (T := zT_X8_isWord) (wl := zW_TB) (S := (55, (zh_wl k o), [], (I, J))) (f := fun _ => some (some (.int 0), (I, J))) (fun _ => rfl)
theorem zh_w_57 (i : Int32) : zh_wV 57 (zh_wl k (some (.int i))) [] (I, J) = zh_wV 28 (zh_wl k (some (.int (i + 1)))) [] (I, J) := zh_st (T := zT_X8_isWord) (wl := zW_TB) (S := (57, (zh_wl k (some (.int i))), [], (I, J))) (f := fun q => q (28, zh_wl k (some (.int (i + 1))), [], (I, J))) (fun _ => rfl)
theorem zh_w_63 : zh_wV 63 (zh_wl k o) [] (I, J) = some (some (.int 1), (I, J)) := zh_st (T := zT_X8_isWord) (wl := zW_TB) (S := (63, (zh_wl k o), [], (I, J))) (f := fun _ => some (some (.int 1), (I, J))) (fun _ => rfl)
variable (hk : k < 13)
theorem zh_recS : k < 13 → zm_recv zW_TB [.retAddr k] (some 99) = true := fun hk => by
  show (Nat.beq 99 99 && Nat.ble (k + 1) 13) = true
  have hk2 : Nat.ble (k + 1) 13 = true := Nat.ble_eq_true_of_le hk
  rw [hk2]; rfl
theorem zh_len1 (hk : k < 13) : zF_len zW_TB [.retAddr k] (I, J) = some (some (.int (Int32.ofNat (zm_slen.getD k 0))), (I, J)) := by
  show (match Nat.ble (k + 1) 13 with
    | true => some (some (Value.int (Int32.ofNat (zm_slen.getD k 0))), (I, J))
    | false => none) = _
  have hk2 : Nat.ble (k + 1) 13 = true := Nat.ble_eq_true_of_le hk
  rw [hk2]
theorem zh_cha1 (hk : k < 13) (i : Int32) (h : ¬ (i < 0 ∨ zm_slen.getD k 0 ≤ i.toNatClampNeg)) : zF_cha zW_TB [.retAddr k, .int i] (I, J) = some (some (.int ((zm_sbyt.getD k []).getD i.toNatClampNeg 0)), (I, J)) := by
  show (match Nat.ble (k + 1) 13 with
    | true => if i < 0 ∨ zm_slen.getD k 0 ≤ i.toNatClampNeg then none else some (some (Value.int ((zm_sbyt.getD k []).getD i.toNatClampNeg 0)), (I, J))
    | false => none) = _
  have hk2 : Nat.ble (k + 1) 13 = true := Nat.ble_eq_true_of_le hk
  rw [hk2]
  dsimp only
  rw [if_neg h]
theorem zh_word28 (hk : k < 13) (h5 : 0 ≤ (I 0 5).toInt) (h6 : (I 0 5).toInt + (zm_slen.getD k 0 : Nat) ≤ 800) : ∀ (d i : Nat), i + d = zm_slen.getD k 0 → ∃ x, zh_wV 28 (zh_wl k (some (.int (Int32.ofNat i)))) [] (I, J) = some (some (.int x), (I, J)) ∧ (x = 0 ∨ x = 1) := by
  have hL := zs_small k hk
  intro d
  induction d with
  | zero =>
    intro i hi
    refine ⟨1, ?_, Or.inr rfl⟩
    rw [zh_w_28, zm_app_s (zh_recS k hk) rfl (zh_len1 I J k hk)]
    show zh_wV 33 _ [.int _, .int _] _ = _
    rw [zh_w_33, if_pos (by rw [zh_le, zh_of (by omega), zh_of (by omega)]; omega), zh_w_63]
  | succ d ih =>
    intro i hi
    rw [zh_w_28, zm_app_s (zh_recS k hk) rfl (zh_len1 I J k hk)]
    have eo : (Int32.ofNat i).toInt = i := zh_of (by omega)
    have ec : (Int32.ofNat i).toNatClampNeg = i := by have := zs_clamp (i := Int32.ofNat i) (by omega); omega
    have e5 : (I 0 5 + Int32.ofNat i).toInt = (I 0 5).toInt + i := by rw [zh_add (by omega) (by omega), eo]
    have e1 : Int32.ofNat i + 1 = Int32.ofNat (i + 1) := by
      apply Int32.toInt_inj.mp
      rw [zh_add (by rw [zh_p1]; omega) (by rw [zh_p1]; omega), zh_of (by omega), zh_of (by omega), zh_p1]
      omega
    obtain ⟨x, hx, hx2⟩ := ih (i + 1) (by omega)
    have goal : ∃ x, zh_wV 33 (zh_wl k (some (.int (Int32.ofNat i)))) [.int (Int32.ofNat (zm_slen.getD k 0)), .int (Int32.ofNat i)] (I, J) = some (some (.int x), (I, J)) ∧ (x = 0 ∨ x = 1) := by
      rw [zh_w_33, if_neg (by rw [zh_le, zh_of (by omega), eo]; omega), zh_w_36, if_neg (zh_in (by omega) (by omega)), zh_w_47]
      have hci : ¬ (Int32.ofNat i < 0 ∨ zm_slen.getD k 0 ≤ (Int32.ofNat i).toNatClampNeg) := by
        rw [ec, zh_lt, eo, zh_z0]
        omega
      rw [zm_app_s (show zm_recv zW_TB [.retAddr k, .int (Int32.ofNat i)] (some 99) = true from zh_recS k hk) rfl (zh_cha1 I J k hk _ hci)]
      have goal2 : ∀ a b : Int32, ∃ x, zh_wV 52 (zh_wl k (some (.int (Int32.ofNat i)))) [.int b, .int a] (I, J) = some (some (.int x), (I, J)) ∧ (x = 0 ∨ x = 1) := by
        intro a b
        rw [zh_w_52]
        split
        · rw [zh_w_57, e1]
          exact ⟨x, hx, hx2⟩
        · exact ⟨0, zh_w_55 I J k _, Or.inl rfl⟩
      exact goal2 _ _
    exact goal
theorem zh_wordV (hk : k < 13) (h5 : 0 ≤ (I 0 5).toInt) (h5' : (I 0 5).toInt ≤ 800) (h6 : 0 ≤ (I 0 6).toInt) (h6' : (I 0 6).toInt ≤ 800) : ∃ x, zh_wV 0 (zh_wl k none) [] (I, J) = some (some (.int x), (I, J)) ∧ (x = 0 ∨ x = 1) := by
  have hL := zs_small k hk
  rw [zh_w_0]
  split
  · rw [zh_w_8, zm_app_s (zh_recS k hk) rfl (zh_len1 I J k hk)]
    have goal : ∃ x, zh_wV 21 (zh_wl k none) [.int (Int32.ofNat (zm_slen.getD k 0)), .int (I 0 6 - I 0 5)] (I, J) = some (some (.int x), (I, J)) ∧ (x = 0 ∨ x = 1) := by
      rw [zh_w_21]
      split
      · next he =>
        have e := congrArg Int32.toInt he
        rw [zh_sub (by omega) (by omega), zh_of (by omega)] at e
        rw [zh_w_26]
        exact zh_word28 I J k hk h5 (by omega) _ 0 (Nat.zero_add _)
      · exact ⟨0, zh_w_24 I J k none, Or.inl rfl⟩
    exact goal
  · exact ⟨0, zh_w_24 I J k none, Or.inl rfl⟩
end ZHW
theorem zh_isWord (k : Nat) (hk : k < 13) (v : Nat) (hd : Nat × Option Nat × Bool × List (Nat × Nat)) : zt_Con zo_Om (zo_Rel v) (hd, (3, ([zjr 0, (4, .ofNat k, .ofNat 0, 0, [])], [], []), [], zh_bool [])) zF_X8_isWord :=
  zh_pure (w0 := zW_TB) (G := zo_g3) rfl (by decide +kernel) (fun as M hs _ _ hG => by
    obtain ⟨vs, rfl, h1⟩ := zh_ref hs
    obtain ⟨vs, rfl, h2⟩ := zh_txt h1
    obtain rfl := zh_nil h2
    have h5 : 0 ≤ (M.1 0 5).toInt ∧ (M.1 0 5).toInt ≤ 800 := hG 0 _ rfl 5 (.ofNat 0, .ofNat 800) rfl
    have h6 : 0 ≤ (M.1 0 6).toInt ∧ (M.1 0 6).toInt ≤ 800 := hG 0 _ rfl 6 (.ofNat 0, .ofNat 800) rfl
    obtain ⟨x, q1, q2⟩ := zh_wordV M.1 M.2 k hk h5.1 h5.2 h6.1 h6.2
    exact ⟨_, q1, zh_bools q2 zh_no⟩)
