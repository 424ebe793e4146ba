/-! AN ABSTRACT RUN: what lies within what; calls -/
def zt_nmq (m n : zt_N) : Bool := Nat.beq m.1 n.1 && Nat.beq m.2.1 n.2.1 && Nat.beq m.2.2.1 n.2.2.1 && zt_eq m.2.2.2 n.2.2.2
theorem zt_nmq_ok {m n : zt_N} (h : zt_nmq m n = true) : m = n := by
  simp only [zt_nmq, Bool.and_eq_true, zt_eq_ok] at h
  exact Prod.ext (Nat.eq_of_beq_eq_true h.1.1.1) (Prod.ext (Nat.eq_of_beq_eq_true h.1.1.2) (Prod.ext (Nat.eq_of_beq_eq_true h.1.2) h.2))
def zt_nsq (ms ns : List zt_N) : Bool := ns.all (fun n => ms.any (fun m => zt_nmq m n))
def zt_rgq (a b : zt_A) : Bool := zt_le b.2.1 a.2.1 && zt_le a.2.2.1 b.2.2.1 && Nat.beq (a.2.2.2.1 % b.2.2.2.1) 0 && zt_dv b.2.2.2.1 (a.2.1 - b.2.1)
def zt_sub1 (a b : zt_A) : Bool := match b.1 with
  | 0 => Nat.beq a.1 0 && zt_rgq a b && zt_nsq a.2.2.2.2 b.2.2.2.2
  | 1 => ((Nat.beq a.1 1 && zt_rgq a b) || (Nat.beq a.1 5 && zt_le b.2.1 (.negSucc 9223372036854775807) && zt_le (.ofNat 9223372036854775807) b.2.2.1 && Nat.beq b.2.2.2.1 1)) && zt_nsq a.2.2.2.2 b.2.2.2.2
  | 2 => Nat.beq a.1 2 && zt_eq a.2.1 b.2.1
  | 3 => Nat.beq a.1 3
  | 4 => Nat.beq a.1 4 && zt_eq a.2.1 b.2.1
  | 5 => (Nat.beq a.1 5 || (Nat.beq a.1 1 && zt_nz a)) && zt_nsq a.2.2.2.2 b.2.2.2.2
  | _ => false
def zt_subO (a : Option zt_A) (b : Option zt_A) : Bool := match b with
  | none => true
  | some b => match a with
    | none => false
    | some a => zt_sub1 a b
def zt_subL {α : Type} (f : α → α → Bool) : List α → List α → Bool
  | [], [] => true
  | a :: as, b :: bs => f a b && zt_subL f as bs
  | _, _ => false
def zt_subC (cs : List zt_C) (c : zt_C) : Bool := cs.any (fun d => zt_keq d.1 c.1 && zt_le c.2.1 d.2.1 && zt_le d.2.2 c.2.2)
def zt_wi (σ τ : zt_St) : Bool := zt_subL zt_subO σ.1 τ.1 && zt_subL zt_sub1 σ.2.1 τ.2.1 && τ.2.2.1.all (zt_subC σ.2.2.1) && τ.2.2.2.all (fun f => σ.2.2.2.any (Nat.beq f))
section ZTC
variable {E : zt_E} {s : Nat → Int} {ls : List (Option Value)} {st : List Value} {M : zm_I}
theorem zt_nsq_ok {ms ns : List zt_N} {z : Int} (h : zt_nsq ms ns = true) (hm : zt_nms ls M s ms z) : zt_nms ls M s ns z := by
  intro n hn
  obtain ⟨m, h1, h2⟩ := List.any_eq_true.mp (List.all_eq_true.mp h n hn)
  rw [← zt_nmq_ok h2]
  exact hm m h1
theorem zt_rgq_ok {a b : zt_A} {z : Int} (h : zt_rgq a b = true) (hz : zt_rg a z) : zt_rg b z := by
  simp only [zt_rgq, Bool.and_eq_true, zt_le_ok] at h
  obtain ⟨g1, g2, g3⟩ := hz
  refine ⟨by omega, by omega, ?_⟩
  have h1 := zt_dv_ok h.2
  have h2 : (b.2.2.2.1 : Int) ∣ (a.2.2.2.1 : Int) := Int.natCast_dvd_natCast.mpr (Nat.dvd_of_mod_eq_zero (Nat.eq_of_beq_eq_true h.1.2))
  have h3 := Int.dvd_add (Int.dvd_trans h2 g3) h1
  have e : z - a.2.1 + (a.2.1 - b.2.1) = z - b.2.1 := by omega
  rw [e] at h3
  exact h3
theorem zt_sub1_ok {a b : zt_A} {v : Value} (h : zt_sub1 a b = true) (hv : zt_v ls M s a v) : zt_v ls M s b v := by
  obtain ⟨kb, lb, hb, sb, nb⟩ := b
  match kb, h with
  | 0, h =>
    have h : (Nat.beq a.1 0 && zt_rgq a (0, lb, hb, sb, nb) && zt_nsq a.2.2.2.2 nb) = true := h
    simp only [Bool.and_eq_true] at h
    obtain ⟨x, rfl, h1, h2⟩ := zt_v_int hv (Nat.eq_of_beq_eq_true h.1.1)
    exact ⟨x, rfl, zt_rgq_ok h.1.2 h1, zt_nsq_ok h.2 h2⟩
  | 1, h =>
    have h : (((Nat.beq a.1 1 && zt_rgq a (1, lb, hb, sb, nb)) || (Nat.beq a.1 5 && zt_le lb (.negSucc 9223372036854775807) && zt_le (.ofNat 9223372036854775807) hb && Nat.beq sb 1)) && zt_nsq a.2.2.2.2 nb) = true := h
    simp only [Bool.and_eq_true, Bool.or_eq_true] at h
    rcases h.1 with h1 | h1
    · obtain ⟨x, rfl, h3, h4⟩ := zt_v_long hv (Nat.eq_of_beq_eq_true h1.1)
      exact ⟨x, rfl, zt_rgq_ok h1.2 h3, zt_nsq_ok h.2 h4⟩
    · obtain ⟨x, rfl, h3, h4⟩ := zt_v_nz hv (Nat.eq_of_beq_eq_true h1.1.1.1)
      have e := Nat.eq_of_beq_eq_true h1.2
      subst e
      have g := zt_rgL x
      have g1 := zt_le_ok.mp h1.1.1.2
      have g2 := zt_le_ok.mp h1.1.2
      have e1 : (Int.negSucc 9223372036854775807) = -9223372036854775808 := rfl
      have e2 : (Int.ofNat 9223372036854775807) = 9223372036854775807 := rfl
      exact ⟨x, rfl, ⟨by show lb ≤ _; omega, by show _ ≤ hb; omega, zt_one_dvd _⟩, zt_nsq_ok h.2 h4⟩
  | 2, h =>
    have h : (Nat.beq a.1 2 && zt_eq a.2.1 lb) = true := h
    simp only [Bool.and_eq_true, zt_eq_ok] at h
    have e := zt_v_ref hv (Nat.eq_of_beq_eq_true h.1)
    rw [h.2] at e
    exact e
  | 3, h =>
    have h : Nat.beq a.1 3 = true := h
    exact zt_v_nul hv (Nat.eq_of_beq_eq_true h)
  | 4, h =>
    have h : (Nat.beq a.1 4 && zt_eq a.2.1 lb) = true := h
    simp only [Bool.and_eq_true, zt_eq_ok] at h
    have e := zt_v_txt hv (Nat.eq_of_beq_eq_true h.1)
    rw [h.2] at e
    exact e
  | 5, h =>
    have h : ((Nat.beq a.1 5 || (Nat.beq a.1 1 && zt_nz a)) && zt_nsq a.2.2.2.2 nb) = true := h
    simp only [Bool.and_eq_true, Bool.or_eq_true] at h
    rcases h.1 with h1 | h1
    · obtain ⟨x, rfl, h3, h4⟩ := zt_v_nz hv (Nat.eq_of_beq_eq_true h1)
      exact ⟨x, rfl, h3, zt_nsq_ok h.2 h4⟩
    · obtain ⟨x, rfl, h3, h4⟩ := zt_v_long hv (Nat.eq_of_beq_eq_true h1.1)
      exact ⟨x, rfl, zt_nz_ok h1.2 h3, zt_nsq_ok h.2 h4⟩
  | k + 6, h => cases h
theorem zt_subS_ok : ∀ (as bs : List zt_A) (vs : List Value), zt_subL zt_sub1 as bs = true → zt_sts ls M s as vs → zt_sts ls M s bs vs
  | [], [], [], _, _ => trivial
  | a :: as, b :: bs, v :: vs, h, hv => by
    simp only [zt_subL, Bool.and_eq_true] at h
    exact ⟨zt_sub1_ok h.1 hv.1, zt_subS_ok as bs vs h.2 hv.2⟩
  | [], _ :: _, _, h, _ => by cases h
  | _ :: _, [], _, h, _ => by cases h
  | [], [], _ :: _, _, h => h.elim
  | _ :: _, _ :: _, [], _, h => h.elim
theorem zt_subO_ok : ∀ (L K : List (Option zt_A)), zt_subL zt_subO L K = true → L.length = K.length ∧ ∀ (k : Nat) (b : zt_A), K[k]? = some (some b) → ∃ a, L[k]? = some (some a) ∧ zt_sub1 a b = true
  | [], [], _ => ⟨rfl, fun k b h => by simp at h⟩
  | a :: L, c :: K, h => by
    simp only [zt_subL, Bool.and_eq_true] at h
    obtain ⟨h1, h2⟩ := zt_subO_ok L K h.2
    refine ⟨by simp [h1], fun k b hk => ?_⟩
    cases k with
    | zero =>
      simp only [List.getElem?_cons_zero, Option.some.injEq] at hk
      subst hk
      have h3 := h.1
      cases a with
      | none => cases h3
      | some a => exact ⟨a, rfl, h3⟩
    | succ k =>
      simp only [List.getElem?_cons_succ] at hk ⊢
      exact h2 k b hk
  | [], _ :: _, h => by cases h
  | _ :: _, [], h => by cases h
theorem zt_subC_ok {cs : List zt_C} {c : zt_C} (h : zt_subC cs c = true) (hc : ∀ d ∈ cs, zt_cs ls M d) : zt_cs ls M c := by
  obtain ⟨d, h1, h2⟩ := List.any_eq_true.mp h
  simp only [Bool.and_eq_true, zt_le_ok] at h2
  have h3 := hc d h1
  have hk := zt_keq_ok h2.1.1
  obtain ⟨k, lo, hi⟩ := c
  obtain ⟨k', lo', hi'⟩ := d
  dsimp only at hk h2
  subst hk
  have : ∃ z, zt_cv ls M k' z := by
    obtain ⟨t, a, b⟩ := k'
    by_cases ht : t = 1
    · subst ht
      exact ⟨_, rfl⟩
    · rw [zt_cs_ne (c := ((t, a, b), lo', hi')) ht] at h3
      obtain ⟨y, g1, -⟩ := h3
      refine ⟨(M.1 a y.toNatClampNeg).toInt, ?_⟩
      unfold zt_cv
      split
      · next h9 => exact absurd h9 ht
      · exact ⟨y, g1, rfl⟩
  obtain ⟨z, hz⟩ := this
  have := zt_cs_cv h3 hz
  dsimp only at this
  exact zt_cv_cs hz (by omega) (by omega)
theorem zt_wi_ok {σ τ : zt_St} (h : zt_wi σ τ = true) (hS : zt_S E s σ ls st M) : zt_S E s τ ls st M := by
  simp only [zt_wi, Bool.and_eq_true] at h
  obtain ⟨⟨g0, g1⟩, g2, g3, g4, g5⟩ := hS
  obtain ⟨h1, h2⟩ := zt_subO_ok _ _ h.1.1.1
  refine ⟨⟨by rw [g0, h1], fun k b hk => ?_⟩, zt_subS_ok _ _ _ h.1.1.2 g2, fun c hc => zt_subC_ok (List.all_eq_true.mp h.1.2 c hc) g3, fun f hf => ?_, g5⟩
  · obtain ⟨a, h3, h4⟩ := h2 k b hk
    obtain ⟨v, h5, h6⟩ := g1 k a h3
    exact ⟨v, h5, zt_sub1_ok h4 h6⟩
  · obtain ⟨f', h3, h4⟩ := List.any_eq_true.mp (List.all_eq_true.mp h.2 f hf)
    rw [Nat.eq_of_beq_eq_true h4]
    exact g4 f' h3
end ZTC
/-- what a call comes to: its result, what is known of the arguments, of cells, and else -/
abbrev zt_O : Type := Option zt_A × List (Nat × Int × Int) × List zt_C × List Nat
/-- a callee's contract: (arguments, receiver's class, in the caller's own space, blocks), its world's number, (arguments, cells, else), what it writes, what it comes to -/
abbrev zt_K : Type := (Nat × Option Nat × Bool × List (Nat × Nat)) × Nat × (List zt_A × List zt_C × List Nat) × zt_W × List zt_O
abbrev zt_Om : Type := List (zm_L × zt_G)
def zt_resv (N : zm_I) (o : Option zt_A) (v : Option Value) : Prop := match o with
  | none => v = none
  | some a => ∃ w, v = some w ∧ zt_v [] N (fun _ => 0) a w
def zt_res1 (Rel : Nat → zm_I → Prop) (as : List Value) (v : Option Value) (N : zm_I) (o : zt_O) : Prop := zt_resv N o.1 v ∧ (∀ q ∈ o.2.1, ∃ w z, as[q.1]? = some w ∧ zt_num w = some z ∧ q.2.1 ≤ z ∧ z ≤ q.2.2) ∧ (∀ c ∈ o.2.2.1, zt_cs [] N c) ∧ ∀ f ∈ o.2.2.2, Rel f N
def zt_Con (Om : zt_Om) (Rel : Nat → zm_I → Prop) (K : zt_K) (F : zm_L → List Value → zm_I → zm_R) : Prop :=
  ∀ (w0 : zm_L) (G : zt_G), Om[K.2.1]? = some (w0, G) → ∀ (wl : zm_L) (as : List Value) (M : zm_I), zt_Wd w0 wl → zt_sts [] M (fun _ => 0) K.2.2.1.1 as → (∀ c ∈ K.2.2.1.2.1, zt_cs (zm_sl as) M c) → (∀ f ∈ K.2.2.1.2.2, Rel f M) → zt_Gs G M → ∃ v N, F wl as M = some (v, N) ∧ zt_Gs G N ∧ zt_fr K.2.2.2.1 M N ∧ ∃ o ∈ K.2.2.2.2, zt_res1 Rel as v N o
-- the blocks
def zt_tr (bs : List (Nat × Nat)) (a : zt_A) : zt_A := match Nat.beq a.1 2 with
  | true => (2, .ofNat (zm_iv bs a.2.1.toNat), .ofNat 0, 0, [])
  | false => a
def zt_bkA (bs : List (Nat × Nat)) (a : zt_A) : zt_A := match Nat.beq a.1 2 with
  | true => (2, .ofNat (zm_fw bs a.2.1.toNat), .ofNat 0, 0, [])
  | false => zt_nn a (a.2.2.2.2.map (fun nm => (nm.1, zm_fw bs nm.2.1, nm.2.2)))
def zt_mapO (bs : List (Nat × Nat)) (o : zt_O) : zt_O := (o.1.map (zt_bkA bs), o.2.1, o.2.2.1.map (fun c => ((c.1.1, zm_fw bs c.1.2.1, c.1.2.2), c.2)), o.2.2.2)
def zt_mapW (bs : List (Nat × Nat)) (W : zt_W) : zt_W := W.map (fun w => (zm_fw bs w.1, w.2))
/-- names and cells of a result: of the memory alone, of the first so many -/
def zt_okO (tot : Nat) (o : zt_O) : Bool := (match o.1 with
  | some a => a.2.2.2.2.all (fun nm => Nat.beq nm.1 1 && Nat.ble (nm.2.1 + 1) tot) && (!Nat.beq a.1 2 || Nat.ble (a.2.1.toNat + 1) tot)
  | none => true) && o.2.2.1.all (fun c => Nat.beq c.1.1 1 && Nat.ble (c.1.2.1 + 1) tot)
def zt_argr (as : List zt_A) (w : zt_W) : List (Nat × Int × Int) → zt_St → Option zt_St
  | [], σ => some σ
  | q :: r, σ => match as[q.1]? with
    | some a => match Nat.ble a.1 1 with
      | true => match zt_le (zt_max a.2.1 q.2.1) (zt_min a.2.2.1 q.2.2) with
        | true => match zt_refs 3 (zt_fA [] w a).2.2.2.2 (zt_max a.2.1 q.2.1) (zt_min a.2.2.1 q.2.2) σ with
          | none => none
          | some τ => zt_argr as w r τ
        | false => none
      | false => zt_argr as w r σ
    | none => zt_argr as w r σ
def zt_puts : List zt_C → zt_St → Option zt_St
  | [], σ => some σ
  | c :: r, σ => match zt_put c.1 c.2.1 c.2.2 σ with
    | none => none
    | some σ => zt_puts r σ
def zt_narw (cs : List zt_C) : List zt_N → zt_A → Option zt_A
  | [], a => some a
  | nm :: r, a => match zt_look cs (1, nm.2.1, nm.2.2.1) (a.2.1 - nm.2.2.2, a.2.2.1 - nm.2.2.2) with
    | (lo, hi) => match zt_meet a (lo + nm.2.2.2) (hi + nm.2.2.2) with
      | none => none
      | some b => zt_narw cs r b
def zt_after (U : zt_U) (as : List zt_A) (w : zt_W) (σ : zt_St) (o : zt_O) : Option zt_St := match zt_argr as w o.2.1 (zt_keep U [] w σ) with
  | none => none
  | some σ1 => match zt_puts o.2.2.1 σ1 with
    | none => none
    | some σ2 => match o.1 with
      | none => some (σ2.1, σ2.2.1, σ2.2.2.1, o.2.2.2 ++ σ2.2.2.2)
      | some a => match Nat.beq a.1 0 with
        | false => some (σ2.1, a :: σ2.2.1, σ2.2.2.1, o.2.2.2 ++ σ2.2.2.2)
        | true => match zt_narw σ2.2.2.1 a.2.2.2.2 a with
          | none => none
          | some a => some (σ2.1, a :: σ2.2.1, σ2.2.2.1, o.2.2.2 ++ σ2.2.2.2)
section ZTD
variable {E : zt_E} {s : Nat → Int} {ls : List (Option Value)} {st : List Value} {M N : zm_I} {U : zt_U}
theorem zt_sts_get : ∀ (as : List zt_A) (vs : List Value) (j : Nat), zt_sts ls M s as vs → (∀ a, as[j]? = some a → ∃ v, vs[j]? = some v ∧ zt_v ls M s a v)
  | [], [], j, _, a, h => by simp at h
  | b :: as, v :: vs, 0, h, a, ha => by
    cases ha
    exact ⟨v, rfl, h.1⟩
  | b :: as, v :: vs, j + 1, h, a, ha => zt_sts_get as vs j h.2 a (by simpa using ha)
  | [], _ :: _, _, h, _, _ => h.elim
  | _ :: _, [], _, h, _, _ => h.elim
theorem zt_argr_ok {as : List zt_A} {vs : List Value} {w : zt_W} (hv : zt_sts ls M s as vs) (hm : ∀ n i, zt_hit w n i = false → N.1 n i = M.1 n i) : ∀ (qs : List (Nat × Int × Int)) (σ : zt_St), (∀ q ∈ qs, ∃ v z, vs[q.1]? = some v ∧ zt_num v = some z ∧ q.2.1 ≤ z ∧ z ≤ q.2.2) → zt_S E s σ ls st N → ∃ τ, zt_argr as w qs σ = some τ ∧ zt_S E s τ ls st N
  | [], σ, _, hS => ⟨σ, rfl, hS⟩
  | q :: r, σ, hq, hS => by
    have hr : ∀ q ∈ r, ∃ v z, vs[q.1]? = some v ∧ zt_num v = some z ∧ q.2.1 ≤ z ∧ z ≤ q.2.2 := fun q h => hq q (List.mem_cons_of_mem _ h)
    unfold zt_argr
    split
    · next a ha =>
      split
      · next hk =>
        obtain ⟨v, h1, h2⟩ := zt_sts_get as vs q.1 hv a ha
        obtain ⟨v', z, h3, h4, h5, h6⟩ := hq q List.mem_cons_self
        rw [h1] at h3
        cases h3
        obtain ⟨z', h7, h8, h9⟩ := zt_v_num h2 hk
        rw [h4] at h7
        cases h7
        have g1 := h8.1
        have g2 := h8.2.1
        have hlo : zt_max a.2.1 q.2.1 ≤ z := by rw [zt_max_o]; omega
        have hhi : z ≤ zt_min a.2.2.1 q.2.2 := by rw [zt_min_o]; omega
        have e : zt_le (zt_max a.2.1 q.2.1) (zt_min a.2.2.1 q.2.2) = true := zt_le_ok.mpr (by omega)
        rw [e]
        dsimp only
        obtain ⟨τ, e1, e2⟩ := zt_refs_ok 3 (zt_fA [] w a).2.2.2.2 _ _ z σ hS (fun nm hnm => zt_is_keep (List.mem_filter.mp hnm).2 (fun _ _ => rfl) hm (h9 nm (List.mem_filter.mp hnm).1)) hlo hhi
        rw [e1]
        exact zt_argr_ok hv hm r τ hr e2
      · exact zt_argr_ok hv hm r σ hr hS
    · exact zt_argr_ok hv hm r σ hr hS
theorem zt_puts_ok : ∀ (cs : List zt_C) (σ : zt_St), (∀ c ∈ cs, c.1.1 = 1 ∧ zt_cs [] N c) → zt_S E s σ ls st N → ∃ τ, zt_puts cs σ = some τ ∧ zt_S E s τ ls st N
  | [], σ, _, hS => ⟨σ, rfl, hS⟩
  | c :: r, σ, hc, hS => by
    obtain ⟨h1, h2⟩ := hc c List.mem_cons_self
    obtain ⟨⟨t, a, b⟩, lo, hi⟩ := c
    dsimp only at h1
    subst h1
    have h2 : lo ≤ (N.1 a b).toInt ∧ (N.1 a b).toInt ≤ hi := h2
    obtain ⟨τ, e1, e2⟩ := zt_put_ok (k := (1, a, b)) (lo := lo) (hi := hi) (z := (N.1 a b).toInt) hS rfl h2.1 h2.2
    obtain ⟨υ, e3, e4⟩ := zt_puts_ok r τ (fun c h => hc c (List.mem_cons_of_mem _ h)) e2
    refine ⟨υ, ?_, e4⟩
    unfold zt_puts
    dsimp only
    rw [e1]
    exact e3
theorem zt_narw_ok {cs : List zt_C} (hc : ∀ c ∈ cs, zt_cs ls N c) {x : Int32} : ∀ (ns : List zt_N) (a : zt_A), (∀ nm ∈ ns, nm.1 = 1 ∧ zt_is ls N s nm x.toInt) → zt_rg a x.toInt → ∃ b : zt_A, zt_narw cs ns a = some b ∧ zt_rg b x.toInt ∧ b.1 = a.1 ∧ b.2.2.2.2 = a.2.2.2.2
  | [], a, _, h => ⟨a, rfl, h, rfl, rfl⟩
  | nm :: r, a, hn, h => by
    obtain ⟨h1, h2⟩ := hn nm List.mem_cons_self
    obtain ⟨t, p, q, d⟩ := nm
    dsimp only at h1
    subst h1
    have h2 : x.toInt = (N.1 p q).toInt + d := h2
    have g1 := h.1
    have g2 := h.2.1
    have h3 := zt_look_ok (ls := ls) (M := N) (k := (1, p, q)) (z := (N.1 p q).toInt) rfl cs (a.2.1 - d, a.2.2.1 - d) hc (by dsimp only; omega) (by dsimp only; omega)
    unfold zt_narw
    dsimp only
    generalize zt_look cs (1, p, q) (a.2.1 - d, a.2.2.1 - d) = b at h3 ⊢
    obtain ⟨lo, hi⟩ := b
    dsimp only at h3 ⊢
    obtain ⟨c, e1, e2, e3, e4⟩ := zt_meet_ok (lo := lo + d) (hi := hi + d) h (by omega) (by omega)
    rw [e1]
    dsimp only
    obtain ⟨c', e5, e6, e7, e8⟩ := zt_narw_ok hc r c (fun nm h => hn nm (List.mem_cons_of_mem _ h)) e2
    exact ⟨c', e5, e6, by rw [e7, e3], by rw [e8, e4]⟩
/-- behind a call, in the caller's own space -/
theorem zt_after_ok (hU : zt_UR U E.2.2.2.1) {as : List zt_A} {vs : List Value} {w : zt_W} {σ : zt_St} {o : zt_O} {v : Option Value} (hS : zt_S E s σ ls st M) (hv : zt_sts ls M s as vs) (hm : ∀ n i, zt_hit w n i = false → N.1 n i = M.1 n i ∧ N.2 n i = M.2 n i) (hG : zt_Gs E.1 N) (hF : zt_fr E.2.1 E.2.2.2.2.1 N)
    (hr : zt_res1 E.2.2.2.1 vs v N o) (ho : ∀ a, o.1 = some a → ∀ nm ∈ a.2.2.2.2, nm.1 = 1) (hoc : ∀ c ∈ o.2.2.1, c.1.1 = 1) : ∃ τ, zt_after U as w σ o = some τ ∧ zt_S E s τ ls (v.toList ++ st) N := by
  obtain ⟨r1, r2, r3, r4⟩ := hr
  have hS1 := zt_keepM hU hS hm hG hF
  obtain ⟨σ1, e1, hS2⟩ := zt_argr_ok hv (fun n i h => (hm n i h).1) o.2.1 _ r2 hS1
  obtain ⟨σ2, e2, hS3⟩ := zt_puts_ok o.2.2.1 σ1 (fun c hc => ⟨hoc c hc, r3 c hc⟩) hS2
  unfold zt_after
  rw [e1]
  dsimp only
  rw [e2]
  dsimp only
  have hfl : ∀ f ∈ o.2.2.2 ++ σ2.2.2.2, E.2.2.2.1 f N := fun f hf => by
    rcases List.mem_append.mp hf with hf | hf
    · exact r4 f hf
    · exact hS3.2.2.2.1 f hf
  cases ha : o.1 with
  | none =>
    rw [ha] at r1
    have r1 : v = none := r1
    subst r1
    exact ⟨_, rfl, hS3.1, hS3.2.1, hS3.2.2.1, hfl, hS3.2.2.2.2⟩
  | some a =>
    rw [ha] at r1
    obtain ⟨u, rfl, hu⟩ := r1
    have hn := ho a ha
    have hu' : zt_v ls N s (zt_nn a a.2.2.2.2) u := zt_v_nn hu (fun z hz nm hnm => by
      have h1 := hz nm hnm
      have h2 := hn nm hnm
      obtain ⟨t, p, q, d⟩ := nm
      dsimp only at h2
      subst h2
      exact h1)
    have hu' : zt_v ls N s a u := hu'
    dsimp only
    split
    · exact ⟨_, rfl, hS3.1, ⟨hu', hS3.2.1⟩, hS3.2.2.1, hfl, hS3.2.2.2.2⟩
    · next hk =>
      have hk := Nat.eq_of_beq_eq_true hk
      obtain ⟨x, rfl, hx1, hx2⟩ := zt_v_int hu' hk
      obtain ⟨b, e3, e4, e5, e6⟩ := zt_narw_ok (s := s) (N := N) hS3.2.2.1 a.2.2.2.2 a (fun nm hnm => ⟨hn nm hnm, hx2 nm hnm⟩) hx1
      rw [e3]
      refine ⟨_, rfl, hS3.1, ⟨?_, hS3.2.1⟩, hS3.2.2.1, hfl, hS3.2.2.2.2⟩
      obtain ⟨kb, lb, hb, sb, nb⟩ := b
      dsimp only at e5 e6
      rw [hk] at e5
      subst e5
      exact ⟨x, rfl, e4, by rw [show (0, lb, hb, sb, nb).2.2.2.2 = nb from rfl, e6]; exact hx2⟩
end ZTD
