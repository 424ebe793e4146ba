/-! AN ABSTRACT RUN: a call -/
def zt_plain (as : List zt_A) : List zt_A := as.map (fun a => zt_nn a [])
def zt_sl : List zt_A → List (Option zt_A)
  | [] => []
  | a :: r => match zt_isL a with
    | true => some a :: none :: zt_sl r
    | false => some a :: zt_sl r
def zt_blk (as : List zt_A) : List (Nat × Nat) → Option (List (Nat × Nat))
  | [] => some []
  | (q, z) :: r => match as[q]? with
    | some a => match Nat.beq a.1 2 with
      | true => match zt_blk as r with
        | some bs => some ((a.2.1.toNat, z) :: bs)
        | none => none
      | false => none
    | none => none
def zt_bsq : List (Nat × Nat) → List (Nat × Nat) → Bool
  | [], [] => true
  | a :: r, b :: t => Nat.beq a.1 b.1 && Nat.beq a.2 b.2 && zt_bsq r t
  | _, _ => false
theorem zt_bsq_ok : ∀ (a b : List (Nat × Nat)), zt_bsq a b = true → a = b
  | [], [], _ => rfl
  | a :: r, b :: t, h => by
    simp only [zt_bsq, Bool.and_eq_true] at h
    rw [zt_bsq_ok r t h.2, Prod.ext (Nat.eq_of_beq_eq_true h.1.1) (Nat.eq_of_beq_eq_true h.1.2)]
  | [], _ :: _, h => by cases h
  | _ :: _, [], h => by cases h
abbrev zt_Sg : Type := List (Nat × List (Nat × Nat) × Nat)
def zt_sbl (Sg : zt_Sg) (w w' : Nat) (bs : List (Nat × Nat)) : Bool := Sg.any (fun q => Nat.beq q.1 w && Nat.beq q.2.2 w' && zt_bsq q.2.1 bs)
def zt_sbB (Om : zt_Om) (q : Nat × List (Nat × Nat) × Nat) : Bool := match Om[q.1]? with
  | some (w0, G) => match Om[q.2.2]? with
    | some (w1, G1) => zm_dis q.2.1 && zm_bound w0.length q.2.1 && Nat.beq G1.length (zm_tot q.2.1) && decide (zm_sub q.2.1 w0 = w1) && (List.range (zm_tot q.2.1)).all (fun k => (match w0[zm_fw q.2.1 k]? with
      | some d => !zt_hid d.1
      | none => false) && decide (G[zm_fw q.2.1 k]? = G1[k]?))
    | none => false
  | none => false
/-- the cells that a callee asks for, by its arguments -/
def zt_prC (as : List zt_A) (cs : List zt_C) (c : zt_C) : Bool := match c.1.1 with
  | 1 => zt_subC cs c
  | 2 => match (zt_sl as)[c.1.2.2]? with
    | some (some a) => Nat.beq a.1 0 && a.2.2.2.2.any (fun nm => Nat.beq nm.1 0 && zt_eq nm.2.2.2 (.ofNat 0) && zt_subC cs ((2, c.1.2.1, nm.2.1), c.2))
    | _ => false
  | _ => false
def zt_rcv (w0 : zm_L) (as : List zt_A) : Option Nat → Bool
  | none => true
  | some ci => match as with
    | a :: _ => Nat.beq a.1 2 && (match w0[a.2.1.toNat]? with
      | some (.inl c, _) => Nat.beq c ci && !Nat.beq c 99
      | _ => false)
    | [] => false
def zt_call (w0 : zm_L) (wid : Nat) (Sg : zt_Sg) (W : zt_W) (U : zt_U) (K : zt_K) (as : List zt_A) (σ : zt_St) : Option (List zt_St) := match zt_rcv w0 as K.1.2.1 with
  | false => none
  | true => match K.1.2.2.1 with
    | true => match Nat.beq K.2.1 wid && zt_subL zt_sub1 (zt_plain as) K.2.2.1.1 && K.2.2.1.2.1.all (zt_prC as σ.2.2.1) && K.2.2.1.2.2.all (fun f => σ.2.2.2.any (Nat.beq f)) && K.2.2.2.1.all (fun w => zt_inW W w.1 w.2.1 w.2.2) && K.2.2.2.2.all (zt_okO w0.length) with
      | true => some (K.2.2.2.2.filterMap (zt_after U as K.2.2.2.1 σ))
      | false => none
    | false => match zt_blk as K.1.2.2.2 with
      | none => none
      | some bs => match zt_sbl Sg wid K.2.1 bs && zt_subL zt_sub1 ((zt_plain as).map (zt_tr bs)) K.2.2.1.1 && K.2.2.1.2.1.isEmpty && K.2.2.1.2.2.isEmpty && K.2.2.2.1.all (fun w => Nat.ble (w.1 + 1) (zm_tot bs) && zt_inW W (zm_fw bs w.1) w.2.1 w.2.2) && K.2.2.2.2.all (fun o => o.2.2.2.isEmpty && zt_okO (zm_tot bs) o) with
        | true => some (K.2.2.2.2.filterMap (fun o => zt_after U as (zt_mapW bs K.2.2.2.1) σ (zt_mapO bs o)))
        | false => none
section ZTL
variable {E : zt_E} {s : Nat → Int} {ls : List (Option Value)} {st : List Value} {M N : zm_I} {U : zt_U}
theorem zt_plain_ok : ∀ (as : List zt_A) (vs : List Value) (ls' : List (Option Value)) (M' : zm_I) (s' : Nat → Int), zt_sts ls M s as vs → zt_sts ls' M' s' (zt_plain as) vs
  | [], [], _, _, _, _ => trivial
  | a :: as, v :: vs, ls', M', s', h => ⟨zt_v_nn h.1 (fun z _ => zt_nms_nil z), zt_plain_ok as vs ls' M' s' h.2⟩
  | [], _ :: _, _, _, _, h => h.elim
  | _ :: _, [], _, _, _, h => h.elim
theorem zt_tr_ok {bs : List (Nat × Nat)} {a : zt_A} {v : Value} (h : zt_v ls M s (zt_nn a []) v) : zt_v ls M s (zt_tr bs (zt_nn a [])) (zm_tr bs v) := by
  obtain ⟨k, lo, hi, sd, ms⟩ := a
  match k, h with
  | 0, h => obtain ⟨x, rfl, h1⟩ := h; exact ⟨x, rfl, h1⟩
  | 1, h => obtain ⟨x, rfl, h1⟩ := h; exact ⟨x, rfl, h1⟩
  | 2, h =>
    have h : v = .ref lo.toNat := h
    subst h
    rfl
  | 3, h =>
    have h : v = .null := h
    subst h
    rfl
  | 4, h =>
    have h : v = .retAddr lo.toNat := h
    subst h
    rfl
  | 5, h => obtain ⟨x, rfl, h1⟩ := h; exact ⟨x, rfl, h1⟩
  | k + 6, h => exact h.elim
theorem zt_trs_ok {bs : List (Nat × Nat)} : ∀ (as : List zt_A) (vs : List Value), zt_sts ls M s (zt_plain as) vs → zt_sts ls M s ((zt_plain as).map (zt_tr bs)) (vs.map (zm_tr bs))
  | [], [], _ => trivial
  | a :: as, v :: vs, h => ⟨zt_tr_ok h.1, zt_trs_ok as vs h.2⟩
  | [], _ :: _, h => h.elim
  | _ :: _, [], h => h.elim
theorem zt_blk_ok {as : List zt_A} {vs : List Value} (hv : zt_sts ls M s as vs) : ∀ (bl : List (Nat × Nat)) (bs : List (Nat × Nat)), zt_blk as bl = some bs → zm_blocks vs bl = some bs
  | [], bs, h => h
  | (q, z) :: r, bs, h => by
    unfold zt_blk at h
    split at h
    · next a ha =>
      split at h
      · next hk =>
        split at h
        · next bs' hb =>
          cases h
          obtain ⟨v, h1, h2⟩ := zt_sts_get as vs q hv a ha
          have e := zt_v_ref h2 (Nat.eq_of_beq_eq_true hk)
          subst e
          unfold zm_blocks
          rw [h1]
          dsimp only
          rw [zt_blk_ok hv r bs' hb]
        · cases h
      · cases h
    · cases h
theorem zt_num_tr (bs : List (Nat × Nat)) (v : Value) : zt_num (zm_tr bs v) = zt_num v := by cases v <;> rfl
theorem zt_rcv_ok {w0 wl : zm_L} (hw : zt_Wd w0 wl) {as : List zt_A} {vs : List Value} (hv : zt_sts ls M s as vs) {rv : Option Nat} (h : zt_rcv w0 as rv = true) : zm_recv wl vs rv = true := by
  cases rv with
  | none => rfl
  | some ci =>
    cases as with
    | nil => cases h
    | cons a as =>
      cases vs with
      | nil => exact hv.elim
      | cons v vs =>
        unfold zt_rcv at h
        simp only [Bool.and_eq_true] at h
        have e := zt_v_ref hv.1 (Nat.eq_of_beq_eq_true h.1)
        subst e
        have h2 := h.2
        split at h2
        · next c rs hw0 =>
          simp only [Bool.and_eq_true, Bool.not_eq_true'] at h2
          have hwl := hw.2 _ _ hw0 h2.2
          show zm_isO wl ci (.ref a.2.1.toNat) = true
          unfold zm_isO
          dsimp only
          rw [hwl]
          exact h2.1
        · cases h2
theorem zt_sl_ok : ∀ (as : List zt_A) (vs : List Value) (k : Nat) (a : zt_A), zt_sts ls M s as vs → (zt_sl as)[k]? = some (some a) → ∃ v, (zm_sl vs)[k]? = some (some v) ∧ zt_v ls M s a v
  | [], [], k, a, _, h => by simp [zt_sl] at h
  | b :: as, v :: vs, k, a, hv, h => by
    have hb := hv.1
    have ih := zt_sl_ok as vs
    unfold zt_sl at h
    split at h
    · next hl =>
      obtain ⟨x, rfl, -⟩ := zt_isL_ok hb hl
      match k, h with
      | 0, h => cases h; exact ⟨_, rfl, hb⟩
      | 1, h => cases h
      | k + 2, h => exact ih k a hv.2 h
    · next hl =>
      have hs : zm_sl (v :: vs) = some v :: zm_sl vs := by
        obtain ⟨kb, lo, hi, sd, ms⟩ := b
        match kb, hl, hb with
        | 0, _, hb => obtain ⟨x, rfl, -⟩ := hb; rfl
        | 1, hl, _ => cases hl
        | 2, _, hb => have hb : v = .ref lo.toNat := hb; subst hb; rfl
        | 3, _, hb => have hb : v = .null := hb; subst hb; rfl
        | 4, _, hb => have hb : v = .retAddr lo.toNat := hb; subst hb; rfl
        | 5, hl, _ => cases hl
        | kb + 6, _, hb => exact hb.elim
      rw [hs]
      match k, h with
      | 0, h => cases h; exact ⟨_, rfl, hb⟩
      | k + 1, h => exact ih k a hv.2 h
  | [], _ :: _, _, _, h, _ => h.elim
  | _ :: _, [], _, _, h, _ => h.elim
theorem zt_prC_ok {as : List zt_A} {vs : List Value} {σ : zt_St} {c : zt_C} (hS : zt_S E s σ ls st M) (hv : zt_sts ls M s as vs) (h : zt_prC as σ.2.2.1 c = true) : zt_cs (zm_sl vs) M c := by
  obtain ⟨⟨t, n, b⟩, lo, hi⟩ := c
  match t, h with
  | 0, h => cases h
  | 1, h =>
    have h9 : zt_cs ls M ((1, n, b), lo, hi) := zt_subC_ok (c := ((1, n, b), lo, hi)) h hS.2.2.1
    exact h9
  | 2, h =>
    have h : (match (zt_sl as)[b]? with
      | some (some a) => Nat.beq a.1 0 && a.2.2.2.2.any (fun nm => Nat.beq nm.1 0 && zt_eq nm.2.2.2 (.ofNat 0) && zt_subC σ.2.2.1 ((2, n, nm.2.1), lo, hi))
      | _ => false) = true := h
    split at h
    · next a ha =>
      simp only [Bool.and_eq_true] at h
      obtain ⟨v, h1, h2⟩ := zt_sl_ok as vs b a hv ha
      obtain ⟨x, rfl, hx1, hx2⟩ := zt_v_int h2 (Nat.eq_of_beq_eq_true h.1)
      obtain ⟨nm, h3, h4⟩ := List.any_eq_true.mp h.2
      simp only [Bool.and_eq_true, zt_eq_ok] at h4
      have h5 := zt_subC_ok h4.2 hS.2.2.1
      have h6 := hx2 nm h3
      obtain ⟨t, p, q, d⟩ := nm
      have ht : t = 0 := Nat.eq_of_beq_eq_true h4.1.1
      subst ht
      have hd : d = 0 := h4.1.2
      subst hd
      obtain ⟨w, y, g1, g2, g3⟩ := h6
      obtain ⟨y', g4, g5⟩ := h5
      dsimp only at g1 g4
      rw [g1] at g4
      cases g4
      cases g2
      have e : x = y' := Int32.toInt_inj.mp (by dsimp only at g3; omega)
      subst e
      exact ⟨x, h1, g5⟩
    · cases h
  | t + 3, h => cases h
theorem zt_inW_all {W w : zt_W} (h : w.all (fun q => zt_inW W q.1 q.2.1 q.2.2) = true) {n i : Nat} (hh : zt_hit W n i = false) : zt_hit w n i = false := by
  cases hq : zt_hit w n i with
  | false => rfl
  | true =>
    obtain ⟨q, h1, h2⟩ := List.any_eq_true.mp hq
    simp only [Bool.and_eq_true, Nat.ble_eq] at h2
    have h3 := zt_inW_hit (List.all_eq_true.mp h q h1) h2.1.2 h2.2
    rw [Nat.eq_of_beq_eq_true h2.1.1, hh] at h3
    cases h3
theorem zt_fr_tr {W w : zt_W} {M0 : zm_I} (hF : zt_fr W M0 M) (h : w.all (fun q => zt_inW W q.1 q.2.1 q.2.2) = true) (hm : ∀ n i, zt_hit w n i = false → N.1 n i = M.1 n i ∧ N.2 n i = M.2 n i) : zt_fr W M0 N := fun n i hi => by
  have h1 := hm n i (zt_inW_all h hi)
  have h2 := hF n i hi
  exact ⟨h1.1.trans h2.1, h1.2.trans h2.2⟩
theorem zt_okO_n {tot : Nat} {o : zt_O} (h : zt_okO tot o = true) : (∀ a, o.1 = some a → (∀ nm ∈ a.2.2.2.2, nm.1 = 1 ∧ nm.2.1 < tot) ∧ (a.1 = 2 → a.2.1.toNat < tot)) ∧ ∀ c ∈ o.2.2.1, c.1.1 = 1 ∧ c.1.2.1 < tot := by
  simp only [zt_okO, Bool.and_eq_true] at h
  refine ⟨fun a ha => ?_, fun c hc => ?_⟩
  · have h1 := h.1
    rw [ha] at h1
    dsimp only at h1
    simp only [Bool.and_eq_true, Bool.or_eq_true, Bool.not_eq_true', Nat.ble_eq] at h1
    refine ⟨fun nm hnm => ?_, fun hk => ?_⟩
    · have h2 := List.all_eq_true.mp h1.1 nm hnm
      simp only [Bool.and_eq_true, Nat.ble_eq] at h2
      exact ⟨Nat.eq_of_beq_eq_true h2.1, h2.2⟩
    · rcases h1.2 with h2 | h2
      · exact absurd hk (Nat.ne_of_beq_eq_false h2)
      · exact h2
  · have h2 := List.all_eq_true.mp h.2 c hc
    simp only [Bool.and_eq_true, Nat.ble_eq] at h2
    exact ⟨Nat.eq_of_beq_eq_true h2.1, h2.2⟩
theorem zt_hit_map {bs : List (Nat × Nat)} {W : zt_W} (hd : zm_dis bs = true) (hW : ∀ w ∈ W, w.1 < zm_tot bs) {n i : Nat} (hn : zm_in bs n = true) (h : zt_hit (zt_mapW bs W) n i = false) : zt_hit W (zm_iv bs n) i = false := by
  cases hq : zt_hit W (zm_iv bs n) i with
  | false => rfl
  | true =>
    obtain ⟨q, h1, h2⟩ := List.any_eq_true.mp hq
    have : zt_hit (zt_mapW bs W) n i = true := by
      refine List.any_eq_true.mpr ⟨(zm_fw bs q.1, q.2), List.mem_map.mpr ⟨q, h1, rfl⟩, ?_⟩
      simp only [Bool.and_eq_true] at h2 ⊢
      refine ⟨⟨?_, h2.1.2⟩, h2.2⟩
      rw [Nat.eq_of_beq_eq_true h2.1.1, zm_fw_iv]
      exact Nat.beq_refl n
    rw [h] at this
    cases this
theorem zt_mrg_fw {bs : List (Nat × Nat)} (hd : zm_dis bs = true) {k : Nat} (hk : k < zm_tot bs) (M N : zm_I) (i : Nat) : (zm_mrg bs M N).1 (zm_fw bs k) i = N.1 k i := by
  unfold zm_mrg
  dsimp only
  rw [zm_in_fw bs k hk]
  dsimp only
  rw [zm_iv_fw bs k hd hk]
theorem zt_res_map {bs : List (Nat × Nat)} (hd : zm_dis bs = true) {Rel : Nat → zm_I → Prop} {vs : List Value} {v : Option Value} {N : zm_I} {o : zt_O} (ho : zt_okO (zm_tot bs) o = true) (hf : o.2.2.2.isEmpty = true) (h : zt_res1 Rel (vs.map (zm_tr bs)) v N o) (M : zm_I) : zt_res1 Rel vs (v.map (zm_bk bs)) (zm_mrg bs M N) (zt_mapO bs o) := by
  obtain ⟨h1, h2, h3, h4⟩ := h
  obtain ⟨g1, g2⟩ := zt_okO_n ho
  refine ⟨?_, fun q hq => ?_, fun c hc => ?_, fun f hfm => ?_⟩
  · obtain ⟨oa, orest⟩ := o
    cases oa with
    | none =>
      have h1 : v = none := h1
      subst h1
      rfl
    | some a =>
      obtain ⟨w, rfl, hw⟩ := h1
      obtain ⟨g3, g4⟩ := g1 a rfl
      refine ⟨zm_bk bs w, rfl, ?_⟩
      unfold zt_bkA
      split
      · next hk =>
        have e := zt_v_ref hw (Nat.eq_of_beq_eq_true hk)
        subst e
        rfl
      · next hk =>
        have e : zm_bk bs w = w := by
          obtain ⟨kb, lo, hi, sd, ms⟩ := a
          match kb, hk, hw with
          | 0, _, hw => obtain ⟨x, rfl, -⟩ := hw; rfl
          | 1, _, hw => obtain ⟨x, rfl, -⟩ := hw; rfl
          | 2, hk, _ => cases hk
          | 3, _, hw => have hw : w = .null := hw; subst hw; rfl
          | 4, _, hw => have hw : w = .retAddr lo.toNat := hw; subst hw; rfl
          | 5, _, hw => obtain ⟨x, rfl, -⟩ := hw; rfl
          | kb + 6, _, hw => exact hw.elim
        rw [e]
        refine zt_v_nn hw (fun z hz nm hnm => ?_)
        obtain ⟨nm', h5, rfl⟩ := List.mem_map.mp hnm
        obtain ⟨h6, h7⟩ := g3 nm' h5
        have h8 := hz nm' h5
        obtain ⟨t, p, q, d⟩ := nm'
        dsimp only at h6 h7
        subst h6
        have h8 : z = (N.1 p q).toInt + d := h8
        show z = ((zm_mrg bs M N).1 (zm_fw bs p) q).toInt + d
        rw [zt_mrg_fw hd h7]
        exact h8
  · obtain ⟨w, z, e1, e2, e3⟩ := h2 q hq
    rw [List.getElem?_map, Option.map_eq_some_iff] at e1
    obtain ⟨u, e4, rfl⟩ := e1
    rw [zt_num_tr] at e2
    exact ⟨u, z, e4, e2, e3⟩
  · obtain ⟨c', h5, rfl⟩ := List.mem_map.mp hc
    obtain ⟨h6, h7⟩ := g2 c' h5
    have h8 := h3 c' h5
    obtain ⟨⟨t, p, q⟩, lo, hi⟩ := c'
    dsimp only at h6 h7
    subst h6
    have h8 : lo ≤ (N.1 p q).toInt ∧ (N.1 p q).toInt ≤ hi := h8
    show lo ≤ ((zm_mrg bs M N).1 (zm_fw bs p) q).toInt ∧ ((zm_mrg bs M N).1 (zm_fw bs p) q).toInt ≤ hi
    rw [zt_mrg_fw hd h7]
    exact h8
  · have e : o.2.2.2 = [] := List.isEmpty_iff.mp hf
    have hfm : f ∈ o.2.2.2 := hfm
    rw [e] at hfm
    cases hfm
theorem zt_okO_map {bs : List (Nat × Nat)} {o : zt_O} (ho : zt_okO (zm_tot bs) o = true) : (∀ a, (zt_mapO bs o).1 = some a → ∀ nm ∈ a.2.2.2.2, nm.1 = 1) ∧ ∀ c ∈ (zt_mapO bs o).2.2.1, c.1.1 = 1 := by
  obtain ⟨g1, g2⟩ := zt_okO_n ho
  refine ⟨fun a ha nm hnm => ?_, fun c hc => ?_⟩
  · have ha : o.1.map (zt_bkA bs) = some a := ha
    rw [Option.map_eq_some_iff] at ha
    obtain ⟨b, hb, rfl⟩ := ha
    unfold zt_bkA at hnm
    split at hnm
    · cases hnm
    · obtain ⟨nm', h5, rfl⟩ := List.mem_map.mp hnm
      exact ((g1 b hb).1 nm' h5).1
  · obtain ⟨c', h5, rfl⟩ := List.mem_map.mp hc
    exact (g2 c' h5).1
theorem zt_call_ok {Om : zt_Om} {Sg : zt_Sg} {w0 wl : zm_L} {wid : Nat} (hU : zt_UR U E.2.2.2.1) (hOm : Om[wid]? = some (w0, E.1)) (hSg : Sg.all (zt_sbB Om) = true) (hw : zt_Wd w0 wl) {C : zm_C} {K : zt_K} (hC : zt_Con Om E.2.2.2.1 K C.2.2.2.2) (hK : K.1 = (C.1, C.2.1, C.2.2.1, C.2.2.2.1)) {as : List zt_A} {vs : List Value} {σ : zt_St} {L : List zt_St} (hS : zt_S E s σ ls st M) (hv : zt_sts ls M s as vs) (h : zt_call w0 wid Sg E.2.1 U K as σ = some L) (kk : Option Value → zm_I → zm_R) : ∃ τ ∈ L, ∃ v N, zm_app C wl vs M kk = kk v N ∧ zt_S E s τ ls (v.toList ++ st) N := by
  unfold zt_call at h
  split at h
  · cases h
  · next hrc =>
    have hrc := zt_rcv_ok hw hv hrc
    rw [hK] at hrc
    unfold zm_app
    rw [hrc]
    dsimp only
    split at h
    · next hown =>
      rw [hK] at hown
      dsimp only at hown
      rw [hown]
      split at h
      · next hc =>
        simp only [Bool.and_eq_true] at hc
        obtain ⟨⟨⟨⟨⟨c1, c2⟩, c3⟩, c4⟩, c5⟩, c6⟩ := hc
        cases h
        have c1 := Nat.eq_of_beq_eq_true c1
        obtain ⟨v, N, e1, e2, e3, o, e4, e5⟩ := hC w0 E.1 (by rw [c1]; exact hOm) wl vs M hw (zt_subS_ok _ _ _ c2 (zt_plain_ok as vs [] M (fun _ => 0) hv)) (fun c hc => zt_prC_ok hS hv (List.all_eq_true.mp c3 c hc)) (fun f hf => by
          obtain ⟨f', h3, h4⟩ := List.any_eq_true.mp (List.all_eq_true.mp c4 f hf)
          rw [Nat.eq_of_beq_eq_true h4]
          exact hS.2.2.2.1 f' h3) hS.2.2.2.2.1
        obtain ⟨g1, g2⟩ := zt_okO_n (List.all_eq_true.mp c6 o e4)
        obtain ⟨τ, t1, t2⟩ := zt_after_ok hU hS hv e3 e2 (zt_fr_tr hS.2.2.2.2.2.1 c5 e3) e5 (fun a ha nm hnm => ((g1 a ha).1 nm hnm).1) (fun c hc => (g2 c hc).1)
        refine ⟨τ, List.mem_filterMap.mpr ⟨o, e4, t1⟩, v, N, ?_, t2⟩
        dsimp only
        rw [e1]
      · cases h
    · next hown =>
      rw [hK] at hown
      dsimp only at hown
      rw [hown]
      split at h
      · cases h
      · next bs hbs =>
        split at h
        · next hc =>
          simp only [Bool.and_eq_true] at hc
          obtain ⟨⟨⟨⟨⟨c1, c2⟩, c3⟩, c4⟩, c5⟩, c6⟩ := hc
          cases h
          rw [hK] at hbs
          dsimp only at hbs
          have hbl := zt_blk_ok hv _ bs hbs
          dsimp only
          rw [hbl]
          dsimp only
          obtain ⟨q, hq1, hq2⟩ := List.any_eq_true.mp c1
          simp only [Bool.and_eq_true] at hq2
          have hq3 := List.all_eq_true.mp hSg q hq1
          have f1 := Nat.eq_of_beq_eq_true hq2.1.1
          have f2 := Nat.eq_of_beq_eq_true hq2.1.2
          have f3 := zt_bsq_ok _ _ hq2.2
          unfold zt_sbB at hq3
          rw [f1, f2, f3, hOm] at hq3
          dsimp only at hq3
          split at hq3
          · next w1 G1 hOm1 =>
            simp only [Bool.and_eq_true, decide_eq_true_eq] at hq3
            obtain ⟨⟨⟨⟨d1, d2⟩, d3⟩, d4⟩, d5⟩ := hq3
            have d3 := Nat.eq_of_beq_eq_true d3
            have hcell : ∀ k, k < zm_tot bs → (∃ d, w0[zm_fw bs k]? = some d ∧ wl[zm_fw bs k]? = some d) ∧ E.1[zm_fw bs k]? = G1[k]? := by
              intro k hk
              have := List.all_eq_true.mp d5 k (List.mem_range.mpr hk)
              simp only [Bool.and_eq_true, decide_eq_true_eq] at this
              obtain ⟨t1, t2⟩ := this
              split at t1
              · next d hd =>
                simp only [Bool.not_eq_true'] at t1
                exact ⟨⟨d, hd, hw.2 _ _ hd t1⟩, t2⟩
              · cases t1
            have hsub : zm_sub bs wl = w1 := by
              rw [← d4]
              unfold zm_sub
              refine List.map_congr_left (fun k hk => ?_)
              obtain ⟨⟨d, t1, t2⟩, -⟩ := hcell k (List.mem_range.mp hk)
              rw [t1, t2]
            have hdis : (zm_dis bs && zm_bound wl.length bs) = true := by rw [hw.1, d1, d2]; rfl
            rw [hdis]
            dsimp only
            have hG1 : zt_Gs G1 (fun n => M.1 (zm_fw bs n), fun n => M.2 (zm_fw bs n)) := by
              intro n g hg i b hb
              have hn : n < zm_tot bs := by rw [← d3]; exact (List.getElem?_eq_some_iff.mp hg).1
              exact hS.2.2.2.2.1 (zm_fw bs n) g (by rw [(hcell n hn).2]; exact hg) i b hb
            have ec : K.2.2.1.2.1 = [] := List.isEmpty_iff.mp c3
            have ef : K.2.2.1.2.2 = [] := List.isEmpty_iff.mp c4
            obtain ⟨v, N, e1, e2, e3, o, e4, e5⟩ := hC w1 G1 hOm1 (zm_sub bs wl) (vs.map (zm_tr bs)) (fun n => M.1 (zm_fw bs n), fun n => M.2 (zm_fw bs n)) (by rw [hsub]; exact ⟨rfl, fun n d h _ => h⟩) (zt_subS_ok _ _ _ c2 (zt_trs_ok as vs (zt_plain_ok as vs [] _ (fun _ => 0) hv))) (fun c hc => by rw [ec] at hc; cases hc) (fun f hf => by rw [ef] at hf; cases hf) hG1
            have c6' := List.all_eq_true.mp c6 o e4
            simp only [Bool.and_eq_true] at c6'
            have hW : ∀ w ∈ K.2.2.2.1, w.1 < zm_tot bs ∧ zt_inW E.2.1 (zm_fw bs w.1) w.2.1 w.2.2 = true := fun w hw9 => by
              have := List.all_eq_true.mp c5 w hw9
              simp only [Bool.and_eq_true, Nat.ble_eq] at this
              exact this
            have hm : ∀ n i, zt_hit (zt_mapW bs K.2.2.2.1) n i = false → (zm_mrg bs M N).1 n i = M.1 n i ∧ (zm_mrg bs M N).2 n i = M.2 n i := by
              intro n i hni
              unfold zm_mrg
              dsimp only
              cases hin : zm_in bs n with
              | false => exact ⟨rfl, rfl⟩
              | true =>
                have := e3 (zm_iv bs n) i (zt_hit_map d1 (fun w hw9 => (hW w hw9).1) hin hni)
                dsimp only at this
                rw [zm_fw_iv] at this
                exact this
            have hGN : zt_Gs E.1 (zm_mrg bs M N) := by
              intro n g hg i b hb
              cases hin : zm_in bs n with
              | false =>
                have : (zm_mrg bs M N).1 n i = M.1 n i := by unfold zm_mrg; dsimp only; rw [hin]
                rw [this]
                exact hS.2.2.2.2.1 n g hg i b hb
              | true =>
                have : (zm_mrg bs M N).1 n i = N.1 (zm_iv bs n) i := by unfold zm_mrg; dsimp only; rw [hin]
                rw [this]
                have h9 := (hcell (zm_iv bs n) (zm_in_iv bs n hin)).2
                rw [zm_fw_iv, hg] at h9
                exact e2 (zm_iv bs n) g h9.symm i b hb
            have hall : (zt_mapW bs K.2.2.2.1).all (fun q => zt_inW E.2.1 q.1 q.2.1 q.2.2) = true := List.all_eq_true.mpr (fun q hq => by
              obtain ⟨w, hw9, rfl⟩ := List.mem_map.mp hq
              exact (hW w hw9).2)
            obtain ⟨g1, g2⟩ := zt_okO_map c6'.2
            obtain ⟨τ, t1, t2⟩ := zt_after_ok hU hS hv hm hGN (zt_fr_tr hS.2.2.2.2.2.1 hall hm) (zt_res_map d1 c6'.2 c6'.1 e5 M) g1 g2
            refine ⟨τ, List.mem_filterMap.mpr ⟨o, e4, t1⟩, _, _, ?_, t2⟩
            rw [e1]
          · cases hq3
        · cases h
end ZTL
