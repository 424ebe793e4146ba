/-! AN ABSTRACT RUN: cells, jumps -/
def zt_hull : List (Int × Int) → Int × Int
  | [] => (.negSucc 2147483647, .ofNat 2147483647)
  | b :: r => match r with
    | [] => b
    | _ :: _ => (zt_min b.1 (zt_hull r).1, zt_max b.2 (zt_hull r).2)
theorem zt_hull_ok : ∀ (g : List (Int × Int)) (b : Int × Int), b ∈ g → (zt_hull g).1 ≤ b.1 ∧ b.2 ≤ (zt_hull g).2
  | [], b, h => by cases h
  | [c], b, h => by
    rcases List.mem_cons.mp h with rfl | h
    · exact ⟨Int.le_refl _, Int.le_refl _⟩
    · cases h
  | c :: d :: r, b, h => by
    have e : zt_hull (c :: d :: r) = (zt_min c.1 (zt_hull (d :: r)).1, zt_max c.2 (zt_hull (d :: r)).2) := rfl
    rw [e, zt_min_o, zt_max_o]
    rcases List.mem_cons.mp h with rfl | h
    · dsimp only
      omega
    · have := zt_hull_ok (d :: r) b h
      dsimp only
      omega
def zt_gb (G : zt_G) (n lo hi st : Nat) : Int × Int := match G[n]? with
  | none => (.negSucc 2147483647, .ofNat 2147483647)
  | some g => match Nat.beq lo hi || Nat.beq (st % g.length) 0 with
    | true => match g[lo % g.length]? with
      | some b => b
      | none => (.negSucc 2147483647, .ofNat 2147483647)
    | false => zt_hull g
def zt_fit (G : zt_G) (n lo hi st : Nat) (a b : Int) : Bool := match G[n]? with
  | none => true
  | some g => match Nat.beq lo hi || Nat.beq (st % g.length) 0 with
    | true => match g[lo % g.length]? with
      | some q => zt_le q.1 a && zt_le b q.2
      | none => true
    | false => g.all (fun q => zt_le q.1 a && zt_le b q.2)
/-- an index within bounds, by a stride -/
def zt_ix (lo hi st i : Nat) : Prop := lo ≤ i ∧ i ≤ hi ∧ st ∣ i - lo
theorem zt_ix_mod {lo hi st i p : Nat} (h : zt_ix lo hi st i) (hc : (Nat.beq lo hi || Nat.beq (st % p) 0) = true) : i % p = lo % p := by
  simp only [Bool.or_eq_true] at hc
  obtain ⟨h1, h2, h3⟩ := h
  rcases hc with hc | hc
  · have := Nat.eq_of_beq_eq_true hc
    have : i = lo := by omega
    rw [this]
  · have hc := Nat.eq_of_beq_eq_true hc
    have h4 : p ∣ i - lo := Nat.dvd_trans (Nat.dvd_of_mod_eq_zero hc) h3
    obtain ⟨q, hq⟩ := h4
    have : i = lo + p * q := by omega
    rw [this, Nat.add_mul_mod_self_left]
theorem zt_gb_ok {G : zt_G} {M : zm_I} (hG : zt_Gs G M) {n lo hi st i : Nat} (h : zt_ix lo hi st i) : (zt_gb G n lo hi st).1 ≤ (M.1 n i).toInt ∧ (M.1 n i).toInt ≤ (zt_gb G n lo hi st).2 := by
  have hb := zt_rgI (M.1 n i)
  have hb' : Int.negSucc 2147483647 ≤ (M.1 n i).toInt ∧ (M.1 n i).toInt ≤ Int.ofNat 2147483647 := hb
  unfold zt_gb
  split
  · exact hb'
  · next g hg =>
    split
    · next hc =>
      rw [← zt_ix_mod h hc]
      split
      · next b hgb => exact hG n g hg i b hgb
      · exact hb'
    · by_cases hp : g.length = 0
      · have : g = [] := List.length_eq_zero_iff.mp hp
        subst this
        exact hb'
      · have hlt : i % g.length < g.length := Nat.mod_lt _ (by omega)
        have hq := hG n g hg i _ (List.getElem?_eq_getElem hlt)
        have hh := zt_hull_ok g _ (List.getElem_mem hlt)
        omega
theorem zt_fit_ok {G : zt_G} {n lo hi st : Nat} {a b : Int} (h : zt_fit G n lo hi st a b = true) {i : Nat} (hx : zt_ix lo hi st i) {g : List (Int × Int)} (hg : G[n]? = some g) {q : Int × Int} (hq : g[i % g.length]? = some q) : q.1 ≤ a ∧ b ≤ q.2 := by
  unfold zt_fit at h
  rw [hg] at h
  dsimp only at h
  split at h
  · next hc =>
    rw [← zt_ix_mod hx hc, hq] at h
    simp only [Bool.and_eq_true, zt_le_ok] at h
    exact h
  · have := List.all_eq_true.mp h q (List.mem_of_getElem? hq)
    simp only [Bool.and_eq_true, zt_le_ok] at this
    exact this
theorem zt_Gs_w {G : zt_G} {M : zm_I} (hG : zt_Gs G M) {n lo hi st i : Nat} (hx : zt_ix lo hi st i) {x : Int32} {a b : Int} (h1 : a ≤ x.toInt) (h2 : x.toInt ≤ b) (h : zt_fit G n lo hi st a b = true) : zt_Gs G (zm_w M.1 n i x, M.2) := by
  intro n' g hg i' q hq
  dsimp only [zm_w]
  split
  · next he =>
    obtain ⟨rfl, rfl⟩ := he
    have := zt_fit_ok h hx hg hq
    omega
  · exact hG n' g hg i' q hq
theorem zt_inW_hit {W : zt_W} {n lo hi i : Nat} (h : zt_inW W n lo hi = true) (h1 : lo ≤ i) (h2 : i ≤ hi) : zt_hit W n i = true := by
  unfold zt_inW at h
  obtain ⟨w, hw, h⟩ := List.any_eq_true.mp h
  refine List.any_eq_true.mpr ⟨w, hw, ?_⟩
  simp only [Bool.and_eq_true, Nat.ble_eq] at h ⊢
  exact ⟨⟨h.1.1, by omega⟩, by omega⟩
theorem zt_fr_w {W : zt_W} {M0 M : zm_I} (hF : zt_fr W M0 M) {n i : Nat} (h : zt_hit W n i = true) (x : Int32) : zt_fr W M0 (zm_w M.1 n i x, M.2) := by
  intro n' i' hi'
  dsimp only [zm_w]
  refine ⟨?_, (hF n' i' hi').2⟩
  split
  · next he => obtain ⟨rfl, rfl⟩ := he; rw [h] at hi'; cases hi'
  · exact (hF n' i' hi').1
theorem zt_fr_wl {W : zt_W} {M0 M : zm_I} (hF : zt_fr W M0 M) {n i : Nat} (h : zt_hit W n i = true) (x : Int64) : zt_fr W M0 (M.1, zm_wl M.2 n i x) := by
  intro n' i' hi'
  dsimp only [zm_wl]
  refine ⟨(hF n' i' hi').1, ?_⟩
  split
  · next he => obtain ⟨rfl, rfl⟩ := he; rw [h] at hi'; cases hi'
  · exact (hF n' i' hi').2
/-- a world that is known but for hidden cells -/
def zt_hid (d : zm_D) : Bool := match d with
  | .inl c => Nat.beq c 99
  | _ => false
def zt_Wd (w0 wl : zm_L) : Prop := wl.length = w0.length ∧ ∀ (n : Nat) (d : zm_D × List Value), w0[n]? = some d → zt_hid d.1 = false → wl[n]? = some d
def zt_rd (G : zt_G) (cs : List zt_C) (n i : Nat) : zt_A := match zt_look cs (1, n, i) (zt_gb G n i i 0) with
  | (lo, hi) => (0, lo, hi, 1, [(1, n, i, .ofNat 0)])
def zt_rv (v : Value) (σ : zt_St) : zt_R := match v with
  | .ref q => zt_pu (2, .ofNat q, .ofNat 0, 0, []) σ
  | .null => zt_pu (3, .ofNat 0, .ofNat 0, 0, []) σ
  | _ => none
def zt_gf (w0 : zm_L) (G : zt_G) (ci f : Nat) (σ : zt_St) : zt_R := match σ.2.1 with
  | a :: r => match Nat.beq a.1 2 with
    | true => match w0[a.2.1.toNat]? with
      | some (.inl c, rs) => match Nat.beq c ci && !Nat.beq c 99 with
        | true => match zm_ty ci f with
          | .long => zt_pu zt_ltop (σ.1, r, σ.2.2)
          | .array _ => zt_rv (rs.getD f .null) (σ.1, r, σ.2.2)
          | .object _ => zt_rv (rs.getD f .null) (σ.1, r, σ.2.2)
          | .int => zt_pu (zt_rd G σ.2.2.1 a.2.1.toNat f) (σ.1, r, σ.2.2)
          | .boolean => zt_pu (zt_rd G σ.2.2.1 a.2.1.toNat f) (σ.1, r, σ.2.2)
          | _ => none
        | false => none
      | _ => none
    | false => none
  | [] => none
/-- the index of an array: bounds, stride -/
def zt_idx (i : zt_A) (len : Nat) : Bool := Nat.beq i.1 0 && zt_le (.ofNat 0) i.2.1 && Nat.ble (i.2.2.1.toNat + 1) len
def zt_isI (L : List (Option zt_A)) (k : Nat) : Bool := match L[k]? with
  | some (some a) => Nat.beq a.1 0
  | _ => false
def zt_E2 (L : List (Option zt_A)) (n : Nat) : List zt_N → List (Nat × Nat × Nat)
  | [] => []
  | nm :: r => match Nat.beq nm.1 0 && zt_eq nm.2.2.2 (.ofNat 0) && zt_isI L nm.2.1 with
    | true => (2, n, nm.2.1) :: zt_E2 L n r
    | false => zt_E2 L n r
def zt_looks (cs : List zt_C) : List (Nat × Nat × Nat) → Int × Int → Int × Int
  | [], b => b
  | k :: ks, b => zt_looks cs ks (zt_look cs k b)
/-- the keys by which an element is known -/
def zt_keys (L : List (Option zt_A)) (n : Nat) (i : zt_A) : List (Nat × Nat × Nat) := match zt_cst i with
  | true => (1, n, i.2.1.toNat) :: zt_E2 L n i.2.2.2.2
  | false => zt_E2 L n i.2.2.2.2
def zt_rde (G : zt_G) (L : List (Option zt_A)) (cs : List zt_C) (n : Nat) (i : zt_A) : zt_A := match zt_looks cs (zt_keys L n i) (zt_gb G n i.2.1.toNat i.2.2.1.toNat i.2.2.2.1) with
  | (lo, hi) => (0, lo, hi, 1, (zt_keys L n i).map (fun q => (q.1, q.2.1, q.2.2, Int.ofNat 0)))
def zt_wr (U : zt_U) (n lo hi : Nat) (ks : List (Nat × Nat × Nat)) (a b : Int) (σ : zt_St) : zt_St := match zt_keep U [] [(n, lo, hi)] σ with
  | τ => (τ.1, τ.2.1, ks.map (fun q => (q, a, b)) ++ τ.2.2.1, τ.2.2.2)
def zt_pf (w0 : zm_L) (G : zt_G) (W : zt_W) (U : zt_U) (ci f : Nat) (σ : zt_St) : zt_R := match zm_fin ci f with
  | true => none
  | false => match σ.2.1 with
    | v :: a :: r => match Nat.beq a.1 2 with
      | true => match w0[a.2.1.toNat]? with
        | some (.inl c, _) => match Nat.beq c ci && !Nat.beq c 99 && zt_inW W a.2.1.toNat f f with
          | true => match zm_ty ci f with
            | .long => match zt_isL v with
              | true => some ([zt_wr U a.2.1.toNat f f [] (.ofNat 0) (.ofNat 0) (σ.1, r, σ.2.2)], [])
              | false => none
            | .int => match Nat.beq v.1 0 && zt_fit G a.2.1.toNat f f 0 v.2.1 v.2.2.1 with
              | true => some ([zt_wr U a.2.1.toNat f f [(1, a.2.1.toNat, f)] v.2.1 v.2.2.1 (σ.1, r, σ.2.2)], [])
              | false => none
            | .boolean => match Nat.beq v.1 0 && zt_fit G a.2.1.toNat f f 0 v.2.1 v.2.2.1 && zt_le (.ofNat 0) v.2.1 && zt_le v.2.2.1 (.ofNat 1) with
              | true => some ([zt_wr U a.2.1.toNat f f [(1, a.2.1.toNat, f)] v.2.1 v.2.2.1 (σ.1, r, σ.2.2)], [])
              | false => none
            | _ => none
          | false => none
        | _ => none
      | false => none
    | _ => none
section ZTM
variable {E : zt_E} {s : Nat → Int} {ls : List (Option Value)} {st : List Value} {M : zm_I} {Post : Option Value → zm_I → Prop} {k : zm_S → zm_R} {kn : zm_N} {σ : zt_St} {R : List zt_St × List (Nat × zt_St)} {w0 wl : zm_L} {U : zt_U}
theorem zt_rd_ok (hS : zt_S E s σ ls st M) (n i : Nat) : zt_v ls M s (zt_rd E.1 σ.2.2.1 n i) (.int (M.1 n i)) := by
  have h0 := zt_gb_ok (n := n) (lo := i) (hi := i) (st := 0) (i := i) hS.2.2.2.2.1 ⟨Nat.le_refl _, Nat.le_refl _, ⟨0, by simp⟩⟩
  have h1 := zt_look_ok (ls := ls) (M := M) (k := (1, n, i)) (z := (M.1 n i).toInt) rfl σ.2.2.1 _ hS.2.2.1 h0.1 h0.2
  unfold zt_rd
  generalize zt_look σ.2.2.1 (1, n, i) (zt_gb E.1 n i i 0) = q at h1 ⊢
  obtain ⟨lo, hi⟩ := q
  refine ⟨_, rfl, ⟨h1.1, h1.2, zt_one_dvd _⟩, fun nm hnm => ?_⟩
  rcases List.mem_cons.mp hnm with rfl | hnm
  · exact (Int.add_zero _).symm
  · cases hnm
theorem zt_rv_ok {v : Value} (hS : zt_S E s σ ls st M) (h : zt_rv v σ = some R) {x : zm_R} (hx : x = kn ls (v :: st) M) : zt_dn E s Post k kn R x := by
  unfold zt_rv at h
  split at h
  · next q => exact zt_pu_ok (a := (2, .ofNat q, .ofNat 0, 0, [])) (v := .ref q) hS rfl hx h
  · exact zt_pu_ok (a := (3, .ofNat 0, .ofNat 0, 0, [])) (v := .null) hS rfl hx h
  · cases h
theorem zt_gf_ok (hw : zt_Wd w0 wl) {ci f : Nat} (hS : zt_S E s σ ls st M) (h : zt_gf w0 E.1 ci f σ = some R) : zt_dn E s Post k kn R (zm_gf kn wl ci f ls st M) := by
  unfold zt_gf at h
  split at h
  · next a r hr =>
    split at h
    · next hk =>
      obtain ⟨v, t, rfl, hv, hS2⟩ := zt_top1 hS hr
      have e := zt_v_ref hv (Nat.eq_of_beq_eq_true hk)
      subst e
      split at h
      · next c rs hw0 =>
        split at h
        · next hc =>
          simp only [Bool.and_eq_true, Bool.not_eq_true'] at hc
          have hwl := hw.2 _ _ hw0 hc.2
          unfold zm_gf
          dsimp only
          rw [hwl]
          dsimp only
          rw [hc.1]
          dsimp only
          split at h
          · next hty => exact zt_pu_ok hS2 (zt_v_ltop (M.2 a.2.1.toNat f)) (by rw [hty]; rfl) h
          · next hty => exact zt_rv_ok hS2 h (by rw [hty]; rfl)
          · next hty => exact zt_rv_ok hS2 h (by rw [hty]; rfl)
          · next hty => exact zt_pu_ok hS2 (zt_rd_ok hS2 _ f) (by rw [hty]; rfl) h
          · next hty => exact zt_pu_ok hS2 (zt_rd_ok hS2 _ f) (by rw [hty]; rfl) h
          · cases h
        · cases h
      · cases h
    · cases h
  · cases h
/-- what is written into a cell -/
theorem zt_wr_ok (hU : zt_UR U E.2.2.2.1) (hS : zt_S E s σ ls st M) {n lo hi sd i : Nat} (hx : zt_ix lo hi sd i) {x : Int32} {a b : Int} (h1 : a ≤ x.toInt) (h2 : x.toInt ≤ b) (hf : zt_fit E.1 n lo hi sd a b = true) (hW : zt_inW E.2.1 n lo hi = true) {ks : List (Nat × Nat × Nat)} (hk : ∀ q ∈ ks, zt_cv ls (zm_w M.1 n i x, M.2) q x.toInt) : zt_S E s (zt_wr U n lo hi ks a b σ) ls st (zm_w M.1 n i x, M.2) := by
  have hm : ∀ n' i', zt_hit [(n, lo, hi)] n' i' = false → (zm_w M.1 n i x, M.2).1 n' i' = M.1 n' i' ∧ (zm_w M.1 n i x, M.2).2 n' i' = M.2 n' i' := by
    intro n' i' h'
    refine ⟨?_, rfl⟩
    dsimp only [zm_w]
    rw [if_neg]
    rintro ⟨rfl, rfl⟩
    rw [zt_inW_hit (lo := lo) (hi := hi) (by simp [zt_inW]) hx.1 hx.2.1] at h'
    cases h'
  have hS' := zt_keepM hU hS hm (zt_Gs_w hS.2.2.2.2.1 hx h1 h2 hf) (zt_fr_w hS.2.2.2.2.2.1 (zt_inW_hit hW hx.1 hx.2.1) x)
  unfold zt_wr
  refine ⟨hS'.1, hS'.2.1, fun c hc => ?_, hS'.2.2.2⟩
  rcases List.mem_append.mp hc with hc | hc
  · obtain ⟨q, hq, rfl⟩ := List.mem_map.mp hc
    exact zt_cv_cs (hk q hq) h1 h2
  · exact hS'.2.2.1 c hc
theorem zt_wrl_ok (hU : zt_UR U E.2.2.2.1) (hS : zt_S E s σ ls st M) {n lo hi i : Nat} (h1 : lo ≤ i) (h2 : i ≤ hi) {x : Int64} (hW : zt_inW E.2.1 n lo hi = true) (a b : Int) : zt_S E s (zt_wr U n lo hi [] a b σ) ls st (M.1, zm_wl M.2 n i x) := by
  have hm : ∀ n' i', zt_hit [(n, lo, hi)] n' i' = false → (M.1, zm_wl M.2 n i x).1 n' i' = M.1 n' i' ∧ (M.1, zm_wl M.2 n i x).2 n' i' = M.2 n' i' := by
    intro n' i' h'
    refine ⟨rfl, ?_⟩
    dsimp only [zm_wl]
    rw [if_neg]
    rintro ⟨rfl, rfl⟩
    rw [zt_inW_hit (lo := lo) (hi := hi) (by simp [zt_inW]) h1 h2] at h'
    cases h'
  exact zt_keepM hU hS hm hS.2.2.2.2.1 (zt_fr_wl hS.2.2.2.2.2.1 (zt_inW_hit hW h1 h2) x)
theorem zt_pf_ok (hU : zt_UR U E.2.2.2.1) (hw : zt_Wd w0 wl) {ci f : Nat} (hS : zt_S E s σ ls st M) (h : zt_pf w0 E.1 E.2.1 U ci f σ = some R) : zt_dn E s Post k kn R (zm_pf kn wl ci f ls st M) := by
  unfold zt_pf at h
  unfold zm_pf
  split at h
  · cases h
  · next hfin =>
    rw [hfin]
    dsimp only
    split at h
    · next v a r hr =>
      split at h
      · next hk =>
        obtain ⟨v', u, t, rfl, hv, hu, hS2⟩ := zt_two hS hr
        have e := zt_v_ref hu (Nat.eq_of_beq_eq_true hk)
        subst e
        have ix : zt_ix f f 0 f := ⟨Nat.le_refl _, Nat.le_refl _, ⟨0, by simp⟩⟩
        split at h
        · next c rs hw0 =>
          split at h
          · next hc =>
            simp only [Bool.and_eq_true, Bool.not_eq_true'] at hc
            have hwl := hw.2 _ _ hw0 hc.1.2
            split at h
            · next hty =>
              split at h
              · next hl =>
                cases h
                obtain ⟨x, rfl, -⟩ := zt_isL_ok hv hl
                refine zt_dn1 ?_ (zt_wrl_ok (x := x) hU hS2 (Nat.le_refl f) (Nat.le_refl f) hc.2 _ _)
                dsimp only
                rw [hwl]
                dsimp only
                rw [hc.1.1, hty]
              · cases h
            · next hty =>
              split at h
              · next hl =>
                simp only [Bool.and_eq_true] at hl
                cases h
                obtain ⟨x, rfl, hx, -⟩ := zt_v_int hv (Nat.eq_of_beq_eq_true hl.1)
                refine zt_dn1 ?_ (zt_wr_ok (x := x) hU hS2 ix hx.1 hx.2.1 hl.2 hc.2 (fun q hq => ?_))
                · dsimp only
                  rw [hwl]
                  dsimp only
                  rw [hc.1.1, hty]
                · rcases List.mem_cons.mp hq with rfl | hq
                  · show x.toInt = (zm_w M.1 _ f x _ f).toInt
                    simp [zm_w]
                  · cases hq
              · cases h
            · next hty =>
              split at h
              · next hl =>
                simp only [Bool.and_eq_true, zt_le_ok] at hl
                cases h
                obtain ⟨x, rfl, hx, -⟩ := zt_v_int hv (Nat.eq_of_beq_eq_true hl.1.1.1)
                have h01 : x = 0 ∨ x = 1 := by
                  have g1 := hx.1
                  have g2 := hx.2.1
                  have e0 : (Int.ofNat 0) = 0 := rfl
                  have e1 : (Int.ofNat 1) = 1 := rfl
                  have z0 : (0 : Int32).toInt = 0 := by decide
                  have z1 : (1 : Int32).toInt = 1 := by decide
                  rcases (show x.toInt = 0 ∨ x.toInt = 1 by omega) with g | g
                  · exact Or.inl (Int32.toInt_inj.mp (by rw [g, z0]))
                  · exact Or.inr (Int32.toInt_inj.mp (by rw [g, z1]))
                refine zt_dn1 ?_ (zt_wr_ok (x := x) hU hS2 ix hx.1 hx.2.1 hl.1.1.2 hc.2 (fun q hq => ?_))
                · dsimp only
                  rw [hwl]
                  dsimp only
                  rw [hc.1.1, hty]
                  dsimp only
                  rw [if_pos h01]
                · rcases List.mem_cons.mp hq with rfl | hq
                  · show x.toInt = (zm_w M.1 _ f x _ f).toInt
                    simp [zm_w]
                  · cases hq
              · cases h
            · cases h
          · cases h
        · cases h
      · cases h
    · cases h
-- elements
theorem zt_idx_ok {i : zt_A} {len : Nat} (h : zt_idx i len = true) {v : Value} (hv : zt_v ls M s i v) : ∃ x : Int32, v = .int x ∧ ¬ (x < 0 ∨ len ≤ x.toNatClampNeg) ∧ zt_ix i.2.1.toNat i.2.2.1.toNat i.2.2.2.1 x.toNatClampNeg ∧ zt_rg i x.toInt ∧ zt_nms ls M s i.2.2.2.2 x.toInt := by
  simp only [zt_idx, Bool.and_eq_true, zt_le_ok, Nat.ble_eq] at h
  obtain ⟨x, rfl, hx, hn⟩ := zt_v_int hv (Nat.eq_of_beq_eq_true h.1.1)
  have h1 := hx.1
  have h2 := hx.2.1
  have e0 : (Int.ofNat 0) = 0 := rfl
  have ec : x.toNatClampNeg = x.toInt.toNat := rfl
  have z0 : (0 : Int32).toInt = 0 := by decide
  refine ⟨x, rfl, ?_, ⟨by omega, by omega, ?_⟩, hx, hn⟩
  · rintro (hlt | hle)
    · have := Int32.lt_iff_toInt_lt.mp hlt
      omega
    · omega
  · have := hx.2.2
    have e : ((x.toNatClampNeg - i.2.1.toNat : Nat) : Int) = x.toInt - i.2.1 := by omega
    rw [← e] at this
    exact Int.natCast_dvd_natCast.mp this
theorem zt_E2_ok {n : Nat} {x : Int32} {z : Int} {Mz : zm_I} {L : List (Option zt_A)} (hl : zt_lo ls M s L) (hz : z = (Mz.1 n x.toNatClampNeg).toInt) : ∀ ns : List zt_N, zt_nms ls M s ns x.toInt → ∀ q ∈ zt_E2 L n ns, q.1 = 2 ∧ zt_cv ls Mz q z
  | [], _, q, hq => by cases hq
  | nm :: r, hn, q, hq => by
    unfold zt_E2 at hq
    have hr : zt_nms ls M s r x.toInt := fun m hm => hn m (List.mem_cons_of_mem _ hm)
    split at hq
    · next hc =>
      simp only [Bool.and_eq_true, zt_eq_ok] at hc
      rcases List.mem_cons.mp hq with rfl | hq
      · obtain ⟨t, a, b, d⟩ := nm
        have ht0 : t = 0 := Nat.eq_of_beq_eq_true hc.1.1
        subst ht0
        obtain ⟨w, y, h1, h2, h3⟩ := hn _ List.mem_cons_self
        have h4 := hc.2
        unfold zt_isI at h4
        split at h4
        · next c hc4 =>
          obtain ⟨v, g1, g2⟩ := hl.2 _ c hc4
          obtain ⟨u, rfl, -⟩ := zt_v_int g2 (Nat.eq_of_beq_eq_true h4)
          dsimp only at h1 g1
          rw [h1] at g1
          cases g1
          cases h2
          have hd : d = 0 := hc.1.2
          dsimp only at h3
          have : x = u := Int32.toInt_inj.mp (by omega)
          subst this
          exact ⟨rfl, x, h1, hz⟩
        · cases h4
      · exact zt_E2_ok hl hz r hr q hq
    · exact zt_E2_ok hl hz r hr q hq
theorem zt_keys_ok {n : Nat} {x : Int32} {z : Int} {Mz : zm_I} {L : List (Option zt_A)} {i : zt_A} (hl : zt_lo ls M s L) (hz : z = (Mz.1 n x.toNatClampNeg).toInt) (hi : zt_rg i x.toInt) (hn : zt_nms ls M s i.2.2.2.2 x.toInt) (q : Nat × Nat × Nat) (hq : q ∈ zt_keys L n i) : (q.1 = 1 ∨ q.1 = 2) ∧ zt_cv ls Mz q z := by
  unfold zt_keys at hq
  split at hq
  · next hc =>
    rcases List.mem_cons.mp hq with rfl | hq
    · refine ⟨Or.inl rfl, ?_⟩
      show z = (Mz.1 n i.2.1.toNat).toInt
      rw [hz, ← (zt_cst_ok hc hi).1]
      rfl
    · have := zt_E2_ok hl hz _ hn q hq
      exact ⟨Or.inr this.1, this.2⟩
  · have := zt_E2_ok hl hz _ hn q hq
    exact ⟨Or.inr this.1, this.2⟩
theorem zt_looks_ok {z : Int} {cs : List zt_C} (hc : ∀ c ∈ cs, zt_cs ls M c) : ∀ (ks : List (Nat × Nat × Nat)) (b : Int × Int), (∀ q ∈ ks, zt_cv ls M q z) → b.1 ≤ z → z ≤ b.2 → (zt_looks cs ks b).1 ≤ z ∧ z ≤ (zt_looks cs ks b).2
  | [], b, _, h1, h2 => ⟨h1, h2⟩
  | k :: ks, b, hk, h1, h2 => by
    have := zt_look_ok (hk k List.mem_cons_self) cs b hc h1 h2
    exact zt_looks_ok hc ks _ (fun q hq => hk q (List.mem_cons_of_mem _ hq)) this.1 this.2
theorem zt_rde_ok (hS : zt_S E s σ ls st M) {n : Nat} {i : zt_A} {x : Int32} (hx : zt_ix i.2.1.toNat i.2.2.1.toNat i.2.2.2.1 x.toNatClampNeg) (hi : zt_rg i x.toInt) (hn : zt_nms ls M s i.2.2.2.2 x.toInt) : zt_v ls M s (zt_rde E.1 σ.1 σ.2.2.1 n i) (.int (M.1 n x.toNatClampNeg)) := by
  have hk := zt_keys_ok (n := n) (Mz := M) hS.1 rfl hi hn
  have h0 := zt_gb_ok (n := n) hS.2.2.2.2.1 hx
  have h1 := zt_looks_ok (M := M) hS.2.2.1 (zt_keys σ.1 n i) _ (fun q hq => (hk q hq).2) h0.1 h0.2
  unfold zt_rde
  generalize zt_looks σ.2.2.1 (zt_keys σ.1 n i) (zt_gb E.1 n i.2.1.toNat i.2.2.1.toNat i.2.2.2.1) = b at h1 ⊢
  obtain ⟨lo, hi'⟩ := b
  refine ⟨_, rfl, ⟨h1.1, h1.2, zt_one_dvd _⟩, fun nm hnm => ?_⟩
  obtain ⟨q, hq, rfl⟩ := List.mem_map.mp hnm
  obtain ⟨h2, h3⟩ := hk q hq
  obtain ⟨t, a, b⟩ := q
  rcases h2 with h2 | h2
  · dsimp only at h2
    subst h2
    have h3 : (M.1 n x.toNatClampNeg).toInt = (M.1 a b).toInt := h3
    show (M.1 n x.toNatClampNeg).toInt = (M.1 a b).toInt + 0
    omega
  · dsimp only at h2
    subst h2
    obtain ⟨y, h4, h5⟩ := h3
    exact ⟨y, h4, by show _ = _ + (0 : Int); dsimp only at h5 ⊢; omega⟩
end ZTM
