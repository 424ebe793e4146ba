/-! CONTRACTS BY HAND: what they begin with -/
theorem zh_wd {w0 wl : zm_L} (h : zt_Wd w0 wl) (hh : w0.all (fun d => !zt_hid d.1) = true) : wl = w0 := by
  apply List.ext_getElem?
  intro n
  cases e : w0[n]? with
  | none =>
    have : w0.length ≤ n := List.getElem?_eq_none_iff.mp e
    exact List.getElem?_eq_none_iff.mpr (by rw [h.1]; exact this)
  | some d =>
    have := List.all_eq_true.mp hh d (List.mem_of_getElem? e)
    exact h.2 n d e (by simpa using this)
theorem zh_con {v w : Nat} {hd : Nat × Option Nat × Bool × List (Nat × Nat)} {w0 : zm_L} {G : zt_G} {args : List zt_A} {pre : List zt_C} {fl : List Nat} {W : zt_W} {outs : List zt_O} {F : zm_L → List Value → zm_I → zm_R} (hOm : zo_Om[w]? = some (w0, G)) (hh : w0.all (fun d => !zt_hid d.1) = true)
    (H : ∀ as M, zt_sts [] M (fun _ => 0) args as → (∀ c ∈ pre, zt_cs (zm_sl as) M c) → (∀ f ∈ fl, zo_Rel v f M) → zt_Gs G M → ∃ x N, F w0 as M = some (x, N) ∧ zt_Gs G N ∧ zt_fr W M N ∧ ∃ o ∈ outs, zt_res1 (zo_Rel v) as x N o) : zt_Con zo_Om (zo_Rel v) (hd, (w, (args, pre, fl), W, outs)) F := by
  intro w1 G1 h1 wl as M hW hs hc hf hG
  have h1 : zo_Om[w]? = some (w1, G1) := h1
  rw [hOm] at h1
  cases h1
  obtain rfl := zh_wd hW hh
  exact H as M hs hc hf hG
theorem zh_no {α : Type} {P : α → Prop} : ∀ q ∈ ([] : List α), P q := fun _ h => absurd h List.not_mem_nil
theorem zh_fr_id {W : zt_W} {M : zm_I} : zt_fr W M M := fun _ _ _ => ⟨rfl, rfl⟩
theorem zh_pure {v w : Nat} {hd : Nat × Option Nat × Bool × List (Nat × Nat)} {w0 : zm_L} {G : zt_G} {args : List zt_A} {pre : List zt_C} {fl : List Nat} {W : zt_W} {outs : List zt_O} {F : zm_L → List Value → zm_I → zm_R} (hOm : zo_Om[w]? = some (w0, G)) (hh : w0.all (fun d => !zt_hid d.1) = true)
    (H : ∀ as M, zt_sts [] M (fun _ => 0) args as → (∀ c ∈ pre, zt_cs (zm_sl as) M c) → (∀ f ∈ fl, zo_Rel v f M) → zt_Gs G M → ∃ x, F w0 as M = some (x, M) ∧ ∃ o ∈ outs, zt_res1 (zo_Rel v) as x M o) : zt_Con zo_Om (zo_Rel v) (hd, (w, (args, pre, fl), W, outs)) F :=
  zh_con hOm hh (fun as M hs hc hf hG => by
    obtain ⟨x, h1, h2⟩ := H as M hs hc hf hG
    exact ⟨x, M, h1, hG, zh_fr_id, h2⟩)
section ZHA
variable {ls : List (Option Value)} {M : zm_I} {s : Nat → Int}
theorem zh_nil {as : List Value} (h : zt_sts ls M s [] as) : as = [] := by
  cases as with
  | nil => rfl
  | cons _ _ => exact h.elim
theorem zh_cons {a : zt_A} {r : List zt_A} {as : List Value} (h : zt_sts ls M s (a :: r) as) : ∃ v vs, as = v :: vs ∧ zt_v ls M s a v ∧ zt_sts ls M s r vs := by
  cases as with
  | nil => exact h.elim
  | cons v vs => exact ⟨v, vs, rfl, h.1, h.2⟩
theorem zh_ref {n : Nat} {r : List zt_A} {as : List Value} (h : zt_sts ls M s (zjr n :: r) as) : ∃ vs, as = .ref n :: vs ∧ zt_sts ls M s r vs := by
  obtain ⟨v, vs, rfl, h1, h2⟩ := zh_cons h
  have : v = .ref n := h1
  subst this
  exact ⟨vs, rfl, h2⟩
theorem zh_txt {k : Nat} {r : List zt_A} {as : List Value} (h : zt_sts ls M s ((4, .ofNat k, .ofNat 0, 0, []) :: r) as) : ∃ vs, as = .retAddr k :: vs ∧ zt_sts ls M s r vs := by
  obtain ⟨v, vs, rfl, h1, h2⟩ := zh_cons h
  have : v = .retAddr k := h1
  subst this
  exact ⟨vs, rfl, h2⟩
theorem zh_null {a b : Int} {c : Nat} {ns : List zt_N} {r : List zt_A} {as : List Value} (h : zt_sts ls M s ((3, a, b, c, ns) :: r) as) : ∃ vs, as = .null :: vs ∧ zt_sts ls M s r vs := by
  obtain ⟨v, vs, rfl, h1, h2⟩ := zh_cons h
  have : v = .null := h1
  subst this
  exact ⟨vs, rfl, h2⟩
theorem zh_int {lo hi : Int} {r : List zt_A} {as : List Value} (h : zt_sts ls M s (zj lo hi :: r) as) : ∃ (x : Int32) (vs : List Value), as = .int x :: vs ∧ lo ≤ x.toInt ∧ x.toInt ≤ hi ∧ zt_sts ls M s r vs := by
  obtain ⟨v, vs, rfl, h1, h2⟩ := zh_cons h
  obtain ⟨x, rfl, hr, -⟩ := h1
  exact ⟨x, vs, rfl, hr.1, hr.2.1, h2⟩
theorem zh_top {r : List zt_A} {as : List Value} (h : zt_sts ls M s (zt_top :: r) as) : ∃ (x : Int32) (vs : List Value), as = .int x :: vs ∧ zt_sts ls M s r vs := by
  obtain ⟨v, vs, rfl, h1, h2⟩ := zh_cons h
  obtain ⟨x, rfl, hr, -⟩ := h1
  exact ⟨x, vs, rfl, h2⟩
theorem zh_long {lo hi : Int} {st : Nat} {r : List zt_A} {as : List Value} (h : zt_sts ls M s ((1, lo, hi, st, []) :: r) as) : ∃ (x : Int64) (vs : List Value), as = .long x :: vs ∧ lo ≤ x.toInt ∧ x.toInt ≤ hi ∧ zt_sts ls M s r vs := by
  obtain ⟨v, vs, rfl, h1, h2⟩ := zh_cons h
  obtain ⟨x, rfl, hr, -⟩ := h1
  exact ⟨x, vs, rfl, hr.1, hr.2.1, h2⟩
theorem zh_v_int {lo hi : Int} {x : Int32} (h1 : lo ≤ x.toInt) (h2 : x.toInt ≤ hi) : zt_v ls M s (zj lo hi) (.int x) := ⟨x, rfl, ⟨h1, h2, zt_one_dvd _⟩, zt_nms_nil _⟩
end ZHA
theorem zh_res {Rel : Nat → zm_I → Prop} {as : List Value} {N : zm_I} {lo hi : Int} {x : Int32} (h1 : lo ≤ x.toInt) (h2 : x.toInt ≤ hi) : zt_res1 Rel as (some (.int x)) N (some (zj lo hi), [], [], []) := ⟨⟨_, rfl, zh_v_int h1 h2⟩, zh_no, zh_no, zh_no⟩
theorem zh_resF {Rel : Nat → zm_I → Prop} {as : List Value} {N : zm_I} {lo hi : Int} {x : Int32} {fl : List Nat} (h1 : lo ≤ x.toInt) (h2 : x.toInt ≤ hi) (hf : ∀ f ∈ fl, Rel f N) : zt_res1 Rel as (some (.int x)) N (some (zj lo hi), [], [], fl) := ⟨⟨_, rfl, zh_v_int h1 h2⟩, zh_no, zh_no, hf⟩
/-- what a boolean comes to -/
def zh_bool (fl : List Nat) : List zt_O := [(some (zj (.ofNat 0) (.ofNat 0)), [], [], fl), (some (zj (.ofNat 1) (.ofNat 1)), [], [], fl)]
theorem zh_bools {Rel : Nat → zm_I → Prop} {as : List Value} {N : zm_I} {x : Int32} {fl : List Nat} (h : x = 0 ∨ x = 1) (hf : ∀ f ∈ fl, Rel f N) : ∃ o ∈ zh_bool fl, zt_res1 Rel as (some (.int x)) N o := by
  rcases h with rfl | rfl
  · exact ⟨_, List.mem_cons_self, zh_resF (by decide) (by decide) hf⟩
  · exact ⟨_, List.mem_cons_of_mem _ List.mem_cons_self, zh_resF (by decide) (by decide) hf⟩
theorem zh_ga {G : zt_G} {M : zm_I} (hG : zt_Gs G M) {n : Nat} {b : Int × Int} (h : G[n]? = some [b]) (i : Nat) : b.1 ≤ (M.1 n i).toInt ∧ (M.1 n i).toInt ≤ b.2 := hG n [b] h i b (by simp [Nat.mod_one])
theorem zh_add {a b : Int32} (h1 : -2147483648 ≤ a.toInt + b.toInt) (h2 : a.toInt + b.toInt ≤ 2147483647) : (a + b).toInt = a.toInt + b.toInt := by
  rw [Int32.toInt_add]; exact zt_bmI h1 h2
theorem zh_sub {a b : Int32} (h1 : -2147483648 ≤ a.toInt - b.toInt) (h2 : a.toInt - b.toInt ≤ 2147483647) : (a - b).toInt = a.toInt - b.toInt := by
  rw [Int32.toInt_sub]; exact zt_bmI h1 h2
theorem zh_mul {a b : Int32} (h1 : -2147483648 ≤ a.toInt * b.toInt) (h2 : a.toInt * b.toInt ≤ 2147483647) : (a * b).toInt = a.toInt * b.toInt := by
  rw [Int32.toInt_mul]; exact zt_bmI h1 h2
theorem zh_of {n : Nat} (h : n < 2147483648) : (Int32.ofNat n).toInt = n := Int32.toInt_ofNat_of_lt h
theorem zh_in {x : Int32} {n : Nat} (h0 : 0 ≤ x.toInt) (h1 : x.toInt < n) : ¬ (x < 0 ∨ n ≤ x.toNatClampNeg) := by
  have h2 := zs_clamp h0
  intro h
  rcases h with h | h
  · rw [Int32.lt_iff_toInt_lt] at h
    simp at h
    omega
  · omega
theorem zh_ofZ {x : Int32} (h0 : 0 ≤ x.toInt) : x = Int32.ofNat x.toNatClampNeg := by
  have h := zt_rgI x
  have h2 := zs_clamp h0
  apply Int32.toInt_inj.mp
  rw [zh_of (by omega)]
  omega
