/-- from the entry, for every script of at most 3072 ints, the law comes to its end with true -/
theorem whole_start {p : Program} {e : Env} {s : State} {m : MethodId} {below : List Frame} {meth : Method} {c : Code} (l : Launch) (hflags : l.flags = flags0) {b L : Nat} {xs : Nat → Int32} (hL : L ≤ 3072) (C0 : lw_At p s m meth c b L xs) : W p l e room_1 s m #[Value.ref b] below meth c s.heap [] 0 0 (zf_Z below #[Value.ref b] s) (entryFrame m ([Value.ref b] : List Value).toArray 4) := by
  obtain ⟨hx, hb, hr, hml, hown, hts, hX, hbl, hlk, hgv⟩ := C0
  obtain ⟨D, cA, hK⟩ := zs_known hts
  obtain ⟨g0, hZ0⟩ := zs_str hts hgv
  have hAO := zs_AO hts
  have hZ : zm_Z (fun k => if k = 100 then b else g0 k) (fun q => s.heap.size ≤ q) s s.heap := by
    obtain ⟨⟨adV, ⟨h1, h2⟩, hz, hzq⟩, h3⟩ := hZ0
    have hg : ∀ i, i < 13 → (if i = 100 then b else g0 i) = g0 i := fun i hi => if_neg (by omega)
    refine ⟨⟨adV, ⟨fun i hi => ?_, fun i j hi hj he => h2 i j hi hj ?_⟩, hz, hzq⟩, fun i q hq => ?_⟩
    · simp only [hg i hi]
      exact h1 i hi
    · simp only [hg i hi, hg j hj] at he
      exact he
    · have hi : i < 13 := (List.getElem?_eq_some_iff.mp hq).1
      simp only [hg i hi]
      exact h3 i q hq
  have hB : zf_B p s m meth c b L xs D cA (fun k => if k = 100 then b else g0 k) := by
    refine ⟨fun T h1 h2 h c0 s0 hg hc hs => ⟨hx, hb, hml, hown, fun w hw => hts w (zs_in hw), hK, by rw [h1]; exact hr, hlk, ?_, ⟨hc, hs⟩, fun x hx9 => ?_⟩, hAO⟩
    · rw [show h 1 = (fun k => if k = 100 then b else g0 k) from funext hg]
      exact hZ
    · have hb100 : h 1 100 = b := by rw [hg]; rfl
      rcases h2 with h2 | h2
      · rw [h2] at hx9
        cases hx9
      · rw [h2] at hx9
        cases hx9
        rw [hb100]
        exact ⟨hX, hbl, Nat.not_le.mpr hbl⟩
  have hnp : ∀ (pc idx a b : Nat), zm_look zU_L0.1 pc ≠ some (.putfield idx, a, b) := fun pc idx a b hq => by
    have := List.all_eq_true.mp (show zA_L0.all (fun q => match q.2.1 with
      | .putfield _ => false
      | _ => true) = true by decide +kernel) _ (zm_look_mem hq)
    cases this
  generalize hh0 : (fun (a k : Nat) => if a = 1 then (if k = 100 then b else g0 k) else 0) = h0
  have hg0 : ∀ n, h0 1 n = (fun k => if k = 100 then b else g0 k) n := fun n => by rw [← hh0]; rfl
  have hzn : zn_B p s m #[Value.ref b] meth c R_law code 4 ([], [], [], ret, none) D cA (fun k => if k = 100 then b else g0 k) (fun q => s.heap.size ≤ q) room_1 := ⟨hB.1 _ rfl (Or.inl rfl), fun q hq => hq, hAO⟩
  have hgo := zn_go_ok (l := l) (e := e) (below := below) (Q := zf_Z below #[Value.ref b] s) hzn (Or.inr hnp) ⟨rfl, rfl⟩ (zx_L0 l) 12 h0 zL_S0 zL_S1 hg0 (Nat.zero_le _) (Nat.zero_le _) zL_go
  rw [lg_entry_eq]
  have hl := lv_entry ([Value.ref b] : List Value) (n := 4) (by simp [lg_sl, Value.category])
  have hP0 : va_P D zm_cl (zm_ws cA h0 [] (fun _ _ => 0, fun _ _ => 0)) s.heap := fun k q hq => by simp [zm_ws] at hq
  have hD0 : va_D (fun q => s.heap.size ≤ q) (zm_ws cA h0 [] (fun _ _ => 0, fun _ _ => 0)) := ⟨fun i j x y hi => by simp [zm_ws] at hi, fun k q hq => by simp [zm_ws] at hq⟩
  refine hgo.2 (fun h1 hx1 => ?_) hD0 (fun a _ => ⟨fun _ => rfl, fun _ => rfl⟩) (fun n C len rs hq => by simp [zL_S0] at hq) s.heap [] _ ⟨rfl, hl.1, hl.2.1, fun k v hk => ?_⟩ hP0 va_S.rf
  · have hg1 : ∀ n, h1 1 n = (fun k => if k = 100 then b else g0 k) n := fun n => (hx1.2 n).trans (hg0 n)
    rw [zL_S1_eq]
    intro hD1 hfr1 hw1 H locs la hl1 hP1 hS1
    have hP2 : va_P D zm_cl (zm_ws cA (zn_hp zL_p h1) (zL_w []) zL_M) H := by rw [zL_w_nil]; exact zn_perm_P zL_perm hP1
    have hD2 : va_D (fun q => s.heap.size ≤ q) (zm_ws cA (zn_hp zL_p h1) (zL_w []) zL_M) := by rw [zL_w_nil]; exact zn_perm_D zL_perm hD1
    have hg2 : ∀ n, zn_hp zL_p h1 1 n = (fun k => if k = 100 then b else g0 k) n := hg1
    have hl2 : zm_lok (zn_hp zL_p h1) 4 (zl_lb (zl_i 0)) la := by
      refine ⟨rfl, hl1.2.1, hl1.2.2.1, fun k v hk => ?_⟩
      match k, hk with
      | 0, hk => cases hk; exact hl1.2.2.2 0 _ rfl
      | 1, hk => cases hk; exact hl1.2.2.2 1 _ rfl
      | 2, hk => cases hk; exact hl1.2.2.2 2 _ rfl
      | 3, hk => cases hk; exact hl1.2.2.2 3 _ rfl
      | k + 4, hk => cases hk
    exact zf_loop hB hL 512 0 (by omega) (by omega) [] (zn_hp zL_p h1) zL_M 196 12746 (by decide) hg2 hD2 (Nat.le_of_ble_eq_true rfl) (Nat.le_of_ble_eq_true rfl) zl_start zr_start H locs la hl2 hP2 hS1
  · match k, hk with
    | 0, hk =>
      cases hk
      have hb100 : h0 1 100 = b := by rw [hg0]; rfl
      show _ = some (Slot.val (Value.ref (h0 1 100)))
      rw [hb100]
      rfl
    | 1, hk => cases hk
    | 2, hk => cases hk
    | 3, hk => cases hk
    | k + 4, hk => cases hk
