/-! A METHOD'S CONTRACT OUT OF ITS TABLE -/
theorem zm_cwok_ok : zm_cwok := by
  intro ci r hr
  match ci, hr with
  | 0, hr => cases hr; exact ⟨zm_lay_ok 1 134 17 RX0 TX0 (by decide +kernel), tyX0_ok, nmX0, rfl⟩
  | 1, hr => cases hr; exact ⟨zm_lay_ok 2 51 5 RX1 TX1 (by decide +kernel), tyX1_ok, nmX1, rfl⟩
  | 2, hr => cases hr; exact ⟨zm_lay_ok 1 204 10 RX2 TX2 (by decide +kernel), tyX2_ok, nmX2, rfl⟩
  | 3, hr => cases hr; exact ⟨zm_lay_ok 1 231 4 RX3 TX3 (by decide +kernel), tyX3_ok, nmX3, rfl⟩
  | 4, hr => cases hr; exact ⟨zm_lay_ok 2 92 3 RX4 TX4 (by decide +kernel), tyX4_ok, nmX4, rfl⟩
  | 5, hr => cases hr; exact ⟨zm_lay_ok 2 74 3 RX5 TX5 (by decide +kernel), tyX5_ok, nmX5, rfl⟩
  | 6, hr => cases hr; exact ⟨zm_lay_ok 2 19 7 RX6 TX6 (by decide +kernel), tyX6_ok, nmX6, rfl⟩
  | 7, hr => cases hr; exact ⟨zm_lay_ok 2 110 3 RX7 TX7 (by decide +kernel), tyX7_ok, nmX7, rfl⟩
  | 8, hr => cases hr; exact ⟨zm_lay_ok 1 44 7 RX8 TX8 (by decide +kernel), tyX8_ok, nmX8, rfl⟩
  | 9, hr => cases hr; exact ⟨zm_lay_ok 2 130 13 RX9 TX9 (by decide +kernel), tyX9_ok, nmX9, rfl⟩
  | 10, hr => cases hr; exact ⟨zm_lay_ok 6 59 53 RX10 TX10 (by decide +kernel), tyX10_ok, nmX10, rfl⟩
  | n + 11, hr => simp at hr
theorem zm_mathok_ok : zm_mathok := ⟨zm_cw 1 16 rfl rfl, ⟨zm_cw 3 159 rfl rfl, zm_cw 3 160 rfl rfl⟩, ⟨zm_cw 3 34 rfl rfl, zm_cw 3 35 rfl rfl⟩, ⟨zm_cw 3 155 rfl rfl, zm_cw 3 156 rfl rfl⟩⟩
section ZMK
variable {p : Program} {l : Launch} {e : Env} {R : Room} {s : State} {m : MethodId} {args : Array Value} {below : List Frame} {meth : Method} {c : Code}
variable {D : va_G} {cA : FieldType → ClassId} {h : Nat → Nat → Nat} {wl : zm_L} {A : Nat → Prop} {nL c0 s0 : Nat} {own : String} {cc : ByteArray} {T : zm_T} {r : Option Value × zm_I} {k : zm_S → zm_R}
theorem zm_seq_ok (B : zm_B p s m args meth c own cc nL T D cA h A R c0 s0) (hok : zm_ok l R own cc T) {M0 : zm_I} (hD : va_D A (zm_ws cA h wl M0)) (hA : ∀ q, s.heap.size ≤ q → A q) (hw : zm_wok wl)
    (hk : ∀ S, k S = some r → zm_G p l e R s m args below meth c (MQ below (zm_Q D cA h wl A r) args s c0 s0 A) D cA h wl A nL c0 s0 S) :
    ∀ (b : List (Instr × Nat × Nat)) (pc : Nat) (ls : List (Option Value)) (st : List Value) (M : zm_I), zm_sok R own cc b pc → zm_seq T wl k b pc ls st M = some r → zm_G p l e R s m args below meth c (MQ below (zm_Q D cA h wl A r) args s c0 s0 A) D cA h wl A nL c0 s0 (pc, ls, st, M)
  | [], pc, ls, st, M, _, hh => hk _ hh
  | (i, a, b) :: c9, pc, ls, st, M, hs, hh => zm_i zm_cwok_ok zm_mathok_ok B hok.2.1 hok.2.2 (zm_D_any hD) hA hw hs.1 hs.2.1 rfl hh hk (fun ls' st' M' h' => zm_seq_ok B hok hD hA hw hk c9 _ ls' st' M' hs.2.2 h')
theorem zm_run_ok (B : zm_B p s m args meth c own cc nL T D cA h A R c0 s0) (hok : zm_ok l R own cc T) {M0 : zm_I} (hD : va_D A (zm_ws cA h wl M0)) (hA : ∀ q, s.heap.size ≤ q → A q) (hw : zm_wok wl) :
    ∀ (n : Nat) (S : zm_S), zm_run T wl n S = some r → zm_G p l e R s m args below meth c (MQ below (zm_Q D cA h wl A r) args s c0 s0 A) D cA h wl A nL c0 s0 S
  | 0, S, hh => by cases hh
  | n + 1, S, hh => by
    have hh : zm_step T wl (zm_run T wl n) S = some r := hh
    unfold zm_step at hh
    split at hh
    · next b hb => exact zm_seq_ok B hok hD hA hw (zm_run_ok B hok hD hA hw n) b S.1 S.2.1 S.2.2.1 S.2.2.2 (hok.1 _ _ hb) hh
    · cases hh
end ZMK
theorem zm_sl_lg (h : Nat → Nat → Nat) : ∀ as : List Value, lg_sl (as.map (zm_cv h)) = (zm_sl as).map (fun o => match o with
    | some v => Slot.val (zm_cv h v)
    | none => Slot.second)
  | [] => rfl
  | v :: as => by
    have ih := zm_sl_lg h as
    unfold lg_sl at ih ⊢
    simp only [List.map_cons, List.flatMap_cons]
    rw [ih]
    cases v <;> simp [zm_sl, zm_cv, Value.category]
theorem zm_pad_len : ∀ (n : Nat) (ls : List (Option Value)), (zm_pad n ls).length = n
  | 0, _ => rfl
  | n + 1, [] => by simp [zm_pad, zm_pad_len n]
  | n + 1, _ :: _ => by simp [zm_pad, zm_pad_len n]
theorem zm_pad_get : ∀ (n : Nat) (ls : List (Option Value)) (k : Nat) (v : Value), (zm_pad n ls)[k]? = some (some v) → ls[k]? = some (some v)
  | 0, _, k, v, h => by simp [zm_pad] at h
  | n + 1, [], 0, v, h => by simp [zm_pad] at h
  | n + 1, [], k + 1, v, h => by
    have := zm_pad_get n [] k v (by simpa [zm_pad] using h)
    simp at this
  | n + 1, o :: ls, 0, v, h => by simpa [zm_pad] using h
  | n + 1, o :: ls, k + 1, v, h => by
    have := zm_pad_get n ls k v (by simpa [zm_pad] using h)
    simpa using this
/-- A METHOD: its table is right, so it does what its table's run says -/
theorem zm_con {l : Launch} {y : MethodName} {cc : ByteArray} {nL : Nat} {T : zm_T} {rm : Room} (hy : plainName y.cls = true) (hok : zm_ok l rm y.cls cc T) (hscr : T.2.2.2.2 = none := by rfl) : zm_Con l y cc nL T.2.2.2.1 rm (zm_F zm_V T nL) := by
  intro D cA h wl sz av M r hF
  unfold zm_F at hF
  split at hF
  · next hlen =>
    have hlen := Nat.le_of_ble_eq_true hlen
    obtain ⟨n, hn⟩ := zm_V_run hF
    refine Met.ofW (cc := cc) (maxL := nL) (ret := T.2.2.2.1) hy rfl ?_
    intro p e s m args below meth c s₁ B hml hv
    obtain ⟨rfl, hsz, hP, hK, hD0, hw, hZ⟩ := hv
    have hts := atoms_spec (ws := Jvm.Cond.code y cc nL T.2.2.2.1 :: zm_tbl) B.pre
    have hown : s.vm.findClass y.cls = some m.cls := findClass_of_methodNamed B.named
    have hB : zm_B p s m (av.map (zm_cv h)).toArray meth c y.cls cc nL T D cA h (va_A (zm_ws cA h wl M) sz) rm 0 0 := ⟨B.exec, B.bytes, hml, hown, fun w hw9 => hts w (List.mem_cons_of_mem _ hw9), hK, B.returns, B.notSynchronized, hZ, ⟨Nat.zero_le _, Nat.zero_le _⟩, fun x hx9 => by rw [hscr] at hx9; cases hx9⟩
    subst hsz
    have hD := hD0.self (sz := s.heap.size)
    rw [lg_entry_eq]
    have hle : (lg_sl (av.map (zm_cv h))).length ≤ nL := by rw [zm_sl_lg, List.length_map]; exact hlen
    have hl := lv_entry (av.map (zm_cv h)) (n := nL) hle
    refine zm_run_ok hB hok hD (fun q hq => Or.inr hq) hw n _ hn s.heap [] _ ⟨zm_pad_len _ _, hl.1, hl.2.1, fun k v hk => ?_⟩ hP va_S.rf
    have hk := zm_pad_get _ _ _ _ hk
    have hlt : k < (zm_sl av).length := (List.getElem?_eq_some_iff.mp hk).1
    rw [List.getElem?_toArray, List.getElem?_append_left (by rw [zm_sl_lg, List.length_map]; exact hlt), zm_sl_lg, List.getElem?_map, hk]
    rfl
  · cases hF
