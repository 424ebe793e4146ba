/-! A RUN TO WHATEVER IS TO BE COME TO: no returns -/
section ZLR
variable {p : Program} {l : Launch} {e : Env} {R : Room} {s : State} {m : MethodId} {args : Array Value} {below : List Frame} {meth : Method} {c : Code}
variable {Q : State → Prop} {D : va_G} {cA : FieldType → ClassId} {h : Nat → Nat → Nat} {wl : zm_L} {A : Nat → Prop} {nL c0 s0 : Nat} {own : String} {cc : ByteArray} {T : zm_T} {r : Option Value × zm_I} {k : zm_S → zm_R}
theorem zl_seq_ok (B : zm_B p s m args meth c own cc nL T D cA h A R c0 s0) (hok : zm_ok l R own cc T) {M0 : zm_I} (hD : va_D A (zm_ws cA h wl M0)) (hA : ∀ q, s.heap.size ≤ q → A q) (hw : zm_wok wl)
    (hk : ∀ S, k S = some r → zm_G p l e R s m args below meth c Q D cA h wl A nL c0 s0 S) :
    ∀ (b : List (Instr × Nat × Nat)) (pc : Nat) (ls : List (Option Value)) (st : List Value) (M : zm_I), b.all (fun q => !zn_isRet q.1) = true → zm_sok R own cc b pc → zm_seq T wl k b pc ls st M = some r → zm_G p l e R s m args below meth c Q D cA h wl A nL c0 s0 (pc, ls, st, M)
  | [], pc, ls, st, M, _, _, hh => hk _ hh
  | (i, a, b) :: c9, pc, ls, st, M, hn, hs, hh => by
    simp only [List.all_cons, Bool.and_eq_true, Bool.not_eq_true'] at hn
    exact zn_i zm_cwok_ok zm_mathok_ok B hok.2.1 hok.2.2 (zm_D_any hD) hA hw hs.1 hs.2.1 hn.1 hh hk (fun ls' st' M' h' => zl_seq_ok B hok hD hA hw hk c9 _ ls' st' M' hn.2 hs.2.2 h')
end ZLR
def zl_run (T : zm_T) (wl : zm_L) (k : zm_S → zm_R) : Nat → zm_S → zm_R
  | 0 => k
  | n + 1 => zm_step T wl (zl_run T wl k n)
def zl_nr (B : List (Nat × List (Instr × Nat × Nat))) : Bool := B.all (fun q => q.2.all (fun q => !zn_isRet q.1))
section ZLQ
variable {p : Program} {l : Launch} {e : Env} {R : Room} {s : State} {m : MethodId} {args : Array Value} {below : List Frame} {meth : Method} {c : Code}
variable {Q : State → Prop} {D : va_G} {cA : FieldType → ClassId} {h : Nat → Nat → Nat} {wl : zm_L} {A : Nat → Prop} {nL c0 s0 : Nat} {own : String} {cc : ByteArray} {T : zm_T} {r : Option Value × zm_I} {k : zm_S → zm_R}
theorem zl_run_ok (B : zm_B p s m args meth c own cc nL T D cA h A R c0 s0) (hok : zm_ok l R own cc T) (hnr : zl_nr T.1 = true) {M0 : zm_I} (hD : va_D A (zm_ws cA h wl M0)) (hA : ∀ q, s.heap.size ≤ q → A q) (hw : zm_wok wl)
    (hk : ∀ S, k S = some r → zm_G p l e R s m args below meth c Q D cA h wl A nL c0 s0 S) : ∀ (n : Nat) (S : zm_S), zl_run T wl k n S = some r → zm_G p l e R s m args below meth c Q D cA h wl A nL c0 s0 S
  | 0, S, hh => hk S hh
  | n + 1, S, hh => by
    have hh : zm_step T wl (zl_run T wl k n) S = some r := hh
    unfold zm_step at hh
    split at hh
    · next b hb => exact zl_seq_ok B hok hD hA hw (zl_run_ok B hok hnr hD hA hw hk n) b S.1 S.2.1 S.2.2.1 S.2.2.2 (List.all_eq_true.mp hnr _ (zm_look_mem hb)) (hok.1 _ _ hb) hh
    · cases hh
end ZLQ
