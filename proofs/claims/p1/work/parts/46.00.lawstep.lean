/-! THE LAW, stretch by stretch, printed by program (wip/gen/gen46.py) -/
theorem zl_sk {B : List (Nat × List (Instr × Nat × Nat))} (h : B.all (fun q => zm_sokB (zm_flat zw_L) room_1 R_law code [] q.2 q.1) = true) (j : Nat) {pc : Nat} {b : List (Instr × Nat × Nat)} (hj : B[j]? = some (pc, b)) : zm_sok room_1 R_law code b pc := zm_sokB_ok (zm_walk_ok zk_L) ⟨Nat.le_refl _, Nat.le_refl _⟩ rfl b pc (List.all_eq_true.mp h _ (List.mem_of_getElem? hj))
theorem zx_of {l : Launch} {B : List (Nat × List (Instr × Nat × Nat))} {cs : List (Nat × Value)} {cl : List (Nat × zm_C)} {r : Option FieldType × Option (Nat × (Nat → Int32))} (hB : zm_allP (fun pc b => zm_sok room_1 R_law code b pc) B) (hC : cs.all (zm_cokB (zm_flat zw_L) R_law) = true) (hc : zm_allP (zm_callok l room_1 R_law) cl) : zm_ok l room_1 R_law code (B, cs, cl, r) := ⟨zm_ok3 hB, fun idx v hv => zm_cokB_ok (zm_walk_ok zk_L) (List.all_eq_true.mp hC _ (zm_look_mem hv)), zm_ok3 hc⟩

def zzb : List (Instr × Nat × Nat) := [(.iload_n 3, 0, 0), (.aload_n 0, 0, 0), (.arraylength, 0, 0), (.bipush 6, 0, 0), (.isub, 0, 0), (.if_icmp .gt 2268, 0, 0)]
def zl_lb (b : Int32) : List (Option Value) := [some (.retAddr 100), some (.ref 0), some (.ref 165), some (.int b)]
theorem zl_e18 {T : zm_T} {L : Nat} {xs : Nat → Int32} (wl : zm_L) (hl : zm_look T.1 18 = some zzb) (hs : T.2.2.2.2 = some (L, xs)) (b : Int32) (M : zm_I) (k : zm_S → zm_R) : zm_step T wl k (18, zl_lb b, [], M) = if (Int32.ofNat L - 6 : Int32) < b then k (2292, zl_lb b, [], M) else k (27, zl_lb b, [], M) := by
  unfold zm_step
  simp only [hl]
  have e : zm_seq T wl k zzb 18 (zl_lb b) [] M = zm_aln (fun ls st M => zm_seq T wl k [(.bipush 6, 0, 0), (.isub, 0, 0), (.if_icmp .gt 2268, 0, 0)] 21 ls st M) T.2.2.2.2 wl (zl_lb b) [.retAddr 100, .int b] M := rfl
  rw [e, hs]
  rfl
def zl_tl (T : zm_T) : Prop := (∀ (wl : zm_L) (M : zm_I) (k : zm_S → zm_R), zm_step T wl k (2286, zl_lb 0, [], M) = k (18, zl_lb (0 + 6), [], M)) ∧ zm_look T.1 18 = some zzb ∧ (∃ xs, T.2.2.2.2 = some (6, xs)) ∧ ∀ (wl : zm_L) (b : Int32) (M : zm_I) (k : zm_S → zm_R), zm_step T wl k (2292, zl_lb b, [], M) = k (2293, zl_lb b, [.int 1], M)
abbrev zl_ls : List (Option Value) := zl_lb 0
