/-! IMAGE: the class makes a bench -/
def zi_w (j : Nat) : zm_L := zL_C.set 164 (.inr (.object RX0, 3), (List.replicate 3 Value.null).set j (.ref 196)) ++ [(.inl 0, [.null, .null, .null, .null, .null, .null, .null, .null, .ref 197, .ref 198, .ref 199, .ref 200, .ref 201, .ref 202, .ref 203, .ref 204, .ref 205]), (.inr (.int, 6), []), (.inr (.int, 5), []), (.inr (.int, 5), []), (.inr (.int, 5), []), (.inr (.int, 5), []), (.inr (.int, 5), []), (.inr (.int, 41), []), (.inr (.int, 41), []), (.inr (.int, 41), [])]
def zi_S0 (j : Int32) : zn_S := ((0, [some (.ref 0), some (.int j), none], [], zL_M), zL_C, 0, 0)
def zi_S1 (j : Nat) : zn_S := ((38, [some (.ref 0), some (.int (Int32.ofNat j)), some (.ref 196)], [], zL_M), zi_w j, 10, 171)
theorem zi_fr : zn_fr zL_C zL_M := by
  have hl : zL_C.length = 196 := by decide +kernel
  intro a ha
  rw [hl] at ha
  have hp : zL_p.length = 196 := by decide +kernel
  have e : zL_p.getD a 0 = 0 := by
    rw [List.getD_eq_getElem?_getD, List.getElem?_eq_none (by omega)]
    rfl
  refine ⟨fun b => ?_, fun b => zL_M2 a b⟩
  show (zn_wr zL_W (fun _ _ => 0, fun _ _ => 0)).1 (zL_p.getD a 0) b = 0
  rw [e, zn_wr_1]
  unfold zL_W
  simp [List.foldl, zm_w]
def zi_G (j : Int32) : zn_W := zn_gow zH_img zU_img 38 60 (zi_S0 j)
def zi_run (j : Nat) : Bool := match zn_go zU_img 38 60 (zi_S0 (Int32.ofNat j)) with
  | some S => Nat.beq S.1.1 38 && decide (S.1.2.1 = [some (.ref 0), some (.int (Int32.ofNat j)), some (.ref 196)]) && decide (S.1.2.2.1 = []) && zn_eqL S.2.1 (zi_w j) && Nat.beq S.2.2.1 10 && Nat.beq S.2.2.2 171 && (zi_G (Int32.ofNat j)).isEmpty
  | none => false
theorem zi_run_ok : ∀ j, j < 3 → zi_run j = true := by decide +kernel
theorem zi_go {j : Nat} (hj : j < 3) : zn_go zU_img 38 60 (zi_S0 (Int32.ofNat j)) = some (zi_S1 j) := by
  have h := zi_run_ok j hj
  unfold zi_run at h
  split at h
  · next S hS =>
    simp only [Bool.and_eq_true, decide_eq_true_eq] at h
    obtain ⟨⟨⟨⟨⟨⟨h1, h2⟩, h3⟩, h4⟩, h5⟩, h6⟩, h7⟩ := h
    have hM := zn_go_w zH_img_ok _ _ _ hS
    have hG : zn_gow zH_img zU_img 38 60 (zi_S0 (Int32.ofNat j)) = [] := List.isEmpty_iff.mp h7
    rw [hG] at hM
    rw [hS]
    exact congrArg some (zn_S_eq S (Nat.eq_of_beq_eq_true h1) h2 h3 hM (zn_eqL_ok h4) (Nat.eq_of_beq_eq_true h5) (Nat.eq_of_beq_eq_true h6))
  · cases h
