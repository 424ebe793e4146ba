/-! A FRESH OBJECT: bench (printed by program, wip/gen/gen53.py) -/
theorem zi_of120 : ∀ m, m < 120 → Int32.ofNat m + 1 = Int32.ofNat (m + 1) := by decide +kernel
set_option maxRecDepth 20000 in
theorem zq_cr6_3 (I : Nat → Nat → Int32) (J : Nat → Nat → Int64) (a b k : Int32) : zm_V zT_X10_copyRow zW_M (3, [some (.ref 6), some (.int 1), some (.int a), some (.int b), some (.int k)], [], (I, J)) = if (1 : Int32) ≤ k then zm_V zT_X10_copyRow zW_M (31, [some (.ref 6), some (.int 1), some (.int a), some (.int b), some (.int k)], [], (I, J)) else zm_V zT_X10_copyRow zW_M (9, [some (.ref 6), some (.int 1), some (.int a), some (.int b), some (.int k)], [], (I, J)) := (zm_V_eq _ _ _).trans rfl
set_option maxRecDepth 20000 in
theorem zq_cr6_9 (I : Nat → Nat → Int32) (J : Nat → Nat → Int64) (a b k : Int32) : zm_V zT_X10_copyRow zW_M (9, [some (.ref 6), some (.int 1), some (.int a), some (.int b), some (.int k)], [], (I, J)) = if (1 * a + k : Int32) < 0 ∨ 5 ≤ Int32.toNatClampNeg (1 * a + k) then none else if (1 * b + k : Int32) < 0 ∨ 5 ≤ Int32.toNatClampNeg (1 * b + k) then none else zm_V zT_X10_copyRow zW_M (3, [some (.ref 6), some (.int 1), some (.int a), some (.int b), some (.int (k + 1))], [], (zm_w I 6 (Int32.toNatClampNeg (1 * b + k)) (I 6 (Int32.toNatClampNeg (1 * a + k))), J)) := (zm_V_eq _ _ _).trans rfl
set_option maxRecDepth 20000 in
theorem zq_cr6_31 (I : Nat → Nat → Int32) (J : Nat → Nat → Int64) (a b k : Int32) : zm_V zT_X10_copyRow zW_M (31, [some (.ref 6), some (.int 1), some (.int a), some (.int b), some (.int k)], [], (I, J)) = some (none, (I, J)) := (zm_V_eq _ _ _).trans rfl
def zc_cr6 (a b : Int32) : Bool := (List.range 1).all (fun m => decide (¬ (1 : Int32) ≤ Int32.ofNat m) && decide (¬ (1 * a + Int32.ofNat m < 0 ∨ 5 ≤ Int32.toNatClampNeg (1 * a + Int32.ofNat m))) && decide (¬ (1 * b + Int32.ofNat m < 0 ∨ 5 ≤ Int32.toNatClampNeg (1 * b + Int32.ofNat m))))
theorem zp_cr6_3 {a b : Int32} (hc : zc_cr6 a b = true) (J : Nat → Nat → Int64) : ∀ (d m : Nat) (I : Nat → Nat → Int32), m + d = 1 → ∃ I' : Nat → Nat → Int32, zm_V zT_X10_copyRow zW_M (3, [some (.ref 6), some (.int 1), some (.int a), some (.int b), some (.int (Int32.ofNat m))], [], (I, J)) = some (none, (I', J)) ∧ ∀ q, q ≠ 6 → I' q = I q
  | 0, m, I, h => by
    have hm : m = 1 := by omega
    subst hm
    rw [zq_cr6_3, if_pos (by decide), zq_cr6_31]
    exact ⟨I, rfl, fun _ _ => rfl⟩
  | d + 1, m, I, h => by
    have hm : m < 1 := by omega
    have hq := List.all_eq_true.mp hc m (List.mem_range.mpr hm)
    simp only [Bool.and_eq_true, decide_eq_true_eq] at hq
    rw [zq_cr6_3, if_neg hq.1.1, zq_cr6_9, if_neg hq.1.2, if_neg hq.2, zi_of120 m (by omega)]
    obtain ⟨I', h1, h2⟩ := zp_cr6_3 hc J d (m + 1) (zm_w I 6 (Int32.toNatClampNeg (1 * b + Int32.ofNat m)) (I 6 (Int32.toNatClampNeg (1 * a + Int32.ofNat m)))) (by omega)
    exact ⟨I', h1, fun q hq => by rw [h2 q hq, zm_w_ne hq]⟩
set_option maxRecDepth 20000 in
theorem zp_cr6 {a b : Int32} (hc : zc_cr6 a b = true) (I : Nat → Nat → Int32) (J : Nat → Nat → Int64) : ∃ I' : Nat → Nat → Int32, zF_X10_copyRow zW_M [.ref 6, .int 1, .int a, .int b] (I, J) = some (none, (I', J)) ∧ ∀ q, q ≠ 6 → I' q = I q := by
  have e : zF_X10_copyRow zW_M [.ref 6, .int 1, .int a, .int b] (I, J) = zm_V zT_X10_copyRow zW_M (3, [some (.ref 6), some (.int 1), some (.int a), some (.int b), some (.int (Int32.ofNat 0))], [], (I, J)) := (zm_V_eq _ _ _).trans rfl
  rw [e]
  exact zp_cr6_3 hc J 1 0 I rfl
set_option maxRecDepth 20000 in
theorem zq_cr7_3 (I : Nat → Nat → Int32) (J : Nat → Nat → Int64) (a b k : Int32) : zm_V zT_X10_copyRow zW_M (3, [some (.ref 7), some (.int 7), some (.int a), some (.int b), some (.int k)], [], (I, J)) = if (7 : Int32) ≤ k then zm_V zT_X10_copyRow zW_M (31, [some (.ref 7), some (.int 7), some (.int a), some (.int b), some (.int k)], [], (I, J)) else zm_V zT_X10_copyRow zW_M (9, [some (.ref 7), some (.int 7), some (.int a), some (.int b), some (.int k)], [], (I, J)) := (zm_V_eq _ _ _).trans rfl
set_option maxRecDepth 20000 in
theorem zq_cr7_9 (I : Nat → Nat → Int32) (J : Nat → Nat → Int64) (a b k : Int32) : zm_V zT_X10_copyRow zW_M (9, [some (.ref 7), some (.int 7), some (.int a), some (.int b), some (.int k)], [], (I, J)) = if (7 * a + k : Int32) < 0 ∨ 35 ≤ Int32.toNatClampNeg (7 * a + k) then none else if (7 * b + k : Int32) < 0 ∨ 35 ≤ Int32.toNatClampNeg (7 * b + k) then none else zm_V zT_X10_copyRow zW_M (3, [some (.ref 7), some (.int 7), some (.int a), some (.int b), some (.int (k + 1))], [], (zm_w I 7 (Int32.toNatClampNeg (7 * b + k)) (I 7 (Int32.toNatClampNeg (7 * a + k))), J)) := (zm_V_eq _ _ _).trans rfl
set_option maxRecDepth 20000 in
theorem zq_cr7_31 (I : Nat → Nat → Int32) (J : Nat → Nat → Int64) (a b k : Int32) : zm_V zT_X10_copyRow zW_M (31, [some (.ref 7), some (.int 7), some (.int a), some (.int b), some (.int k)], [], (I, J)) = some (none, (I, J)) := (zm_V_eq _ _ _).trans rfl
def zc_cr7 (a b : Int32) : Bool := (List.range 7).all (fun m => decide (¬ (7 : Int32) ≤ Int32.ofNat m) && decide (¬ (7 * a + Int32.ofNat m < 0 ∨ 35 ≤ Int32.toNatClampNeg (7 * a + Int32.ofNat m))) && decide (¬ (7 * b + Int32.ofNat m < 0 ∨ 35 ≤ Int32.toNatClampNeg (7 * b + Int32.ofNat m))))
theorem zp_cr7_3 {a b : Int32} (hc : zc_cr7 a b = true) (J : Nat → Nat → Int64) : ∀ (d m : Nat) (I : Nat → Nat → Int32), m + d = 7 → ∃ I' : Nat → Nat → Int32, zm_V zT_X10_copyRow zW_M (3, [some (.ref 7), some (.int 7), some (.int a), some (.int b), some (.int (Int32.ofNat m))], [], (I, J)) = some (none, (I', J)) ∧ ∀ q, q ≠ 7 → I' q = I q
  | 0, m, I, h => by
    have hm : m = 7 := by omega
    subst hm
    rw [zq_cr7_3, if_pos (by decide), zq_cr7_31]
    exact ⟨I, rfl, fun _ _ => rfl⟩
  | d + 1, m, I, h => by
    have hm : m < 7 := by omega
    have hq := List.all_eq_true.mp hc m (List.mem_range.mpr hm)
    simp only [Bool.and_eq_true, decide_eq_true_eq] at hq
    rw [zq_cr7_3, if_neg hq.1.1, zq_cr7_9, if_neg hq.1.2, if_neg hq.2, zi_of120 m (by omega)]
    obtain ⟨I', h1, h2⟩ := zp_cr7_3 hc J d (m + 1) (zm_w I 7 (Int32.toNatClampNeg (7 * b + Int32.ofNat m)) (I 7 (Int32.toNatClampNeg (7 * a + Int32.ofNat m)))) (by omega)
    exact ⟨I', h1, fun q hq => by rw [h2 q hq, zm_w_ne hq]⟩
set_option maxRecDepth 20000 in
theorem zp_cr7 {a b : Int32} (hc : zc_cr7 a b = true) (I : Nat → Nat → Int32) (J : Nat → Nat → Int64) : ∃ I' : Nat → Nat → Int32, zF_X10_copyRow zW_M [.ref 7, .int 7, .int a, .int b] (I, J) = some (none, (I', J)) ∧ ∀ q, q ≠ 7 → I' q = I q := by
  have e : zF_X10_copyRow zW_M [.ref 7, .int 7, .int a, .int b] (I, J) = zm_V zT_X10_copyRow zW_M (3, [some (.ref 7), some (.int 7), some (.int a), some (.int b), some (.int (Int32.ofNat 0))], [], (I, J)) := (zm_V_eq _ _ _).trans rfl
  rw [e]
  exact zp_cr7_3 hc J 7 0 I rfl
set_option maxRecDepth 20000 in
theorem zq_cr8_3 (I : Nat → Nat → Int32) (J : Nat → Nat → Int64) (a b k : Int32) : zm_V zT_X10_copyRow zW_M (3, [some (.ref 8), some (.int 6), some (.int a), some (.int b), some (.int k)], [], (I, J)) = if (6 : Int32) ≤ k then zm_V zT_X10_copyRow zW_M (31, [some (.ref 8), some (.int 6), some (.int a), some (.int b), some (.int k)], [], (I, J)) else zm_V zT_X10_copyRow zW_M (9, [some (.ref 8), some (.int 6), some (.int a), some (.int b), some (.int k)], [], (I, J)) := (zm_V_eq _ _ _).trans rfl
set_option maxRecDepth 20000 in
theorem zq_cr8_9 (I : Nat → Nat → Int32) (J : Nat → Nat → Int64) (a b k : Int32) : zm_V zT_X10_copyRow zW_M (9, [some (.ref 8), some (.int 6), some (.int a), some (.int b), some (.int k)], [], (I, J)) = if (6 * a + k : Int32) < 0 ∨ 30 ≤ Int32.toNatClampNeg (6 * a + k) then none else if (6 * b + k : Int32) < 0 ∨ 30 ≤ Int32.toNatClampNeg (6 * b + k) then none else zm_V zT_X10_copyRow zW_M (3, [some (.ref 8), some (.int 6), some (.int a), some (.int b), some (.int (k + 1))], [], (zm_w I 8 (Int32.toNatClampNeg (6 * b + k)) (I 8 (Int32.toNatClampNeg (6 * a + k))), J)) := (zm_V_eq _ _ _).trans rfl
set_option maxRecDepth 20000 in
theorem zq_cr8_31 (I : Nat → Nat → Int32) (J : Nat → Nat → Int64) (a b k : Int32) : zm_V zT_X10_copyRow zW_M (31, [some (.ref 8), some (.int 6), some (.int a), some (.int b), some (.int k)], [], (I, J)) = some (none, (I, J)) := (zm_V_eq _ _ _).trans rfl
def zc_cr8 (a b : Int32) : Bool := (List.range 6).all (fun m => decide (¬ (6 : Int32) ≤ Int32.ofNat m) && decide (¬ (6 * a + Int32.ofNat m < 0 ∨ 30 ≤ Int32.toNatClampNeg (6 * a + Int32.ofNat m))) && decide (¬ (6 * b + Int32.ofNat m < 0 ∨ 30 ≤ Int32.toNatClampNeg (6 * b + Int32.ofNat m))))
theorem zp_cr8_3 {a b : Int32} (hc : zc_cr8 a b = true) (J : Nat → Nat → Int64) : ∀ (d m : Nat) (I : Nat → Nat → Int32), m + d = 6 → ∃ I' : Nat → Nat → Int32, zm_V zT_X10_copyRow zW_M (3, [some (.ref 8), some (.int 6), some (.int a), some (.int b), some (.int (Int32.ofNat m))], [], (I, J)) = some (none, (I', J)) ∧ ∀ q, q ≠ 8 → I' q = I q
  | 0, m, I, h => by
    have hm : m = 6 := by omega
    subst hm
    rw [zq_cr8_3, if_pos (by decide), zq_cr8_31]
    exact ⟨I, rfl, fun _ _ => rfl⟩
  | d + 1, m, I, h => by
    have hm : m < 6 := by omega
    have hq := List.all_eq_true.mp hc m (List.mem_range.mpr hm)
    simp only [Bool.and_eq_true, decide_eq_true_eq] at hq
    rw [zq_cr8_3, if_neg hq.1.1, zq_cr8_9, if_neg hq.1.2, if_neg hq.2, zi_of120 m (by omega)]
    obtain ⟨I', h1, h2⟩ := zp_cr8_3 hc J d (m + 1) (zm_w I 8 (Int32.toNatClampNeg (6 * b + Int32.ofNat m)) (I 8 (Int32.toNatClampNeg (6 * a + Int32.ofNat m)))) (by omega)
    exact ⟨I', h1, fun q hq => by rw [h2 q hq, zm_w_ne hq]⟩
set_option maxRecDepth 20000 in
theorem zp_cr8 {a b : Int32} (hc : zc_cr8 a b = true) (I : Nat → Nat → Int32) (J : Nat → Nat → Int64) : ∃ I' : Nat → Nat → Int32, zF_X10_copyRow zW_M [.ref 8, .int 6, .int a, .int b] (I, J) = some (none, (I', J)) ∧ ∀ q, q ≠ 8 → I' q = I q := by
  have e : zF_X10_copyRow zW_M [.ref 8, .int 6, .int a, .int b] (I, J) = zm_V zT_X10_copyRow zW_M (3, [some (.ref 8), some (.int 6), some (.int a), some (.int b), some (.int (Int32.ofNat 0))], [], (I, J)) := (zm_V_eq _ _ _).trans rfl
  rw [e]
  exact zp_cr8_3 hc J 6 0 I rfl
set_option maxRecDepth 20000 in
theorem zq_cr9_3 (I : Nat → Nat → Int32) (J : Nat → Nat → Int64) (a b k : Int32) : zm_V zT_X10_copyRow zW_M (3, [some (.ref 9), some (.int 25), some (.int a), some (.int b), some (.int k)], [], (I, J)) = if (25 : Int32) ≤ k then zm_V zT_X10_copyRow zW_M (31, [some (.ref 9), some (.int 25), some (.int a), some (.int b), some (.int k)], [], (I, J)) else zm_V zT_X10_copyRow zW_M (9, [some (.ref 9), some (.int 25), some (.int a), some (.int b), some (.int k)], [], (I, J)) := (zm_V_eq _ _ _).trans rfl
set_option maxRecDepth 20000 in
theorem zq_cr9_9 (I : Nat → Nat → Int32) (J : Nat → Nat → Int64) (a b k : Int32) : zm_V zT_X10_copyRow zW_M (9, [some (.ref 9), some (.int 25), some (.int a), some (.int b), some (.int k)], [], (I, J)) = if (25 * a + k : Int32) < 0 ∨ 125 ≤ Int32.toNatClampNeg (25 * a + k) then none else if (25 * b + k : Int32) < 0 ∨ 125 ≤ Int32.toNatClampNeg (25 * b + k) then none else zm_V zT_X10_copyRow zW_M (3, [some (.ref 9), some (.int 25), some (.int a), some (.int b), some (.int (k + 1))], [], (zm_w I 9 (Int32.toNatClampNeg (25 * b + k)) (I 9 (Int32.toNatClampNeg (25 * a + k))), J)) := (zm_V_eq _ _ _).trans rfl
set_option maxRecDepth 20000 in
theorem zq_cr9_31 (I : Nat → Nat → Int32) (J : Nat → Nat → Int64) (a b k : Int32) : zm_V zT_X10_copyRow zW_M (31, [some (.ref 9), some (.int 25), some (.int a), some (.int b), some (.int k)], [], (I, J)) = some (none, (I, J)) := (zm_V_eq _ _ _).trans rfl
def zc_cr9 (a b : Int32) : Bool := (List.range 25).all (fun m => decide (¬ (25 : Int32) ≤ Int32.ofNat m) && decide (¬ (25 * a + Int32.ofNat m < 0 ∨ 125 ≤ Int32.toNatClampNeg (25 * a + Int32.ofNat m))) && decide (¬ (25 * b + Int32.ofNat m < 0 ∨ 125 ≤ Int32.toNatClampNeg (25 * b + Int32.ofNat m))))
theorem zp_cr9_3 {a b : Int32} (hc : zc_cr9 a b = true) (J : Nat → Nat → Int64) : ∀ (d m : Nat) (I : Nat → Nat → Int32), m + d = 25 → ∃ I' : Nat → Nat → Int32, zm_V zT_X10_copyRow zW_M (3, [some (.ref 9), some (.int 25), some (.int a), some (.int b), some (.int (Int32.ofNat m))], [], (I, J)) = some (none, (I', J)) ∧ ∀ q, q ≠ 9 → I' q = I q
  | 0, m, I, h => by
    have hm : m = 25 := by omega
    subst hm
    rw [zq_cr9_3, if_pos (by decide), zq_cr9_31]
    exact ⟨I, rfl, fun _ _ => rfl⟩
  | d + 1, m, I, h => by
    have hm : m < 25 := by omega
    have hq := List.all_eq_true.mp hc m (List.mem_range.mpr hm)
    simp only [Bool.and_eq_true, decide_eq_true_eq] at hq
    rw [zq_cr9_3, if_neg hq.1.1, zq_cr9_9, if_neg hq.1.2, if_neg hq.2, zi_of120 m (by omega)]
    obtain ⟨I', h1, h2⟩ := zp_cr9_3 hc J d (m + 1) (zm_w I 9 (Int32.toNatClampNeg (25 * b + Int32.ofNat m)) (I 9 (Int32.toNatClampNeg (25 * a + Int32.ofNat m)))) (by omega)
    exact ⟨I', h1, fun q hq => by rw [h2 q hq, zm_w_ne hq]⟩
set_option maxRecDepth 20000 in
theorem zp_cr9 {a b : Int32} (hc : zc_cr9 a b = true) (I : Nat → Nat → Int32) (J : Nat → Nat → Int64) : ∃ I' : Nat → Nat → Int32, zF_X10_copyRow zW_M [.ref 9, .int 25, .int a, .int b] (I, J) = some (none, (I', J)) ∧ ∀ q, q ≠ 9 → I' q = I q := by
  have e : zF_X10_copyRow zW_M [.ref 9, .int 25, .int a, .int b] (I, J) = zm_V zT_X10_copyRow zW_M (3, [some (.ref 9), some (.int 25), some (.int a), some (.int b), some (.int (Int32.ofNat 0))], [], (I, J)) := (zm_V_eq _ _ _).trans rfl
  rw [e]
  exact zp_cr9_3 hc J 25 0 I rfl
set_option maxRecDepth 20000 in
theorem zq_cr10_3 (I : Nat → Nat → Int32) (J : Nat → Nat → Int64) (a b k : Int32) : zm_V zT_X10_copyRow zW_M (3, [some (.ref 10), some (.int 120), some (.int a), some (.int b), some (.int k)], [], (I, J)) = if (120 : Int32) ≤ k then zm_V zT_X10_copyRow zW_M (31, [some (.ref 10), some (.int 120), some (.int a), some (.int b), some (.int k)], [], (I, J)) else zm_V zT_X10_copyRow zW_M (9, [some (.ref 10), some (.int 120), some (.int a), some (.int b), some (.int k)], [], (I, J)) := (zm_V_eq _ _ _).trans rfl
set_option maxRecDepth 20000 in
theorem zq_cr10_9 (I : Nat → Nat → Int32) (J : Nat → Nat → Int64) (a b k : Int32) : zm_V zT_X10_copyRow zW_M (9, [some (.ref 10), some (.int 120), some (.int a), some (.int b), some (.int k)], [], (I, J)) = if (120 * a + k : Int32) < 0 ∨ 600 ≤ Int32.toNatClampNeg (120 * a + k) then none else if (120 * b + k : Int32) < 0 ∨ 600 ≤ Int32.toNatClampNeg (120 * b + k) then none else zm_V zT_X10_copyRow zW_M (3, [some (.ref 10), some (.int 120), some (.int a), some (.int b), some (.int (k + 1))], [], (zm_w I 10 (Int32.toNatClampNeg (120 * b + k)) (I 10 (Int32.toNatClampNeg (120 * a + k))), J)) := (zm_V_eq _ _ _).trans rfl
set_option maxRecDepth 20000 in
theorem zq_cr10_31 (I : Nat → Nat → Int32) (J : Nat → Nat → Int64) (a b k : Int32) : zm_V zT_X10_copyRow zW_M (31, [some (.ref 10), some (.int 120), some (.int a), some (.int b), some (.int k)], [], (I, J)) = some (none, (I, J)) := (zm_V_eq _ _ _).trans rfl
def zc_cr10 (a b : Int32) : Bool := (List.range 120).all (fun m => decide (¬ (120 : Int32) ≤ Int32.ofNat m) && decide (¬ (120 * a + Int32.ofNat m < 0 ∨ 600 ≤ Int32.toNatClampNeg (120 * a + Int32.ofNat m))) && decide (¬ (120 * b + Int32.ofNat m < 0 ∨ 600 ≤ Int32.toNatClampNeg (120 * b + Int32.ofNat m))))
theorem zp_cr10_3 {a b : Int32} (hc : zc_cr10 a b = true) (J : Nat → Nat → Int64) : ∀ (d m : Nat) (I : Nat → Nat → Int32), m + d = 120 → ∃ I' : Nat → Nat → Int32, zm_V zT_X10_copyRow zW_M (3, [some (.ref 10), some (.int 120), some (.int a), some (.int b), some (.int (Int32.ofNat m))], [], (I, J)) = some (none, (I', J)) ∧ ∀ q, q ≠ 10 → I' q = I q
  | 0, m, I, h => by
    have hm : m = 120 := by omega
    subst hm
    rw [zq_cr10_3, if_pos (by decide), zq_cr10_31]
    exact ⟨I, rfl, fun _ _ => rfl⟩
  | d + 1, m, I, h => by
    have hm : m < 120 := by omega
    have hq := List.all_eq_true.mp hc m (List.mem_range.mpr hm)
    simp only [Bool.and_eq_true, decide_eq_true_eq] at hq
    rw [zq_cr10_3, if_neg hq.1.1, zq_cr10_9, if_neg hq.1.2, if_neg hq.2, zi_of120 m (by omega)]
    obtain ⟨I', h1, h2⟩ := zp_cr10_3 hc J d (m + 1) (zm_w I 10 (Int32.toNatClampNeg (120 * b + Int32.ofNat m)) (I 10 (Int32.toNatClampNeg (120 * a + Int32.ofNat m)))) (by omega)
    exact ⟨I', h1, fun q hq => by rw [h2 q hq, zm_w_ne hq]⟩
set_option maxRecDepth 20000 in
theorem zp_cr10 {a b : Int32} (hc : zc_cr10 a b = true) (I : Nat → Nat → Int32) (J : Nat → Nat → Int64) : ∃ I' : Nat → Nat → Int32, zF_X10_copyRow zW_M [.ref 10, .int 120, .int a, .int b] (I, J) = some (none, (I', J)) ∧ ∀ q, q ≠ 10 → I' q = I q := by
  have e : zF_X10_copyRow zW_M [.ref 10, .int 120, .int a, .int b] (I, J) = zm_V zT_X10_copyRow zW_M (3, [some (.ref 10), some (.int 120), some (.int a), some (.int b), some (.int (Int32.ofNat 0))], [], (I, J)) := (zm_V_eq _ _ _).trans rfl
  rw [e]
  exact zp_cr10_3 hc J 120 0 I rfl
set_option maxRecDepth 20000 in
theorem zp_cr6v (I : Nat → Nat → Int32) (J : Nat → Nat → Int64) : zF_X10_copyRow zW_M [.ref 6, .int 1, .int 4, .int 0] (I, J) = some (none, (zm_w I 6 0 (I 6 4), J)) := by
  have e : zF_X10_copyRow zW_M [.ref 6, .int 1, .int 4, .int 0] (I, J) = zm_V zT_X10_copyRow zW_M (3, [some (.ref 6), some (.int 1), some (.int 4), some (.int 0), some (.int 0)], [], (I, J)) := (zm_V_eq _ _ _).trans rfl
  rw [e, zq_cr6_3, if_neg (by decide), zq_cr6_9, if_neg (by decide), if_neg (by decide), zq_cr6_3, if_pos (by decide), zq_cr6_31, show Int32.toNatClampNeg (1 * 0 + 0) = 0 by decide, show Int32.toNatClampNeg (1 * 4 + 0) = 4 by decide]
theorem zp_copyBench (I : Nat → Nat → Int32) (J : Nat → Nat → Int64) {a b : Int32} (h6 : zc_cr6 a b = true) (h7 : zc_cr7 a b = true) (h8 : zc_cr8 a b = true) (h9 : zc_cr9 a b = true) (h10 : zc_cr10 a b = true) : ∃ I' : Nat → Nat → Int32, zF_X10_copyBench zW_M [.ref 0, .int a, .int b] (I, J) = some (none, (I', J)) := by
  obtain ⟨I1, e1, -⟩ := zp_cr6 h6 I J
  obtain ⟨I2, e2, -⟩ := zp_cr7 h7 I1 J
  obtain ⟨I3, e3, -⟩ := zp_cr8 h8 I2 J
  obtain ⟨I4, e4, -⟩ := zp_cr9 h9 I3 J
  obtain ⟨I5, e5, -⟩ := zp_cr10 h10 I4 J
  exact ⟨I5, by rw [zf_X10_copyBench_M, zc_X10_copyBench_M_0 _ _ _ _ e1, zc_X10_copyBench_M_10 _ _ _ _ e2, zc_X10_copyBench_M_21 _ _ _ _ e3, zc_X10_copyBench_M_32 _ _ _ _ e4, zc_X10_copyBench_M_43 _ _ _ _ e5, zq_X10_copyBench_M_54]⟩
theorem zp_copyBench40 (I : Nat → Nat → Int32) (J : Nat → Nat → Int64) : ∃ I' : Nat → Nat → Int32, zF_X10_copyBench zW_M [.ref 0, .int 4, .int 0] (I, J) = some (none, (I', J)) ∧ I' 6 0 = I 6 4 := by
  obtain ⟨I2, e2, f2⟩ := zp_cr7 (a := 4) (b := 0) (by decide +kernel) (zm_w I 6 0 (I 6 4)) J
  obtain ⟨I3, e3, f3⟩ := zp_cr8 (a := 4) (b := 0) (by decide +kernel) I2 J
  obtain ⟨I4, e4, f4⟩ := zp_cr9 (a := 4) (b := 0) (by decide +kernel) I3 J
  obtain ⟨I5, e5, f5⟩ := zp_cr10 (a := 4) (b := 0) (by decide +kernel) I4 J
  refine ⟨I5, by rw [zf_X10_copyBench_M, zc_X10_copyBench_M_0 _ _ _ _ (zp_cr6v I J), zc_X10_copyBench_M_10 _ _ _ _ e2, zc_X10_copyBench_M_21 _ _ _ _ e3, zc_X10_copyBench_M_32 _ _ _ _ e4, zc_X10_copyBench_M_43 _ _ _ _ e5, zq_X10_copyBench_M_54], ?_⟩
  rw [f5 6 (by decide), f4 6 (by decide), f3 6 (by decide), f2 6 (by decide)]
  simp [zm_w]
-- the reference's bench
theorem zp_tells (I : Nat → Nat → Int32) (J : Nat → Nat → Int64) {m : Nat} (hm : m < 7) : zF_X10_tells zW_M [.ref 0, .int (Int32.ofNat m), .int 0] (I, J) = some (none, (zm_w I 7 (28 + m) 0, J)) := by
  have h : ∀ m, m < 7 → ¬ (28 + Int32.ofNat m < 0 ∨ 35 ≤ Int32.toNatClampNeg (28 + Int32.ofNat m)) ∧ Int32.toNatClampNeg (28 + Int32.ofNat m) = 28 + m := by decide
  rw [zf_X10_tells_M, zq_X10_tells_M_0, if_neg (h m hm).1, (h m hm).2]
theorem zp_clears9 (J : Nat → Nat → Int64) : ∀ (d m : Nat) (I : Nat → Nat → Int32), m + d = 7 → ∃ I' : Nat → Nat → Int32, zv_X10_clears_M_9 I J (Int32.ofNat m) = some (none, (I', J)) ∧ ∀ q, q ≠ 7 → I' q = I q
  | 0, m, I, h => by
    have hm : m = 7 := by omega
    subst hm
    rw [zq_X10_clears_M_9, if_pos (by decide), zq_X10_clears_M_27]
    exact ⟨I, rfl, fun _ _ => rfl⟩
  | d + 1, m, I, h => by
    have hm : m < 7 := by omega
    have h7 : ∀ m, m < 7 → ¬ (7 : Int32) ≤ Int32.ofNat m := by decide
    rw [zq_X10_clears_M_9, if_neg (h7 m hm), zc_X10_clears_M_15 _ _ _ (zp_tells I J hm), zq_X10_clears_M_21, zi_of120 m (by omega)]
    obtain ⟨I', h1, h2⟩ := zp_clears9 J d (m + 1) (zm_w I 7 (28 + m) 0) (by omega)
    exact ⟨I', h1, fun q hq => by rw [h2 q hq, zm_w_ne hq]⟩
theorem zp_clears (I : Nat → Nat → Int32) (J : Nat → Nat → Int64) : ∃ I' : Nat → Nat → Int32, zF_X10_clears zW_M [.ref 0] (I, J) = some (none, (I', J)) ∧ I' 6 4 = 0 ∧ ∀ i, I' 0 i = I 0 i := by
  obtain ⟨I', h1, h2⟩ := zp_clears9 J 7 0 (zm_w I 6 4 0) rfl
  refine ⟨I', ?_, ?_, fun i => ?_⟩
  · rw [zf_X10_clears_M, zq_X10_clears_M_0, if_neg (by decide), show Int32.toNatClampNeg 4 = 4 by decide]
    exact h1
  · rw [h2 6 (by decide)]
    simp [zm_w]
  · rw [h2 0 (by decide)]
    simp [zm_w]
theorem zg_isByte {I : Nat → Nat → Int32} {J : Nat → Nat → Int64} {l1 : Int32} (l2 l3 : Int32) (h : I 0 6 ≤ l1) : zF_X10_isByte zW_M [.ref 0, .int l1, .int l2, .int l3] (I, J) = some (some (.int 0), (I, J)) := by
  rw [zf_X10_isByte_M, zq_X10_isByte_M_0, if_pos h, zq_X10_isByte_M_32, zq_X10_isByte_M_33, if_pos (Or.inl rfl)]
theorem zp_next (I : Nat → Nat → Int32) (J : Nat → Nat → Int64) (h6 : I 0 6 = 0) (h7 : I 0 7 = 0) : ∃ (I' : Nat → Nat → Int32) (J' : Nat → Nat → Int64), zF_X10_next zW_M [.ref 0] (I, J) = some (none, (I', J')) ∧ I' 0 8 = 0 ∧ I' 0 12 = I 0 12 ∧ I' 6 = I 6 := by
  have hb : I 0 6 ≤ I 0 7 := by rw [h6, h7]; decide
  have hc : ((zm_w (zm_w I 0 9 (I 0 7)) 0 10 0) 0 7) = ((zm_w (zm_w I 0 9 (I 0 7)) 0 10 0) 0 6) := by simp [zm_w, h6, h7]
  refine ⟨zm_w (zm_w (zm_w I 0 9 (I 0 7)) 0 10 0) 0 8 0, zm_wl J 0 11 0, ?_, by simp [zm_w], by simp [zm_w], ?_⟩
  · rw [zf_X10_next_M, zc_X10_next_M_0 _ _ (zg_isByte 32 32 hb), zq_X10_next_M_12, if_pos rfl, zc_X10_next_M_15 _ _ (zg_isByte 10 10 hb), zq_X10_next_M_27, if_pos rfl, zq_X10_next_M_43, if_pos hc, zq_X10_next_M_72, zq_X10_next_M_307]
  · rw [zm_w_ne (by decide), zm_w_ne (by decide), zm_w_ne (by decide)]
theorem zpm_bench {I : Nat → Nat → Int32} {J : Nat → Nat → Int64} (h : zy_M I J) : ∃ N : zm_I, zF_X10_bench zW_M [.ref 0] (I, J) = some (some (.int 0), N) := by
  obtain ⟨I1, e1, a1, b1⟩ := zp_clears (zm_w I 0 0 0) J
  have h6 : I1 0 6 = 0 := (b1 6).trans (((zy_M_t h).1 0 6 (by decide)).trans (by decide))
  obtain ⟨I2, J2, e2, t2, b2, c2⟩ := zp_next (zm_w (zm_w (zm_w I1 0 12 0) 0 13 (-1)) 0 7 0) J (by simp [zm_w, h6]) (by simp [zm_w])
  have e3 : zF_X10_begins zW_M [.ref 0] (I1, J) = some (none, (I2, J2)) := by rw [zf_X10_begins_M, zc_X10_begins_M_0 _ _ e2, zq_X10_begins_M_19]
  have g2 : I2 0 12 = 0 := b2.trans (by simp [zm_w])
  have e4 : zF_X10_isGood zW_M [.ref 0] (I2, J2) = some (some (.int 1), (I2, J2)) := by rw [zf_X10_isGood_M, zq_X10_isGood_M_0, if_pos g2, zq_X10_isGood_M_7, zq_X10_isGood_M_12, if_pos (Or.inr rfl)]
  have hz : ((zm_w (zm_w I2 0 6 0) 0 14 ((zm_w I2 0 6 0) 0 12)) 0 12) = 0 := by simp [zm_w, g2]
  have e5 : zF_X10_isOver zW_M [.ref 0] (I2, J2) = some (none, (zm_w (zm_w (zm_w I2 0 6 0) 0 14 ((zm_w I2 0 6 0) 0 12)) 0 15 (-1), J2)) := by rw [zf_X10_isOver_M, zq_X10_isOver_M_0, if_pos hz, zq_X10_isOver_M_21, zq_X10_isOver_M_29]
  obtain ⟨I6, e6, f6⟩ := zp_copyBench40 (zm_w (zm_w (zm_w I2 0 6 0) 0 14 ((zm_w I2 0 6 0) 0 12)) 0 15 (-1)) J2
  have g6 : I6 6 0 = 0 := by
    rw [f6, zm_w_ne (by decide), zm_w_ne (by decide), zm_w_ne (by decide), c2, zm_w_ne (by decide), zm_w_ne (by decide), zm_w_ne (by decide)]
    exact a1
  have h12 : (zm_w (zm_w (zm_w I2 0 6 0) 0 14 ((zm_w I2 0 6 0) 0 12)) 0 15 (-1)) 0 12 = 0 := by simp [zm_w, g2]
  rw [zf_X10_bench_M, zc_X10_bench_M_0 _ _ e1, zc_X10_bench_M_9 _ _ e3, zc_X10_bench_M_13 _ _ e4, zq_X10_bench_M_17, if_neg (by decide), zq_X10_bench_M_20, if_pos t2, zc_X10_bench_M_133 _ _ e5, zq_X10_bench_M_137, if_pos h12, zc_X10_bench_M_147 _ _ e6, zq_X10_bench_M_153, if_neg (by decide), show Int32.toNatClampNeg 0 = 0 by decide, g6]
  exact ⟨_, rfl⟩
