/-! BITS -/
def zh_cnt (n : Nat) : Nat := ((List.range 10).filter (fun j => n.testBit j)).length
set_option maxRecDepth 100000 in
theorem zh_bits : ∀ n, n < 1024 → ∀ k, k < 10 → ((Int32.ofNat n >>> (Int32.ofNat k &&& 31)) &&& 1) ≠ 1 → (Int32.ofNat n ||| ((1 : Int32) <<< (Int32.ofNat k &&& 31))) = Int32.ofNat (n + 2 ^ k) ∧ n + 2 ^ k < 1024 ∧ zh_cnt (n + 2 ^ k) = zh_cnt n + 1 := by decide +kernel
