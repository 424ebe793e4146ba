/-! THE LAW'S START: classes, array classes, texts -/
def zs_tm (i : Nat) : Term := match zm_strs[i]? with
  | some q => .string RX8 q.1
  | none => .int 0
def zs_fl : List Jvm.Cond := flatC (Jvm.Cond.and given_1 narrow_1)
def zs_v (i : Nat) : Term := .field (zs_tm i) "java/lang/String" "value" "[B"
theorem zs_1 : (List.range 13).all (fun i => decide (Jvm.Cond.exactly (zs_tm i) "java/lang/String" ∈ zs_fl) && decide (Jvm.Cond.eq (.field (zs_tm i) "java/lang/String" "coder" "B") (.int 0) ∈ zs_fl) && decide (Jvm.Cond.arrayOf (zs_v i) .byte ∈ zs_fl) && decide (Jvm.Cond.eq (.length (zs_v i)) (.int (Int32.ofNat (zm_slen.getD i 0))) ∈ zs_fl) && decide (zm_slen.getD i 0 < 2 ^ 31)) = true := by decide +kernel
