/-! WORLDS THAT GROW: which images are kept, in the order of their making -/
def zK_all : List (List Nat) := [[], [0], [1], [2], [0, 1], [0, 2], [1, 0], [1, 2], [2, 0], [2, 1], [0, 1, 2], [0, 2, 1], [1, 0, 2], [1, 2, 0], [2, 0, 1], [2, 1, 0]]
def zK_ix : List Nat → Nat → Option Nat
  | [], _ => none
  | a :: r, k => match Nat.beq a k with
    | true => some 0
    | false => match zK_ix r k with
      | some i => some (i + 1)
      | none => none
def zK_r (ks : List Nat) (k : Nat) : Value := match zK_ix ks k with
  | some i => .ref (196 + 10 * i)
  | none => .null
def zL_bn (n : Nat) : zm_L := [(.inl 0, [.null, .null, .null, .null, .null, .null, .null, .null, .ref (n + 1), .ref (n + 2), .ref (n + 3), .ref (n + 4), .ref (n + 5), .ref (n + 6), .ref (n + 7), .ref (n + 8), .ref (n + 9)]), (.inr (.int, 6), []), (.inr (.int, 5), []), (.inr (.int, 5), []), (.inr (.int, 5), []), (.inr (.int, 5), []), (.inr (.int, 5), []), (.inr (.int, 41), []), (.inr (.int, 41), []), (.inr (.int, 41), [])]
def zL_w (ks : List Nat) : zm_L := zL_C.set 164 (.inr (.object RX0, 3), [zK_r ks 0, zK_r ks 1, zK_r ks 2]) ++ (List.range ks.length).flatMap (fun i => zL_bn (196 + 10 * i))
def zK_chk (ks : List Nat) : Bool := zn_eqL (zm_sub [(0, 164)] (zL_w ks)) zW_X && zn_eqL (zm_sub [(165, 31)] (zL_w ks)) zW_M && Nat.beq (zL_w ks).length (196 + 10 * ks.length) && zn_wokB (zL_w ks) && Nat.ble ks.length 3 && (List.range ks.length).all (fun i => zn_eqL (zm_sub [(196 + 10 * i, 10), (1, 10)] (zL_w ks)) zW_BB && zn_eqL (zm_sub [(1, 10), (196 + 10 * i, 10)] (zL_w ks)) zW_BB && zm_isO (zL_w ks) 0 (.ref (196 + 10 * i)))
theorem zK_ok : zK_all.all zK_chk = true := by decide +kernel
/-- a slot, kept or not -/
def zK_kchk (ks : List Nat) (k : Nat) : Bool := match zK_ix ks k with
  | some i => Nat.ble (i + 1) ks.length
  | none => zK_all.any (fun q => decide (q = ks ++ [k])) && decide (zK_ix (ks ++ [k]) k = some ks.length) && Nat.ble (ks.length + 1) 3 && (List.range 3).all (fun q => Nat.beq q k || decide (zK_ix (ks ++ [k]) q = zK_ix ks q))
theorem zK_kok : zK_all.all (fun ks => (List.range 3).all (zK_kchk ks)) = true := by decide +kernel
