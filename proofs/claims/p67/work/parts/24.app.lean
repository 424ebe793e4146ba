/-! CALLS IN A TABLE'S RUN, by what the callee gives -/
def zm_sub2 (bs : List (Nat × Nat)) (M : zm_I) : zm_I := (fun n => M.1 (zm_fw bs n), fun n => M.2 (zm_fw bs n))
theorem zm_app_s {C : zm_C} {wl : zm_L} {as : List Value} {M : zm_I} {k : Option Value → zm_I → zm_R} {v : Option Value} {N : zm_I} (hr : zm_recv wl as C.2.1 = true) (hs : C.2.2.1 = true) (h : C.2.2.2.2 wl as M = some (v, N)) : zm_app C wl as M k = k v N := by
  simp only [zm_app, hr, hs, h]
theorem zm_app_l {C : zm_C} {wl wc : zm_L} {as ac : List Value} {M : zm_I} {k : Option Value → zm_I → zm_R} {v : Option Value} {N : zm_I} {bs : List (Nat × Nat)} (hr : zm_recv wl as C.2.1 = true) (hs : C.2.2.1 = false) (hb : zm_blocks as C.2.2.2.1 = some bs) (hd : (zm_dis bs && zm_bound wl.length bs) = true) (hw : zm_sub bs wl = wc) (ha : as.map (zm_tr bs) = ac) (h : C.2.2.2.2 wc ac (zm_sub2 bs M) = some (v, N)) : zm_app C wl as M k = k (v.map (zm_bk bs)) (zm_mrg bs M N) := by
  subst hw ha
  have h : C.2.2.2.2 (zm_sub bs wl) (as.map (zm_tr bs)) (fun n => M.1 (zm_fw bs n), fun n => M.2 (zm_fw bs n)) = some (v, N) := h
  simp only [zm_app, hr, hs, hb, hd, h]
/-- a callee that writes nothing -/
theorem zm_mrg_id (bs : List (Nat × Nat)) (M : zm_I) : zm_mrg bs M (zm_sub2 bs M) = M := by
  apply Prod.ext
  · funext n i
    simp only [zm_mrg, zm_sub2]
    split
    · rw [zm_fw_iv]
    · rfl
  · funext n i
    simp only [zm_mrg, zm_sub2]
    split
    · rw [zm_fw_iv]
    · rfl
