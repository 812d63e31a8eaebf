theorem zall_td {r : zRec} {t : List (List (Option zOp))} {i n m : Nat} (hm : (t.take n).length = m) (h1 : zall r i (t.take n) = true) (h2 : zall r (i + m) (t.drop n) = true) : zall r i t = true := by
  have h := zall_app (r := r) (a := t.take n) (b := t.drop n) hm h1 h2
  rw [List.take_append_drop] at h
  exact h
theorem zc_385_6aa : zall zr_385 48 (((zt_385_6).take 4).take 2) = true := by decide +kernel
theorem zc_385_6ab : zall zr_385 50 (((zt_385_6).take 4).drop 2) = true := by decide +kernel
theorem zc_385_6a : zall zr_385 48 ((zt_385_6).take 4) = true := zall_td (n := 2) (m := 2) rfl zc_385_6aa zc_385_6ab
theorem zc_385_6ba : zall zr_385 52 (((zt_385_6).drop 4).take 2) = true := by decide +kernel
theorem zc_385_6bb : zall zr_385 54 (((zt_385_6).drop 4).drop 2) = true := by decide +kernel
theorem zc_385_6b : zall zr_385 52 ((zt_385_6).drop 4) = true := zall_td (n := 2) (m := 2) rfl zc_385_6ba zc_385_6bb
theorem zc_385_6 : zall zr_385 48 (zt_385_6) = true := zall_td (n := 4) (m := 4) rfl zc_385_6a zc_385_6b
