/-! ===== THE TABLES ARE RIGHT: every instruction decodes so, every word stands in the claim's tables ===== -/
def zchk1 (r : zRec) (i : Nat) (ch : List (Option zOp)) : Bool := ch.zipIdx.all (fun x => match x.1 with | none => true | some op => zokD r (32 * i + x.2) op && zokS r (32 * i + x.2) op && zokX zR zN r (32 * i + x.2) op)
def zall (r : zRec) (i0 : Nat) (t : List (List (Option zOp))) : Bool := (t.zipIdx i0).all (fun x => zchk1 r x.2 x.1)
theorem zall_fet {r : zRec} {t : List (List (Option zOp))} (h : zall r 0 t = true) {pc : Nat} {op : zOp} (hf : zfet t pc = some op) : zokD r pc op = true ∧ zokS r pc op = true ∧ zokX zR zN r pc op = true := by
  unfold zfet at hf
  split at hf
  · rename_i c hc
    split at hf
    · rename_i op1 ho
      cases hf
      unfold zall at h
      have h1 := List.all_eq_true.mp h (c, pc / 32) (List.mem_of_getElem? (i := pc / 32) (by rw [List.getElem?_zipIdx, hc]; simp))
      unfold zchk1 at h1
      have h2 := List.all_eq_true.mp h1 (some op, pc % 32) (List.mem_of_getElem? (i := pc % 32) (by rw [List.getElem?_zipIdx, ho]; simp))
      simp only [Bool.and_eq_true] at h2
      rw [show 32 * (pc / 32) + pc % 32 = pc by omega] at h2
      exact ⟨h2.1.1, h2.1.2, h2.2⟩
    · cases hf
  · cases hf
theorem zall_app {r : zRec} {a b : List (List (Option zOp))} {i n : Nat} (hn : a.length = n) (h1 : zall r i a = true) (h2 : zall r (i + n) b = true) : zall r i (a ++ b) = true := by
  unfold zall at *
  rw [List.zipIdx_append, List.all_append, h1, hn, h2]
  rfl
theorem zc_100 : zall zr_100 0 zt_100 = true := by decide +kernel
theorem zc_162 : zall zr_162 0 zt_162 = true := by decide +kernel
theorem zc_181 : zall zr_181 0 zt_181 = true := by decide +kernel
theorem zc_341 : zall zr_341 0 zt_341 = true := by decide +kernel
