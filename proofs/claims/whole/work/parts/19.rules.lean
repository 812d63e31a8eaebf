/-! ===== WHAT A RUN ENDS IN: over the fixed shapes, the contents alone change ===== -/
/-- from here the method comes to an end (an answer or an exception) with contents that Q holds of -/
def wz (W : zW) (y pc : Nat) (L S : List Value) (I : zI) (Q : zO → zI → Prop) : Prop := ∃ (n d : Nat) (o : zO) (I' : zI), zx zR zT n d y pc L S (Hc, I, W) = some (o, (Hc, I', W), zcst o) ∧ Q o I'
/-- behind a call -/
def zk (Q : zO → zI → Prop) (k : Option Value → zI → Prop) : zO → zI → Prop := fun o I => match o with
  | .inl v => k v I
  | .inr E => Q (.inr E) I
theorem zk_l (Q : zO → zI → Prop) (k : Option Value → zI → Prop) (v : Option Value) (I : zI) : zk Q k (.inl v) I = k v I := rfl
theorem zk_r (Q : zO → zI → Prop) (k : Option Value → zI → Prop) (E : Nat) (I : zI) : zk Q k (.inr E) I = Q (.inr E) I := rfl
section
variable {W : zW} {y pc : Nat} {L S : List Value} {I : zI} {Q : zO → zI → Prop} {op : zOp}
theorem wz_go (k : Nat) {pc' : Nat} {L' S' : List Value} {I' : zI} (h : zgo k y pc L S (Hc, I, W) = some (pc', L', S', (Hc, I', W))) : wz W y pc L S I Q = wz W y pc' L' S' I' Q := by
  have e : ∀ n d : Nat, zx zR zT (n + k) d y pc L S (Hc, I, W) = zx zR zT n d y pc' L' S' (Hc, I', W) := fun n d => zx_go k _ _ _ _ _ h n d
  refine propext ⟨fun ⟨n, d, o, I1, h1, h2⟩ => ⟨n, d, o, I1, ?_, h2⟩, fun ⟨n, d, o, I1, h1, h2⟩ => ⟨n + k, d, o, I1, (e n d).trans h1, h2⟩⟩
  exact (e n d).symm.trans (zx_mono _ _ _ _ _ _ _ _ h1 _ _ (Nat.le_add_right n k) (Nat.le_refl d))
theorem wz_st {pc' : Nat} {L' S' : List Value} {I' : zI} (hf : zfet (zT y) pc = some op) (hs : zstep op pc L S (Hc, I, W) = some (pc', L', S', (Hc, I', W))) : wz W y pc L S I Q = wz W y pc' L' S' I' Q :=
  wz_go 1 (by simp only [zgo, hf, hs])
theorem wz_fin (hf : zfet (zT y) pc = some op) (hs : zstep op pc L S (Hc, I, W) = none) : wz W y pc L S I Q = ∃ (n d : Nat) (o : zO) (I' : zI), zfin zR (zx zR zT n) d y pc L S (Hc, I, W) op = some (o, (Hc, I', W), zcst o) ∧ Q o I' := by
  refine propext ⟨fun ⟨n, d, o, I1, h1, h2⟩ => ?_, fun ⟨n, d, o, I1, h1, h2⟩ => ⟨n + 1, d, o, I1, (zx_fin hf hs n d).trans h1, h2⟩⟩
  cases n with
  | zero => unfold zx at h1; cases h1
  | succ n => exact ⟨n, d, o, I1, (zx_fin hf hs n d).symm.trans h1, h2⟩
theorem wz_dead (hf : zfet (zT y) pc = some op) (hs : zstep op pc L S (Hc, I, W) = none) (hz : ∀ X d, zfin zR X d y pc L S (Hc, I, W) op = none) : wz W y pc L S I Q = False := by
  rw [wz_fin hf hs]
  refine propext ⟨fun ⟨n, d, o, I1, h1, _⟩ => ?_, False.elim⟩
  rw [hz] at h1
  cases h1
theorem wz_end {o : zO} (hf : zfet (zT y) pc = some op) (hs : zstep op pc L S (Hc, I, W) = none) (hz : ∀ X d, zfin zR X d y pc L S (Hc, I, W) op = some (o, (Hc, I, W), zcst o)) : wz W y pc L S I Q = Q o I := by
  rw [wz_fin hf hs]
  refine propext ⟨fun ⟨n, d, o1, I1, h1, h2⟩ => ?_, fun h => ⟨0, 0, o, I, hz _ _, h⟩⟩
  rw [hz] at h1
  simp only [Option.some.injEq, Prod.mk.injEq, true_and, and_true] at h1
  obtain ⟨rfl, rfl, -⟩ := h1
  exact h2
variable {l a b c w : Nat}
theorem wz_ret (hf : zfet (zT y) pc = some (.return_, l, a, b, c, w)) (hr : zRr (zR y) = none) : wz W y pc L [] I Q = Q (.inl none) I :=
  wz_end hf rfl (fun X d => by simp only [zfin, hr, if_true]; rfl)
theorem wz_iret {x : Int32} (hf : zfet (zT y) pc = some (.ireturn, l, a, b, c, w)) : wz W y pc L [.int x] I Q = (zrok (zRr (zR y)) x = true ∧ Q (.inl (some (.int x))) I) := by
  cases hr : zrok (zRr (zR y)) x with
  | true => rw [wz_end (o := .inl (some (.int x))) hf rfl (fun X d => by simp only [zfin, hr, if_true]; rfl)]; simp
  | false => rw [wz_dead hf rfl (fun X d => by simp only [zfin, hr]; rfl)]; simp
theorem wz_iretI {x : Int32} (hf : zfet (zT y) pc = some (.ireturn, l, a, b, c, w)) (hr : zRr (zR y) = some .int) : wz W y pc L [.int x] I Q = Q (.inl (some (.int x))) I :=
  wz_end hf rfl (fun X d => by simp only [zfin, hr, zrok, if_true]; rfl)
theorem wz_iretZ {x : Int32} (hf : zfet (zT y) pc = some (.ireturn, l, a, b, c, w)) (hr : zRr (zR y) = some .boolean) (hx : x = 0 ∨ x = 1) : wz W y pc L [.int x] I Q = Q (.inl (some (.int x))) I :=
  wz_end hf rfl (fun X d => by simp only [zfin, hr, zrok, hx, decide_true, if_true]; rfl)
theorem wz_aret {x : Nat} (hf : zfet (zT y) pc = some (.areturn, l, a, b, c, w)) (hr : zrokA (zRr (zR y)) = true) : wz W y pc L [.ref x] I Q = Q (.inl (some (.ref x))) I :=
  wz_end hf rfl (fun X d => by simp only [zfin, hr, if_true]; rfl)
theorem wz_anul (hf : zfet (zT y) pc = some (.areturn, l, a, b, c, w)) (hr : zrokA (zRr (zR y)) = true) : wz W y pc L [.null] I Q = Q (.inl (some .null)) I :=
  wz_end hf rfl (fun X d => by simp only [zfin, hr, if_true]; rfl)
theorem wz_thr {i : Nat} (hf : zfet (zT y) pc = some (.new i, l, a, b, c, w)) (ha : 50 ≤ a) (hs : (S.map fun v => v.category).sum ≤ 8) : wz W y pc L S I Q = Q (.inr (a - 50)) I :=
  wz_end hf rfl (fun X d => by simp only [zfin, if_neg (Nat.not_lt.mpr ha), if_pos hs]; rfl)
theorem wz_inv {S' as L0 : List Value} (hf : zfet (zT y) pc = some op) (hs : zstep op pc L S (Hc, I, W) = none) (hz : ∀ X d, zfin zR X d y pc L S (Hc, I, W) op = zinv zR X d y pc L S (Hc, I, W) a b) (ha : zsf a = true) (hy : zsf y = true)
    (harg : zarg (Hc, I, W) (zR a) b S = some (as, S')) (hL : as ++ List.replicate (zRl (zR a) - as.length) (.float 0) = L0) : wz W y pc L S I Q = wz W a 0 L0 [] I (zk Q (fun v I1 => wz W y (pc + 3) L (v.toList ++ S') I1 Q)) := by
  have ha9 : a < 9000 := by have := zsf_lt ha; omega
  have ez : ∀ (n d : Nat), zinv zR (zx zR zT n) d y pc L S (Hc, I, W) a b = (match d with
    | 0 => none
    | d + 1 => match zx zR zT n d a 0 L0 [] (Hc, I, W) with
      | none => none
      | some (.inl v, M1, u) => zcost u (zx zR zT n (d + 1) y (pc + 3) L (v.toList ++ S') M1)
      | some (.inr E, M1, u) => some (.inr E, M1, u)) := by
    intro n d
    unfold zinv
    rw [if_pos ha9]
    simp only [harg, hL, zsf_he hy, zhnd]
    rfl
  rw [wz_fin hf hs]
  refine propext ⟨fun ⟨n, d, o, I1, h1, h2⟩ => ?_, fun ⟨n, d, o, I1, h1, h2⟩ => ?_⟩
  · rw [hz, ez] at h1
    cases d with
    | zero => cases h1
    | succ d =>
      simp only at h1
      cases hx : zx zR zT n d a 0 L0 [] (Hc, I, W) with
      | none => simp only [hx] at h1; cases h1
      | some q =>
        obtain ⟨o1, M1, u1⟩ := q
        obtain ⟨⟨I2, e1⟩, e2⟩ := zsafe _ _ _ _ _ _ _ _ _ _ _ _ ha hx
        subst e1
        subst e2
        refine ⟨n, d, o1, I2, hx, ?_⟩
        simp only [hx] at h1
        cases o1 with
        | inl v =>
          simp only at h1
          cases hq : zx zR zT n (d + 1) y (pc + 3) L (v.toList ++ S') (Hc, I2, W) with
          | none => rw [hq] at h1; cases h1
          | some q =>
            obtain ⟨o2, M2, u2⟩ := q
            rw [hq] at h1
            simp only [zcost, zcst, Nat.zero_add, Option.some.injEq, Prod.mk.injEq] at h1
            obtain ⟨rfl, rfl, rfl⟩ := h1
            exact ⟨n, d + 1, _, _, hq, h2⟩
        | inr E =>
          simp only [Option.some.injEq, Prod.mk.injEq, true_and, and_true] at h1
          obtain ⟨rfl, rfl, -⟩ := h1
          exact h2
  · cases o with
    | inr E =>
      refine ⟨n, d + 1, .inr E, I1, ?_, h2⟩
      rw [hz, ez]
      simp only [h1]
    | inl v =>
      obtain ⟨n2, d2, o2, I2, g1, g2⟩ := h2
      refine ⟨n + n2, d + d2 + 1, o2, I2, ?_, g2⟩
      rw [hz, ez]
      simp only
      rw [zx_mono _ _ _ _ _ _ _ _ h1 (n + n2) (d + d2) (by omega) (by omega)]
      simp only
      rw [zx_mono _ _ _ _ _ _ _ _ g1 (n + n2) (d + d2 + 1) (by omega) (by omega)]
      simp only [zcost, zcst, Nat.zero_add]
theorem wz_ist {i : Nat} {S' as L0 : List Value} (hf : zfet (zT y) pc = some (.invokestatic i, l, a, b, c, w)) (ha : zsf a = true) (hy : zsf y = true) (harg : zarg (Hc, I, W) (zR a) b S = some (as, S')) (hL : as ++ List.replicate (zRl (zR a) - as.length) (.float 0) = L0) :
    wz W y pc L S I Q = wz W a 0 L0 [] I (zk Q (fun v I1 => wz W y (pc + 3) L (v.toList ++ S') I1 Q)) :=
  wz_inv hf (by have := zsf_lt ha; simp only [zstep, zmth]; rw [if_neg (by omega), if_neg (by omega), if_neg (by omega), if_neg (by omega)]) (fun _ _ => rfl) ha hy harg hL
/-- an instance call's operands: the receiver is of its class -/
def zargI (r : zRec) (n : Nat) (S : List Value) : Option (List Value × List Value × Nat) :=
  let as := (S.take n).reverse
  if S.length < n ∨ ¬ (as.all fun v => v.category == 1) = true then none
  else if zRk r = 1 then none
  else match S.drop n with
    | .ref b :: S => if (S.map fun v => v.category).sum ≤ 8 ∧ n + 1 ≤ zRl r then some (.ref b :: as, S, b) else none
    | _ => none
theorem zargI_ok {M : zM} {r : zRec} {n q : Nat} {S as S' : List Value} (h : zargI r n S = some (as, S', q)) (hr : zrecv M (zRc r) q = true) : zarg M r n S = some (as, S') := by
  unfold zargI at h
  unfold zarg
  simp only at h ⊢
  split at h
  · cases h
  · rename_i h0
    rw [if_neg h0]
    split at h
    · cases h
    · rename_i h1
      rw [if_neg h1]
      split at h
      · rename_i b S1 h2
        split at h
        · rename_i h3
          simp only [Option.some.injEq, Prod.mk.injEq] at h
          obtain ⟨rfl, rfl, rfl⟩ := h
          simp only [h2]
          rw [if_pos ⟨h3.1, h3.2, hr⟩]
        · cases h
      · cases h
theorem wz_ivt {i q : Nat} {S' as L0 : List Value} (hf : zfet (zT y) pc = some (.invokevirtual i, l, a, b, c, w)) (ha : zsf a = true) (hy : zsf y = true) (harg : zargI (zR a) b S = some (as, S', q)) (hr : zrecv (Hc, I, W) (zRc (zR a)) q = true) (hL : as ++ List.replicate (zRl (zR a) - as.length) (.float 0) = L0) :
    wz W y pc L S I Q = wz W a 0 L0 [] I (zk Q (fun v I1 => wz W y (pc + 3) L (v.toList ++ S') I1 Q)) :=
  wz_inv hf rfl (fun _ _ => rfl) ha hy (zargI_ok harg hr) hL
theorem wz_isp {i q : Nat} {S' as L0 : List Value} (hf : zfet (zT y) pc = some (.invokespecial i, l, a, b, c, w)) (ha : zsf a = true) (hy : zsf y = true) (harg : zargI (zR a) b S = some (as, S', q)) (hr : zrecv (Hc, I, W) (zRc (zR a)) q = true) (hL : as ++ List.replicate (zRl (zR a) - as.length) (.float 0) = L0) :
    wz W y pc L S I Q = wz W a 0 L0 [] I (zk Q (fun v I1 => wz W y (pc + 3) L (v.toList ++ S') I1 Q)) :=
  wz_inv hf (by simp only [zstep]; rw [if_neg (by have := zsf_lt ha; omega)]) (fun _ _ => rfl) ha hy (zargI_ok harg hr) hL
theorem zrecv_of {ci r n : Nat} {cs : List Nat} (hc : ci < 50) (h : Hc[r]? = some (100 + ci, n, cs)) : zrecv (Hc, I, W) ci r = true := by
  unfold zrecv
  rw [if_pos hc]
  simp only [h]
  simp
/-! branches -/
theorem wz_i2 {cd : ClassFile.Cond} {off : Int} {x x' : Int32} (hf : zfet (zT y) pc = some (.if_icmp cd off, l, a, b, c, w)) : wz W y pc L (.int x' :: .int x :: S) I Q = zifc cd x x' (wz W y a L S I Q) (wz W y (pc + 3) L S I Q) := by
  have hs : zstep (.if_icmp cd off, l, a, b, c, w) pc L (.int x' :: .int x :: S) (Hc, I, W) = some (zifc cd x x' (a, L, S, (Hc, I, W)) (pc + 3, L, S, (Hc, I, W))) := rfl
  cases cd <;> simp only [zifc] at hs ⊢ <;> split at hs <;> rename_i hc <;> rw [wz_st hf hs] <;> first | rw [if_pos hc] | rw [if_neg hc]
theorem wz_i1 {cd : ClassFile.Cond} {off : Int} {x : Int32} (hf : zfet (zT y) pc = some (.ifCond cd off, l, a, b, c, w)) : wz W y pc L (.int x :: S) I Q = zifc cd x 0 (wz W y a L S I Q) (wz W y (pc + 3) L S I Q) := by
  have hs : zstep (.ifCond cd off, l, a, b, c, w) pc L (.int x :: S) (Hc, I, W) = some (zifc cd x 0 (a, L, S, (Hc, I, W)) (pc + 3, L, S, (Hc, I, W))) := rfl
  cases cd <;> simp only [zifc] at hs ⊢ <;> split at hs <;> rename_i hc <;> rw [wz_st hf hs] <;> first | rw [if_pos hc] | rw [if_neg hc]
theorem wz_if {p : Prop} [Decidable p] {A B A' B' : Prop} (h1 : A = A') (h2 : B = B') : (if p then A else B) = (if p then A' else B') := by rw [h1, h2]
theorem wz_an {p A A' : Prop} (h1 : A = A') : (p ∧ A) = (p ∧ A') := by rw [h1]
/-! the memory -/
theorem wz_gf {i r : Nat} {v : Value} (hf : zfet (zT y) pc = some (.getfield i, l, a, b, c, w)) (hg : zget (Hc, I, W) a b r = some v) : wz W y pc L (.ref r :: S) I Q = wz W y (pc + 3) L (v :: S) I Q :=
  wz_st hf (by simp only [zstep, hg])
theorem wz_pf {i r : Nat} {x : Int32} (hf : zfet (zT y) pc = some (.putfield i, l, a, b, c, w)) (hg : zput (Hc, I, W) a b c r (.int x) = some (Hc, zset I r b x, W)) : wz W y pc L (.int x :: .ref r :: S) I Q = wz W y (pc + 3) L S (zset I r b x) Q :=
  wz_st hf (by simp only [zstep, hg])
theorem zget_I {ci k r n : Nat} {cs : List Nat} (hc : ci < 50) (h : Hc[r]? = some (100 + ci, n, cs)) (hk : cs[k]? = some 0) : zget (Hc, I, W) ci k r = some (.int (I r k)) := by
  unfold zget
  rw [if_pos hc]
  simp [h, hk, zval]
theorem zget_R {ci k r n q : Nat} {cs : List Nat} (hc : ci < 50) (h : Hc[r]? = some (100 + ci, n, cs)) (hk : cs[k]? = some (q + 2)) : zget (Hc, I, W) ci k r = some (.ref q) := by
  unfold zget
  rw [if_pos hc]
  simp [h, hk, zval]
theorem zput_I {ci k fl r n : Nat} {x : Int32} {cs : List Nat} (h : Hc[r]? = some (100 + ci, n, cs)) (hk : cs[k]? = some 0) (hx : fl % 10 = 0 ∨ (fl % 10 = 2 ∧ (x = 0 ∨ x = 1))) : zput (Hc, I, W) ci k fl r (.int x) = some (Hc, zset I r k x, W) := by
  unfold zput
  simp only [h, if_true, hk]
  rw [if_pos ⟨trivial, hx⟩]
theorem wz_ia {r n : Nat} {cs : List Nat} {x : Int32} (hf : zfet (zT y) pc = some (.iaload, l, a, b, c, w)) (h : Hc[r]? = some (0, n, cs)) : wz W y pc L (.int x :: .ref r :: S) I Q = (zvin x n = true ∧ wz W y (pc + 1) L (.int (I r x.toNatClampNeg) :: S) I Q) := by
  have hr : r ≠ 1000000 := by have := Hc_lt h; omega
  have hs : zstep (.iaload, l, a, b, c, w) pc L (.int x :: .ref r :: S) (Hc, I, W) = (match (if zvin x n then some (Value.int (I r x.toNatClampNeg)) else none) with | some v => some (pc + 1, L, v :: S, (Hc, I, W)) | none => none) := by
    simp only [zstep, ziald, if_neg hr, h, if_true]
    rfl
  cases hv : zvin x n with
  | true => rw [hv] at hs; rw [wz_st hf hs]; simp
  | false => rw [hv] at hs; rw [wz_dead hf hs (fun _ _ => rfl)]; simp
theorem wz_ias {r n : Nat} {cs : List Nat} {x v : Int32} (hf : zfet (zT y) pc = some (.iastore, l, a, b, c, w)) (h : Hc[r]? = some (0, n, cs)) : wz W y pc L (.int v :: .int x :: .ref r :: S) I Q = (zvin x n = true ∧ wz W y (pc + 1) L S (zset I r x.toNatClampNeg v) Q) := by
  have hs : zstep (.iastore, l, a, b, c, w) pc L (.int v :: .int x :: .ref r :: S) (Hc, I, W) = (match (if zvin x n then some (Hc, zset I r x.toNatClampNeg v, W) else none) with | some M => some (pc + 1, L, S, M) | none => none) := by
    simp only [zstep, ziast, h, if_true]
    rfl
  cases hv : zvin x n with
  | true => rw [hv] at hs; rw [wz_st hf hs]; simp
  | false => rw [hv] at hs; rw [wz_dead hf hs (fun _ _ => rfl)]; simp
theorem wz_al {r n : Nat} {cs : List Nat} (hf : zfet (zT y) pc = some (.arraylength, l, a, b, c, w)) (h : Hc[r]? = some (0, n, cs)) : wz W y pc L (.ref r :: S) I Q = wz W y (pc + 1) L (.int (Int32.ofNat n) :: S) I Q := by
  have hr := Hc_lt h
  exact wz_st hf (by simp only [zstep, zalen, if_neg (show ¬ r = 1000000 by omega), if_neg (show ¬ (3000000 ≤ r ∧ r < 3000000 + zStrN) by omega), h]; rfl)
theorem wz_div {x x' : Int32} (hf : zfet (zT y) pc = some (.idiv, l, a, b, c, w)) : wz W y pc L (.int x' :: .int x :: S) I Q = (x' ≠ 0 ∧ wz W y (pc + 1) L (.int (x / x') :: S) I Q) := by
  by_cases h : x' = 0
  · rw [wz_dead hf (by simp only [zstep, if_pos h]) (fun _ _ => rfl)]; simp [h]
  · rw [wz_st hf (by simp only [zstep, if_neg h]; rfl)]; simp [h]
theorem wz_rem {x x' : Int32} (hf : zfet (zT y) pc = some (.irem, l, a, b, c, w)) : wz W y pc L (.int x' :: .int x :: S) I Q = (x' ≠ 0 ∧ wz W y (pc + 1) L (.int (x - x / x' * x') :: S) I Q) := by
  by_cases h : x' = 0
  · rw [wz_dead hf (by simp only [zstep, if_pos h]) (fun _ _ => rfl)]; simp [h]
  · rw [wz_st hf (by simp only [zstep, if_neg h]; rfl)]; simp [h]
theorem wz_divc {x x' : Int32} (hf : zfet (zT y) pc = some (.idiv, l, a, b, c, w)) (h : x' ≠ 0) : wz W y pc L (.int x' :: .int x :: S) I Q = wz W y (pc + 1) L (.int (x / x') :: S) I Q :=
  wz_st hf (by simp only [zstep, if_neg h])
theorem wz_remc {x x' : Int32} (hf : zfet (zT y) pc = some (.irem, l, a, b, c, w)) (h : x' ≠ 0) : wz W y pc L (.int x' :: .int x :: S) I Q = wz W y (pc + 1) L (.int (x - x / x' * x') :: S) I Q :=
  wz_st hf (by simp only [zstep, if_neg h])
/-! Strings -/
theorem wz_no (hf : zfet (zT y) pc = none) : wz W y pc L S I Q = False := by
  refine propext ⟨fun ⟨n, d, o, I1, h1, _⟩ => ?_, False.elim⟩
  cases n with
  | zero => unfold zx at h1; cases h1
  | succ n => rw [zx_succ, hf] at h1; cases h1
theorem zget_V {i b : Nat} (hi : i < 7) : zget (Hc, I, W) 50 b (2000000 + i) = some (.ref (3000000 + i)) := by
  unfold zget
  rw [if_neg (by decide), if_pos ⟨by omega, by show 2000000 + i < 2000000 + 7; omega⟩, if_pos rfl, show 2000000 + i + 1000000 = 3000000 + i by omega]
theorem zget_C {i b : Nat} (hi : i < 7) : zget (Hc, I, W) 51 b (2000000 + i) = some (.int 0) := by
  unfold zget
  rw [if_neg (by decide), if_pos ⟨by omega, by show 2000000 + i < 2000000 + 7; omega⟩, if_neg (by decide)]
theorem wz_alS {i : Nat} (hf : zfet (zT y) pc = some (.arraylength, l, a, b, c, w)) (hi : i < 7) : wz W y pc L (.ref (3000000 + i) :: S) I Q = wz W y (pc + 1) L (.int (Int32.ofNat (zStrB.getD i []).length) :: S) I Q := by
  refine wz_st hf ?_
  simp only [zstep, zalen]
  rw [if_neg (by omega), if_pos ⟨by omega, by show 3000000 + i < 3000000 + 7; omega⟩, Nat.add_sub_cancel_left]
theorem wz_ba {i : Nat} {x : Int32} (hf : zfet (zT y) pc = some (.baload, l, a, b, c, w)) (hi : i < 7) : wz W y pc L (.int x :: .ref (3000000 + i) :: S) I Q = (zvin x (zStrB.getD i []).length = true ∧ wz W y (pc + 1) L (.int ((zStrB.getD i []).getD x.toNatClampNeg 0) :: S) I Q) := by
  have hs : zstep (.baload, l, a, b, c, w) pc L (.int x :: .ref (3000000 + i) :: S) (Hc, I, W) = (match (if zvin x (zStrB.getD i []).length then some (Value.int ((zStrB.getD i []).getD x.toNatClampNeg 0)) else none) with | some v => some (pc + 1, L, v :: S, (Hc, I, W)) | none => none) := by
    simp only [zstep, zbald]
    rw [if_pos ⟨by omega, by show 3000000 + i < 3000000 + 7; omega⟩, Nat.add_sub_cancel_left]
    rfl
  cases hv : zvin x (zStrB.getD i []).length with
  | true => rw [hv] at hs; rw [wz_st hf hs]; simp
  | false => rw [hv] at hs; rw [wz_dead hf hs (fun _ _ => rfl)]; simp
theorem zrecv_S {i : Nat} {M : zM} (hi : i < 7) : zrecv M 60 (2000000 + i) = true := by
  unfold zrecv
  rw [if_neg (by decide)]
  exact decide_eq_true ⟨by omega, by show 2000000 + i < 2000000 + 7; omega⟩
def ji2c (x : Int32) : Int32 := (x.toUInt32 % 65536).toInt32
end
