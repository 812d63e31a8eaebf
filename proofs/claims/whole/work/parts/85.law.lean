/-! ===== what a safe method does doesn't hang on the script and the long row ===== -/
def cln (L : List Value) : Prop := ∀ v, v ∈ L → v ≠ .ref 1000000
theorem cln_n : cln [] := fun v h => by cases h
theorem cln_c {v : Value} {S : List Value} (h : v ≠ .ref 1000000) (g : cln S) : cln (v :: S) := fun w hw => by
  rcases List.mem_cons.mp hw with rfl | hw
  · exact h
  · exact g w hw
theorem cln_i {x : Int32} {S : List Value} (g : cln S) : cln (.int x :: S) := cln_c (fun h => by cases h) g
theorem cln_t {v : Value} {S : List Value} (g : cln (v :: S)) : cln S := fun w hw => g w (List.mem_cons_of_mem _ hw)
theorem cln_h {v : Value} {S : List Value} (g : cln (v :: S)) : v ≠ .ref 1000000 := g v List.mem_cons_self
theorem cln_s {L : List Value} {v : Value} {i : Nat} (h : v ≠ .ref 1000000) (g : cln L) : cln (L.set i v) := fun w hw => by
  rcases List.mem_or_eq_of_mem_set hw with hw | rfl
  · exact g w hw
  · exact h
theorem cln_a {A B : List Value} (h : cln A) (g : cln B) : cln (A ++ B) := fun w hw => by
  rcases List.mem_append.mp hw with hw | hw
  · exact h w hw
  · exact g w hw
theorem cln_r (n : Nat) : cln (List.replicate n (.float 0)) := fun w hw => by
  rw [List.eq_of_mem_replicate hw]
  intro h
  cases h
theorem Hc_codes : ∀ t, t ∈ Hc → ∀ c, c ∈ t.2.2 → c < 1000 := by
  have h : Hc.all (fun t => t.2.2.all (fun c => Nat.blt c 1000)) = true := by decide +kernel
  intro t ht c hc
  exact Nat.le_of_ble_eq_true (List.all_eq_true.mp (List.all_eq_true.mp h t ht) c hc)
theorem zval_ok {c : Nat} {x : Int32} (h : c < 1000) : zval c x ≠ .ref 1000000 := by
  match c, h with
  | 0, _ => intro h; cases h
  | 1, _ => intro h; cases h
  | n + 2, h =>
    intro h9
    have : n = 1000000 := by
      have h8 : (Value.ref n) = .ref 1000000 := h9
      cases h8
      rfl
    omega
section
variable {I : zI} {W W2 : zW}
theorem zget_ok {a b r : Nat} {v : Value} (h : zget (Hc, I, W) a b r = some v) : v ≠ .ref 1000000 := by
  rcases zget_spec h with ⟨-, t, c, h1, -, h3, rfl⟩ | ⟨-, h1, -, ⟨-, rfl⟩ | ⟨-, rfl⟩⟩
  · exact zval_ok (Hc_codes t (List.mem_of_getElem? h1) c (List.mem_of_getElem? h3))
  · intro h9
    have : r + 1000000 = 1000000 := by
      cases h9
      rfl
    omega
  · intro h9; cases h9
theorem zaald_ok {r : Nat} {i : Int32} {v : Value} (h : zaald (Hc, I, W) r i = some v) : v ≠ .ref 1000000 := by
  unfold zaald at h
  simp only at h
  cases hr : Hc[r]? with
  | none => simp only [hr] at h; cases h
  | some t =>
    simp only [hr] at h
    split at h
    · split at h
      · cases hc : t.2.2[i.toNatClampNeg]? with
        | none => simp only [hc] at h; cases h
        | some c =>
          simp only [hc] at h
          have hb := Hc_codes t (List.mem_of_getElem? hr) c (List.mem_of_getElem? hc)
          cases c with
          | zero => cases h
          | succ n =>
            cases h
            exact zval_ok hb
      · cases h
    · cases h
theorem zild_ok {L : List Value} {i : Nat} {v : Value} (h : zild L i = some v) : v ≠ .ref 1000000 := by
  unfold zild at h
  split at h
  · cases h; intro h9; cases h9
  · cases h
theorem zald_ok {L : List Value} {i : Nat} {v : Value} (hL : cln L) (h : zald L i = some v) : v ≠ .ref 1000000 := by
  unfold zald at h
  split at h
  · rename_i a ha
    cases h
    exact hL _ (List.mem_of_getElem? ha)
  · cases h; intro h9; cases h9
  · cases h
theorem zist_ok {L L' : List Value} {i : Nat} {v : Value} (hL : cln L) (h : zist L i v = some L') : cln L' := by
  unfold zist at h
  split at h
  · split at h
    · cases h; exact cln_s (fun h9 => by cases h9) hL
    · cases h
  · cases h
theorem zast_ok {L L' : List Value} {i : Nat} {v : Value} (hL : cln L) (hv : v ≠ .ref 1000000) (h : zast L i v = some L') : cln L' := by
  unfold zast at h
  split at h
  · split at h
    · cases h; exact cln_s hv hL
    · cases h
  · split at h
    · cases h; exact cln_s (fun h9 => by cases h9) hL
    · cases h
  · split at h
    · split at h
      · cases h; exact cln_s (fun h9 => by cases h9) hL
      · cases h
    · cases h
  · cases h
theorem zmth_ok {a : Nat} {S S' : List Value} (hS : cln S) (h : zmth a S = some S') : cln S' := by
  unfold zmth at h
  split at h
  · split at h
    · split at h
      · cases h; exact cln_i (cln_t (cln_t hS))
      · cases h
    · cases h
  · split at h
    · split at h
      · split at h
        · cases h; exact cln_i (cln_t (cln_t hS))
        · cases h
      · cases h
    · split at h
      · split at h
        · split at h
          · cases h; exact cln_i (cln_t hS)
          · cases h
        · cases h
      · cases h
/-- no long row -/
def zno (op : zOp) : Bool := match op.1 with
  | .lastore => false
  | .laload => false
  | .newarray _ => false
  | _ => true
def znom (y : Nat) : Bool := (zT y).all (fun c => c.all (fun o => match o with | none => true | some op => zno op))
set_option maxRecDepth 100000 in
theorem zno_all : ∀ y, y < 340 → zsf y = true → znom y = true := by decide +kernel
theorem zno_op {y pc : Nat} {op : zOp} (h : zsf y = true) (hf : zfet (zT y) pc = some op) : zno op = true := by
  have h1 := zno_all y (zsf_lt h) h
  unfold znom at h1
  unfold zfet at hf
  split at hf
  · rename_i c hc
    split at hf
    · rename_i op1 ho
      cases hf
      have h2 := List.all_eq_true.mp h1 c (List.mem_of_getElem? hc)
      exact List.all_eq_true.mp h2 (some op) (List.mem_of_getElem? ho)
    · cases hf
  · cases hf
set_option maxHeartbeats 4000000 in
theorem zstep_cln {op : zOp} {pc pc' : Nat} {L S L' S' : List Value} {M' : zM} (hn : zno op = true) (hL : cln L) (hS : cln S) (h : zstep op pc L S (Hc, I, W) = some (pc', L', S', M')) : zwo op S = true ∧ cln L' ∧ cln S' := by
  obtain ⟨i, len, a, b, c, w⟩ := op
  cases i
  case lastore => exact absurd hn Bool.false_ne_true
  case laload => exact absurd hn Bool.false_ne_true
  case arraylength =>
    simp only [zstep] at h
    split at h
    · rename_i r S1
      split at h
      · rename_i v hv
        have hr : r ≠ 1000000 := fun e => cln_h hS (by rw [e])
        have hvi : v ≠ .ref 1000000 := by
          unfold zalen at hv
          split at hv
          · cases hv; intro h9; cases h9
          · split at hv
            · cases hv; intro h9; cases h9
            · split at hv
              · split at hv
                · cases hv; intro h9; cases h9
                · cases hv
              · cases hv
        cases h
        refine ⟨?_, hL, cln_c hvi (cln_t hS)⟩
        show (!(Nat.beq r 1000000)) = true
        cases hb : Nat.beq r 1000000 with
        | false => rfl
        | true => exact absurd (Nat.eq_of_beq_eq_true hb) hr
      · cases h
    · cases h
  case iaload =>
    simp only [zstep] at h
    split at h
    · rename_i x r S1
      split at h
      · rename_i v hv
        have hr : r ≠ 1000000 := fun e => cln_h (cln_t hS) (by rw [e])
        have hvi : v ≠ .ref 1000000 := by
          unfold ziald at hv
          rw [if_neg hr] at hv
          split at hv
          · split at hv
            · split at hv
              · cases hv; intro h9; cases h9
              · cases hv
            · cases hv
          · cases hv
        cases h
        refine ⟨?_, hL, cln_c hvi (cln_t (cln_t hS))⟩
        show (!(Nat.beq r 1000000)) = true
        cases hb : Nat.beq r 1000000 with
        | false => rfl
        | true => exact absurd (Nat.eq_of_beq_eq_true hb) hr
      · cases h
    · cases h
  case getfield f =>
    refine ⟨rfl, ?_⟩
    simp only [zstep] at h
    split at h
    · split at h
      · rename_i hv
        cases h
        exact ⟨hL, cln_c (zget_ok hv) (cln_t hS)⟩
      · cases h
    · cases h
  case aaload =>
    refine ⟨rfl, ?_⟩
    simp only [zstep] at h
    split at h
    · split at h
      · rename_i hv
        cases h
        exact ⟨hL, cln_c (zaald_ok hv) (cln_t (cln_t hS))⟩
      · cases h
    · cases h
  case baload =>
    refine ⟨rfl, ?_⟩
    simp only [zstep] at h
    split at h
    · split at h
      · rename_i v hv
        have hvi : v ≠ .ref 1000000 := by
          unfold zbald at hv
          split at hv
          · split at hv
            · cases hv; intro h9; cases h9
            · cases hv
          · cases hv
        cases h
        exact ⟨hL, cln_c hvi (cln_t (cln_t hS))⟩
      · cases h
    · cases h
  case iload f =>
    refine ⟨rfl, ?_⟩
    simp only [zstep] at h
    split at h
    · rename_i hv
      cases h
      exact ⟨hL, cln_c (zild_ok hv) hS⟩
    · cases h
  case iload_n f =>
    refine ⟨rfl, ?_⟩
    simp only [zstep] at h
    split at h
    · rename_i hv
      cases h
      exact ⟨hL, cln_c (zild_ok hv) hS⟩
    · cases h
  case aload f =>
    refine ⟨rfl, ?_⟩
    simp only [zstep] at h
    split at h
    · rename_i hv
      cases h
      exact ⟨hL, cln_c (zald_ok hL hv) hS⟩
    · cases h
  case aload_n f =>
    refine ⟨rfl, ?_⟩
    simp only [zstep] at h
    split at h
    · rename_i hv
      cases h
      exact ⟨hL, cln_c (zald_ok hL hv) hS⟩
    · cases h
  case istore f =>
    refine ⟨rfl, ?_⟩
    simp only [zstep] at h
    split at h
    · split at h
      · rename_i hv
        cases h
        exact ⟨zist_ok hL hv, cln_t hS⟩
      · cases h
    · cases h
  case istore_n f =>
    refine ⟨rfl, ?_⟩
    simp only [zstep] at h
    split at h
    · split at h
      · rename_i hv
        cases h
        exact ⟨zist_ok hL hv, cln_t hS⟩
      · cases h
    · cases h
  case astore f =>
    refine ⟨rfl, ?_⟩
    simp only [zstep] at h
    split at h
    · split at h
      · rename_i hv
        cases h
        exact ⟨zast_ok hL (cln_h hS) hv, cln_t hS⟩
      · cases h
    · cases h
  case astore_n f =>
    refine ⟨rfl, ?_⟩
    simp only [zstep] at h
    split at h
    · split at h
      · rename_i hv
        cases h
        exact ⟨zast_ok hL (cln_h hS) hv, cln_t hS⟩
      · cases h
    · cases h
  case iinc i k =>
    refine ⟨rfl, ?_⟩
    simp only [zstep] at h
    split at h
    · cases h
      exact ⟨cln_s (fun h9 => by cases h9) hL, hS⟩
    · cases h
  case dup =>
    refine ⟨rfl, ?_⟩
    simp only [zstep] at h
    split at h
    · split at h
      · cases h
        exact ⟨hL, cln_c (cln_h hS) hS⟩
      · cases h
    · cases h
  case dup2 =>
    refine ⟨rfl, ?_⟩
    simp only [zstep] at h
    split at h
    · split at h
      · cases h
        exact ⟨hL, cln_c (cln_h hS) (cln_c (cln_h (cln_t hS)) hS)⟩
      · cases h
    · cases h
  case ldc f =>
    refine ⟨rfl, ?_⟩
    simp only [zstep] at h
    split at h
    · cases h
      exact ⟨hL, cln_i hS⟩
    · split at h
      · cases h
        refine ⟨hL, cln_c (fun h9 => ?_) hS⟩
        injection h9 with h9
        have h8 : 2000000 + b = 1000000 := h9
        omega
      · cases h
  case invokestatic f =>
    refine ⟨rfl, ?_⟩
    simp only [zstep] at h
    split at h
    · split at h
      · split at h
        · split at h
          · cases h
            exact ⟨hL, cln_t (cln_t (cln_t (cln_t (cln_t hS))))⟩
          · cases h
        · cases h
      · cases h
    · split at h
      · rename_i hv
        cases h
        exact ⟨hL, zmth_ok hS hv⟩
      · cases h
  case getstatic f =>
    refine ⟨rfl, ?_⟩
    simp only [zstep] at h
    split at h <;> cases h
    · exact ⟨hL, cln_i hS⟩
    · exact ⟨hL, cln_c (fun h9 => by cases h9) hS⟩
  case ifCond cd off =>
    refine ⟨rfl, ?_⟩
    simp only [zstep] at h
    split at h
    · cases cd <;> simp only [zifc] at h <;> split at h <;> cases h <;> exact ⟨hL, cln_t hS⟩
    · cases h
  case if_icmp cd off =>
    refine ⟨rfl, ?_⟩
    simp only [zstep] at h
    split at h
    · cases cd <;> simp only [zifc] at h <;> split at h <;> cases h <;> exact ⟨hL, cln_t (cln_t hS)⟩
    · cases h
  case newarray => exact absurd hn Bool.false_ne_true
  all_goals refine ⟨rfl, ?_⟩
  all_goals simp only [zstep] at h
  all_goals (try (cases h; done))
  all_goals (repeat' split at h)
  all_goals (try (cases h; done))
  all_goals cases h
  all_goals first
    | exact ⟨hL, hS⟩
    | exact ⟨hL, cln_i hS⟩
    | exact ⟨hL, cln_i (cln_t hS)⟩
    | exact ⟨hL, cln_i (cln_t (cln_t hS))⟩
    | exact ⟨hL, cln_t hS⟩
    | exact ⟨hL, cln_t (cln_t hS)⟩
    | exact ⟨hL, cln_t (cln_t (cln_t hS))⟩
    | exact ⟨hL, cln_c (fun h9 => by cases h9) hS⟩
    | exact ⟨hL, cln_c (fun h9 => by cases h9) (cln_t hS)⟩
    | exact ⟨hL, cln_c (fun h9 => by cases h9) (cln_t (cln_t hS))⟩
theorem zarg_cln {M : zM} {r : zRec} {n : Nat} {S as S' : List Value} (hS : cln S) (h : zarg M r n S = some (as, S')) : cln as ∧ cln S' := by
  have ht : cln (S.take n).reverse := fun v hv => hS v (List.mem_of_mem_take (List.mem_reverse.mp hv))
  have hd : cln (S.drop n) := fun v hv => hS v (List.mem_of_mem_drop hv)
  unfold zarg at h
  simp only at h
  split at h
  · cases h
  · split at h
    · split at h
      · cases h; exact ⟨ht, hd⟩
      · cases h
    · split at h
      · rename_i b S1 h2
        split at h
        · cases h
          rw [h2] at hd
          exact ⟨cln_c (cln_h hd) ht, cln_t hd⟩
        · cases h
      · cases h
/-- the same run over another script and long row -/
theorem zx_W2 : ∀ (n d y pc : Nat) (L S : List Value) (I : zI) (o : zO) (M' : zM) (u : Nat), zsf y = true → cln L → cln S → zx zR zT n d y pc L S (Hc, I, W) = some (o, M', u) → zx zR zT n d y pc L S (Hc, I, W2) = some (o, (M'.1, M'.2.1, W2), u) ∧ ∀ v, o = .inl (some v) → v ≠ .ref 1000000 := by
  intro n
  induction n with
  | zero => intro d y pc L S I o M' u _ _ _ h; unfold zx at h; cases h
  | succ n ih =>
    intro d y pc L S I o M' u hy hL hS h
    rw [zx_succ] at h ⊢
    cases hf : zfet (zT y) pc with
    | none => simp only [hf] at h; cases h
    | some op =>
      have ho := zsf_op hy hf
      have hn := zno_op hy hf
      simp only [hf] at h ⊢
      cases hs : zstep op pc L S (Hc, I, W) with
      | some c =>
        obtain ⟨I1, e⟩ := zstep_safe ho hs
        obtain ⟨pc1, L1, S1, M1⟩ := c
        simp only at e
        subst e
        simp only [hs] at h
        obtain ⟨hw, hL1, hS1⟩ := zstep_cln hn hL hS hs
        rw [zstepW (W2 := W2) hw hs]
        exact ih _ _ _ _ _ _ _ _ _ hy hL1 hS1 h
      | none =>
        simp only [hs] at h
        have hs2 : zstep op pc L S (Hc, I, W2) = none := by
          cases hc : zstep op pc L S (Hc, I, W2) with
          | none => rfl
          | some c =>
            obtain ⟨pc1, L1, S1, M1⟩ := c
            obtain ⟨hw, -, -⟩ := zstep_cln hn hL hS hc
            have := zstepW (W2 := W) hw hc
            rw [hs] at this
            cases this
        simp only [hs2]
        have hcall : ∀ a b : Nat, zsf a = true → zinv zR (zx zR zT n) d y pc L S (Hc, I, W) a b = some (o, M', u) → zinv zR (zx zR zT n) d y pc L S (Hc, I, W2) a b = some (o, (M'.1, M'.2.1, W2), u) ∧ ∀ v, o = .inl (some v) → v ≠ .ref 1000000 := by
          intro a b ha h
          unfold zinv at h ⊢
          rw [show zarg (Hc, I, W2) (zR a) b S = zarg (Hc, I, W) (zR a) b S from rfl]
          cases hq : (if a < 9000 then zarg (Hc, I, W) (zR a) b S else none) with
          | none => simp only [hq] at h; cases h
          | some q =>
            obtain ⟨as, S'⟩ := q
            simp only [hq] at h ⊢
            have hq2 : zarg (Hc, I, W) (zR a) b S = some (as, S') := by
              split at hq
              · exact hq
              · cases hq
            obtain ⟨ca, cS⟩ := zarg_cln hS hq2
            cases d with
            | zero => cases h
            | succ d =>
              simp only at h ⊢
              cases hx : zx zR zT n d a 0 (as ++ List.replicate (zRl (zR a) - as.length) (.float 0)) [] (Hc, I, W) with
              | none => simp only [hx] at h; cases h
              | some q =>
                obtain ⟨o1, M1, u1⟩ := q
                obtain ⟨⟨I1, e1⟩, e2⟩ := zsafe _ _ _ _ _ _ _ _ _ _ _ _ ha hx
                subst e1
                obtain ⟨g1, g2⟩ := ih _ _ _ _ _ _ _ _ _ ha (cln_a ca (cln_r _)) cln_n hx
                rw [g1]
                simp only [hx] at h ⊢
                cases o1 with
                | inl v =>
                  simp only at h ⊢
                  have cv : cln (v.toList ++ S') := by
                    refine cln_a (fun w hw => ?_) cS
                    cases v with
                    | none => cases hw
                    | some v =>
                      rw [List.mem_singleton.mp hw]
                      exact g2 v rfl
                  cases hz : zx zR zT n (d + 1) y (pc + 3) L (v.toList ++ S') (Hc, I1, W) with
                  | none => rw [hz] at h; cases h
                  | some q =>
                    obtain ⟨o2, M2, u2⟩ := q
                    obtain ⟨g3, g4⟩ := ih _ _ _ _ _ _ _ _ _ hy hL cv hz
                    rw [hz] at h
                    rw [g3]
                    cases h
                    exact ⟨rfl, g4⟩
                | inr E =>
                  rw [zsf_he hy] at h ⊢
                  simp only [zhnd] at h ⊢
                  cases h
                  exact ⟨rfl, fun v hv => by cases hv⟩
        obtain ⟨i, len, a, b, c, w⟩ := op
        unfold zfin at h ⊢
        cases i <;> simp only at h ⊢ <;> try (cases h; done)
        case return_ =>
          split at h
          · split at h
            · rename_i hc; rw [if_pos hc]; cases h; exact ⟨rfl, fun v hv => by cases hv⟩
            · cases h
          · cases h
        case ireturn =>
          split at h
          · split at h
            · rename_i hc; rw [if_pos hc]; cases h; exact ⟨rfl, fun v hv => by cases hv; intro h9; cases h9⟩
            · cases h
          · cases h
        case areturn =>
          split at h
          · split at h
            · rename_i hc; rw [if_pos hc]; cases h; exact ⟨rfl, fun v hv => by cases hv; exact cln_h hS⟩
            · cases h
          · split at h
            · rename_i hc; rw [if_pos hc]; cases h; exact ⟨rfl, fun v hv => by cases hv; intro h9; cases h9⟩
            · cases h
          · cases h
        case new =>
          simp only [zsfo, decide_eq_true_eq] at ho
          rw [if_neg (by omega)] at h ⊢
          split at h
          · rename_i hc; rw [if_pos hc]; cases h; exact ⟨rfl, fun v hv => by cases hv⟩
          · cases h
        case newarray => simp [zsfo] at ho
        case anewarray => simp [zsfo] at ho
        case invokevirtual => exact hcall _ _ (by simpa [zsfo] using ho) h
        case invokespecial =>
          simp only [zsfo, Bool.or_eq_true, decide_eq_true_eq] at ho
          rcases ho with ho | ho
          · exfalso
            subst ho
            simp [zinv] at h
          · exact hcall _ _ ho h
        case invokestatic =>
          simp only [zsfo, Bool.or_eq_true, decide_eq_true_eq] at ho
          rcases ho with ho | ho
          · exfalso
            unfold zinv at h
            rw [if_neg (by omega)] at h
            cases h
          · exact hcall _ _ ho h
end
