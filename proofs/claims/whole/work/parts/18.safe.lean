/-! ===== THE SHAPES behind the law's constructors (written by program: a run of the abstract machine) ===== -/
def Hc : zSh := [
  (109, 12, [3, 0, 5, 6, 7, 29, 51, 78, 105, 0, 132, 350]), (105, 1, [4]), (0, 900, []), (104, 6, [3, 0, 0, 0, 0, 0]), (108, 3, [0, 0, 0]), (106, 17, [0, 8, 9, 0, 10, 11, 0, 12, 14, 16, 0, 18, 0, 0, 0, 0, 0]),
  (11, 6, [20, 21, 22, 23, 24, 25]), (101, 7, [0, 0, 0, 0, 0, 0, 0]), (10, 3, [26, 27, 28]), (100, 7, [0, 0, 0, 0, 0, 0, 0]), (105, 1, [13]), (0, 10, []),
  (105, 1, [15]), (0, 10, []), (105, 1, [17]), (0, 10, []), (105, 1, [19]), (0, 8, []),
  (101, 7, [0, 0, 0, 0, 0, 0, 0]), (101, 7, [0, 0, 0, 0, 0, 0, 0]), (101, 7, [0, 0, 0, 0, 0, 0, 0]), (101, 7, [0, 0, 0, 0, 0, 0, 0]), (101, 7, [0, 0, 0, 0, 0, 0, 0]), (101, 7, [0, 0, 0, 0, 0, 0, 0]),
  (100, 7, [0, 0, 0, 0, 0, 0, 0]), (100, 7, [0, 0, 0, 0, 0, 0, 0]), (100, 7, [0, 0, 0, 0, 0, 0, 0]), (106, 17, [0, 30, 31, 0, 32, 33, 0, 34, 36, 38, 0, 40, 0, 0, 0, 0, 0]), (11, 6, [42, 43, 44, 45, 46, 47]), (101, 7, [0, 0, 0, 0, 0, 0, 0]),
  (10, 3, [48, 49, 50]), (100, 7, [0, 0, 0, 0, 0, 0, 0]), (105, 1, [35]), (0, 10, []), (105, 1, [37]), (0, 10, []),
  (105, 1, [39]), (0, 10, []), (105, 1, [41]), (0, 8, []), (101, 7, [0, 0, 0, 0, 0, 0, 0]), (101, 7, [0, 0, 0, 0, 0, 0, 0]),
  (101, 7, [0, 0, 0, 0, 0, 0, 0]), (101, 7, [0, 0, 0, 0, 0, 0, 0]), (101, 7, [0, 0, 0, 0, 0, 0, 0]), (101, 7, [0, 0, 0, 0, 0, 0, 0]), (100, 7, [0, 0, 0, 0, 0, 0, 0]), (100, 7, [0, 0, 0, 0, 0, 0, 0]),
  (100, 7, [0, 0, 0, 0, 0, 0, 0]), (107, 17, [7, 0, 0, 52, 54, 56, 58, 60, 62, 64, 66, 0, 68, 70, 72, 74, 76]), (105, 1, [53]), (0, 40, []), (105, 1, [55]), (0, 40, []),
  (105, 1, [57]), (0, 40, []), (105, 1, [59]), (0, 40, []), (105, 1, [61]), (0, 40, []),
  (105, 1, [63]), (0, 40, []), (105, 1, [65]), (0, 40, []), (105, 1, [67]), (0, 40, []),
  (105, 1, [69]), (0, 8, []), (105, 1, [71]), (0, 3, []), (105, 1, [73]), (0, 3, []),
  (105, 1, [75]), (0, 3, []), (105, 1, [77]), (0, 10, []), (107, 17, [7, 0, 0, 79, 81, 83, 85, 87, 89, 91, 93, 0, 95, 97, 99, 101, 103]), (105, 1, [80]),
  (0, 40, []), (105, 1, [82]), (0, 40, []), (105, 1, [84]), (0, 40, []), (105, 1, [86]),
  (0, 40, []), (105, 1, [88]), (0, 40, []), (105, 1, [90]), (0, 40, []), (105, 1, [92]),
  (0, 40, []), (105, 1, [94]), (0, 40, []), (105, 1, [96]), (0, 8, []), (105, 1, [98]),
  (0, 3, []), (105, 1, [100]), (0, 3, []), (105, 1, [102]), (0, 3, []), (105, 1, [104]),
  (0, 10, []), (107, 17, [7, 0, 0, 106, 108, 110, 112, 114, 116, 118, 120, 0, 122, 124, 126, 128, 130]), (105, 1, [107]), (0, 40, []), (105, 1, [109]), (0, 40, []),
  (105, 1, [111]), (0, 40, []), (105, 1, [113]), (0, 40, []), (105, 1, [115]), (0, 40, []),
  (105, 1, [117]), (0, 40, []), (105, 1, [119]), (0, 40, []), (105, 1, [121]), (0, 40, []),
  (105, 1, [123]), (0, 8, []), (105, 1, [125]), (0, 3, []), (105, 1, [127]), (0, 3, []),
  (105, 1, [129]), (0, 3, []), (105, 1, [131]), (0, 10, []), (102, 3, [133, 0, 0]), (17, 8, [134, 161, 188, 215, 242, 269, 296, 323]),
  (107, 17, [7, 0, 0, 135, 137, 139, 141, 143, 145, 147, 149, 0, 151, 153, 155, 157, 159]), (105, 1, [136]), (0, 40, []), (105, 1, [138]), (0, 40, []), (105, 1, [140]),
  (0, 40, []), (105, 1, [142]), (0, 40, []), (105, 1, [144]), (0, 40, []), (105, 1, [146]),
  (0, 40, []), (105, 1, [148]), (0, 40, []), (105, 1, [150]), (0, 40, []), (105, 1, [152]),
  (0, 8, []), (105, 1, [154]), (0, 3, []), (105, 1, [156]), (0, 3, []), (105, 1, [158]),
  (0, 3, []), (105, 1, [160]), (0, 10, []), (107, 17, [7, 0, 0, 162, 164, 166, 168, 170, 172, 174, 176, 0, 178, 180, 182, 184, 186]), (105, 1, [163]), (0, 40, []),
  (105, 1, [165]), (0, 40, []), (105, 1, [167]), (0, 40, []), (105, 1, [169]), (0, 40, []),
  (105, 1, [171]), (0, 40, []), (105, 1, [173]), (0, 40, []), (105, 1, [175]), (0, 40, []),
  (105, 1, [177]), (0, 40, []), (105, 1, [179]), (0, 8, []), (105, 1, [181]), (0, 3, []),
  (105, 1, [183]), (0, 3, []), (105, 1, [185]), (0, 3, []), (105, 1, [187]), (0, 10, []),
  (107, 17, [7, 0, 0, 189, 191, 193, 195, 197, 199, 201, 203, 0, 205, 207, 209, 211, 213]), (105, 1, [190]), (0, 40, []), (105, 1, [192]), (0, 40, []), (105, 1, [194]),
  (0, 40, []), (105, 1, [196]), (0, 40, []), (105, 1, [198]), (0, 40, []), (105, 1, [200]),
  (0, 40, []), (105, 1, [202]), (0, 40, []), (105, 1, [204]), (0, 40, []), (105, 1, [206]),
  (0, 8, []), (105, 1, [208]), (0, 3, []), (105, 1, [210]), (0, 3, []), (105, 1, [212]),
  (0, 3, []), (105, 1, [214]), (0, 10, []), (107, 17, [7, 0, 0, 216, 218, 220, 222, 224, 226, 228, 230, 0, 232, 234, 236, 238, 240]), (105, 1, [217]), (0, 40, []),
  (105, 1, [219]), (0, 40, []), (105, 1, [221]), (0, 40, []), (105, 1, [223]), (0, 40, []),
  (105, 1, [225]), (0, 40, []), (105, 1, [227]), (0, 40, []), (105, 1, [229]), (0, 40, []),
  (105, 1, [231]), (0, 40, []), (105, 1, [233]), (0, 8, []), (105, 1, [235]), (0, 3, []),
  (105, 1, [237]), (0, 3, []), (105, 1, [239]), (0, 3, []), (105, 1, [241]), (0, 10, []),
  (107, 17, [7, 0, 0, 243, 245, 247, 249, 251, 253, 255, 257, 0, 259, 261, 263, 265, 267]), (105, 1, [244]), (0, 40, []), (105, 1, [246]), (0, 40, []), (105, 1, [248]),
  (0, 40, []), (105, 1, [250]), (0, 40, []), (105, 1, [252]), (0, 40, []), (105, 1, [254]),
  (0, 40, []), (105, 1, [256]), (0, 40, []), (105, 1, [258]), (0, 40, []), (105, 1, [260]),
  (0, 8, []), (105, 1, [262]), (0, 3, []), (105, 1, [264]), (0, 3, []), (105, 1, [266]),
  (0, 3, []), (105, 1, [268]), (0, 10, []), (107, 17, [7, 0, 0, 270, 272, 274, 276, 278, 280, 282, 284, 0, 286, 288, 290, 292, 294]), (105, 1, [271]), (0, 40, []),
  (105, 1, [273]), (0, 40, []), (105, 1, [275]), (0, 40, []), (105, 1, [277]), (0, 40, []),
  (105, 1, [279]), (0, 40, []), (105, 1, [281]), (0, 40, []), (105, 1, [283]), (0, 40, []),
  (105, 1, [285]), (0, 40, []), (105, 1, [287]), (0, 8, []), (105, 1, [289]), (0, 3, []),
  (105, 1, [291]), (0, 3, []), (105, 1, [293]), (0, 3, []), (105, 1, [295]), (0, 10, []),
  (107, 17, [7, 0, 0, 297, 299, 301, 303, 305, 307, 309, 311, 0, 313, 315, 317, 319, 321]), (105, 1, [298]), (0, 40, []), (105, 1, [300]), (0, 40, []), (105, 1, [302]),
  (0, 40, []), (105, 1, [304]), (0, 40, []), (105, 1, [306]), (0, 40, []), (105, 1, [308]),
  (0, 40, []), (105, 1, [310]), (0, 40, []), (105, 1, [312]), (0, 40, []), (105, 1, [314]),
  (0, 8, []), (105, 1, [316]), (0, 3, []), (105, 1, [318]), (0, 3, []), (105, 1, [320]),
  (0, 3, []), (105, 1, [322]), (0, 10, []), (107, 17, [7, 0, 0, 324, 326, 328, 330, 332, 334, 336, 338, 0, 340, 342, 344, 346, 348]), (105, 1, [325]), (0, 40, []),
  (105, 1, [327]), (0, 40, []), (105, 1, [329]), (0, 40, []), (105, 1, [331]), (0, 40, []),
  (105, 1, [333]), (0, 40, []), (105, 1, [335]), (0, 40, []), (105, 1, [337]), (0, 40, []),
  (105, 1, [339]), (0, 40, []), (105, 1, [341]), (0, 8, []), (105, 1, [343]), (0, 3, []),
  (105, 1, [345]), (0, 3, []), (105, 1, [347]), (0, 3, []), (105, 1, [349]), (0, 10, []),
  (103, 2, [351, 353]), (105, 1, [352]), (0, 1053, []), (105, 1, [354]), (0, 1053, []), (110, 24, [0, 356, 0, 0, 0, 0, 0, 0, 357, 358, 359, 0, 0, 360, 361, 0, 362, 0, 0, 363, 364, 0, 0, 0]),
  (0, 900, []), (0, 472, []), (0, 472, []), (0, 472, []), (0, 24, []), (0, 3776, []),
  (0, 472, []), (0, 2025, []), (0, 2025, []), (1, 1, [])]
theorem Hc_len : Hc.length = 364 := by decide +kernel
theorem Hc_lt {r : Nat} {t : Nat × Nat × List Nat} (h : Hc[r]? = some t) : r < 364 := by
  have h1 := (List.getElem?_eq_some_iff.mp h).1
  rw [Hc_len] at h1
  exact h1
/-- methods that make nothing and catch nothing -/
def zsf (y : Nat) : Bool := Nat.blt y 340 && !([0, 8, 13, 18, 25, 44, 50, 60, 87, 98, 174].contains y)
def zsfo (op : zOp) : Bool := match op.1 with
  | .new _ => decide (50 ≤ op.2.2.1)
  | .newarray _ => false
  | .anewarray _ => false
  | .lastore => false
  | .aastore => false
  | .putfield _ => decide (op.2.2.2.2.1 % 10 ≠ 3)
  | .invokevirtual _ => zsf op.2.2.1
  | .invokespecial _ => decide (op.2.2.1 = 9998) || zsf op.2.2.1
  | .invokestatic _ => decide (9000 ≤ op.2.2.1) || zsf op.2.2.1
  | _ => true
def zsfm (y : Nat) : Bool := (zRe (zR y)).isEmpty && (zT y).all (fun c => c.all (fun o => match o with | none => true | some op => zsfo op))
set_option maxRecDepth 100000 in
theorem zsf_all : ∀ y, y < 340 → zsf y = true → zsfm y = true := by decide +kernel
theorem zsf_lt {y : Nat} (h : zsf y = true) : y < 340 := by
  unfold zsf at h
  rw [Bool.and_eq_true] at h
  exact Nat.le_of_ble_eq_true h.1
theorem zsf_he {y : Nat} (h : zsf y = true) : zRe (zR y) = [] := by
  have h1 := zsf_all y (zsf_lt h) h
  unfold zsfm at h1
  rw [Bool.and_eq_true] at h1
  exact List.isEmpty_iff.mp h1.1
theorem zsf_op {y pc : Nat} {op : zOp} (h : zsf y = true) (hf : zfet (zT y) pc = some op) : zsfo op = true := by
  have h1 := zsf_all y (zsf_lt h) h
  unfold zsfm at h1
  rw [Bool.and_eq_true] at h1
  unfold zfet at hf
  split at hf
  · rename_i c hc
    split at hf
    · rename_i op1 ho
      cases hf
      have h2 := List.all_eq_true.mp h1.2 c (List.mem_of_getElem? hc)
      exact List.all_eq_true.mp h2 (some op) (List.mem_of_getElem? ho)
    · cases hf
  · cases hf
set_option maxHeartbeats 2000000 in
theorem zstep_safe {op : zOp} {pc : Nat} {L S : List Value} {H : zSh} {I : zI} {W : (Nat → Nat → Int64) × Nat × (Nat → Int32)} {c : zCf} (ho : zsfo op = true) (h : zstep op pc L S (H, I, W) = some c) : ∃ I', c.2.2.2 = (H, I', W) := by
  obtain ⟨i, len, a, b1, c1, w⟩ := op
  cases i <;> simp only [zstep] at h <;> try (cases h; done)
  all_goals (try (cases h; exact ⟨_, rfl⟩))
  all_goals (repeat' split at h)
  all_goals (try (cases h; done))
  all_goals (try (cases h; exact ⟨_, rfl⟩))
  all_goals (try (rename_i cd off S1 x S0; cases cd <;> simp only [zifc] at h <;> split at h <;> cases h <;> exact ⟨_, rfl⟩))
  all_goals (try (rename_i cd off S1 y x S0; cases cd <;> simp only [zifc] at h <;> split at h <;> cases h <;> exact ⟨_, rfl⟩))
  all_goals (try (rename_i hv; cases h; obtain ⟨t, ht, -, -, rfl⟩ := ziast_spec hv; exact ⟨_, rfl⟩))
  all_goals (try (simp [zsfo] at ho; done))
  all_goals (try (rename_i hv; cases h; obtain ⟨t, u, -, -, -, -, -, -, -, -, -, rfl⟩ := zcopy_spec hv; exact ⟨_, rfl⟩))
  all_goals (try (rename_i hv; cases h; rcases zput_spec hv with ⟨t, cc, -, -, -, ⟨x, -, -, -, rfl⟩ | ⟨a9, e1, e2, e3, e4⟩⟩ <;> first | exact ⟨_, rfl⟩ | (exfalso; simp [zsfo] at ho; omega)))
abbrev zW : Type := (Nat → Nat → Int64) × Nat × (Nat → Int32)
def zcst : zO → Nat
  | .inl _ => 0
  | .inr _ => 6
/-- a safe method keeps the shapes; it costs nothing, or its exception -/
theorem zsafe : ∀ (n d y pc : Nat) (L S : List Value) (H : zSh) (I : zI) (W : zW) (o : zO) (M' : zM) (u : Nat), zsf y = true → zx zR zT n d y pc L S (H, I, W) = some (o, M', u) → (∃ I', M' = (H, I', W)) ∧ u = zcst o := by
  intro n
  induction n with
  | zero => intro d y pc L S H I W o M' u hy h; unfold zx at h; cases h
  | succ n ih =>
    intro d y pc L S H I W o M' u hy h
    rw [zx_succ] at h
    cases hf : zfet (zT y) pc with
    | none => simp only [hf] at h; cases h
    | some op =>
      have ho := zsf_op hy hf
      simp only [hf] at h
      cases hs : zstep op pc L S (H, I, W) with
      | some c =>
        simp only [hs] at h
        obtain ⟨I1, e⟩ := zstep_safe ho hs
        rw [e] at h
        exact ih _ _ _ _ _ _ _ _ _ _ _ hy h
      | none =>
        simp only [hs] at h
        have hcall : ∀ a b : Nat, zsf a = true → zinv zR (zx zR zT n) d y pc L S (H, I, W) a b = some (o, M', u) → (∃ I', M' = (H, I', W)) ∧ u = zcst o := by
          intro a b ha h
          unfold zinv at h
          cases hq : (if a < 9000 then zarg (H, I, W) (zR a) b S else none) with
          | none => simp only [hq] at h; cases h
          | some q =>
            obtain ⟨as, S'⟩ := q
            simp only [hq] at h
            cases d with
            | zero => cases h
            | succ d =>
              simp only at h
              cases hx : zx zR zT n d a 0 (as ++ List.replicate (zRl (zR a) - as.length) (.float 0)) [] (H, I, W) with
              | none => simp only [hx] at h; cases h
              | some q =>
                obtain ⟨o1, M1, u1⟩ := q
                obtain ⟨⟨I1, e1⟩, e2⟩ := ih _ _ _ _ _ _ _ _ _ _ _ ha hx
                subst e1
                simp only [hx] at h
                cases o1 with
                | inl v =>
                  simp only at h
                  cases hz : zx zR zT n (d + 1) y (pc + 3) L (v.toList ++ S') (H, I1, W) with
                  | none => rw [hz] at h; cases h
                  | some q =>
                    obtain ⟨o2, M2, u2⟩ := q
                    have h3 := ih _ _ _ _ _ _ _ _ _ _ _ hy hz
                    rw [hz, e2] at h
                    simp only [zcost, zcst, Nat.zero_add, Option.some.injEq, Prod.mk.injEq] at h
                    obtain ⟨rfl, rfl, rfl⟩ := h
                    exact h3
                | inr E =>
                  rw [zsf_he hy] at h
                  simp only [zhnd, Option.some.injEq, Prod.mk.injEq] at h
                  obtain ⟨rfl, rfl, rfl⟩ := h
                  exact ⟨⟨_, rfl⟩, e2⟩
        obtain ⟨i, len, a, b, c, w⟩ := op
        unfold zfin at h
        cases i <;> simp only at h <;> try (cases h; done)
        case return_ =>
          split at h
          · split at h
            · cases h; exact ⟨⟨_, rfl⟩, rfl⟩
            · cases h
          · cases h
        case ireturn =>
          split at h
          · split at h
            · cases h; exact ⟨⟨_, rfl⟩, rfl⟩
            · cases h
          · cases h
        case areturn =>
          split at h
          · split at h
            · cases h; exact ⟨⟨_, rfl⟩, rfl⟩
            · cases h
          · split at h
            · cases h; exact ⟨⟨_, rfl⟩, rfl⟩
            · cases h
          · cases h
        case new =>
          simp only [zsfo, decide_eq_true_eq] at ho
          rw [if_neg (by omega)] at h
          split at h
          · cases h; exact ⟨⟨_, rfl⟩, rfl⟩
          · cases h
        case newarray => simp [zsfo] at ho
        case anewarray => simp [zsfo] at ho
        case invokevirtual => exact hcall _ _ (by simpa [zsfo] using ho) h
        case invokespecial =>
          simp only [zsfo, Bool.or_eq_true, decide_eq_true_eq] at ho
          rcases ho with ho | ho
          · exfalso
            subst ho
            simp [zinv] at h
          · exact hcall _ _ ho h
        case invokestatic =>
          simp only [zsfo, Bool.or_eq_true, decide_eq_true_eq] at ho
          rcases ho with ho | ho
          · exfalso
            unfold zinv at h
            rw [if_neg (by omega)] at h
            cases h
          · exact hcall _ _ ho h
