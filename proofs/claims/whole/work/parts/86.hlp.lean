/-! ===== the law's runs ===== -/
section
variable {N : Nat} {xs : Nat → Int32} {y pc : Nat} {L S : List Value} {J J1 J' : zJ} {lg lg1 lg' : Nat → Nat → Int64} {r : Int32} {u : Nat} {op : zOp} {l a b c w : Nat}
/-- from here the method ends with r, the memory J', the long row lg', and u of room -/
def hx (N : Nat) (xs : Nat → Int32) (y pc : Nat) (L S : List Value) (J : zJ) (lg : Nat → Nat → Int64) (r : Int32) (J' : zJ) (lg' : Nat → Nat → Int64) (u : Nat) : Prop := ∃ n d, zx zR zT n d y pc L S (Hc, jm J, (lg, N, xs)) = some (.inl (some (.int r)), (Hc, jm J', (lg', N, xs)), u)
theorem hx_go (k : Nat) {pc' : Nat} {L' S' : List Value} (h : zgo k y pc L S (Hc, jm J, (lg, N, xs)) = some (pc', L', S', (Hc, jm J, (lg, N, xs)))) (g : hx N xs y pc' L' S' J lg r J' lg' u) : hx N xs y pc L S J lg r J' lg' u := by
  obtain ⟨n, d, e⟩ := g
  exact ⟨n + k, d, (zx_go k _ _ _ _ _ h n d).trans e⟩
theorem hx_st {pc' : Nat} {L' S' : List Value} (hf : zfet (zT y) pc = some op) (hs : zstep op pc L S (Hc, jm J, (lg, N, xs)) = some (pc', L', S', (Hc, jm J, (lg1, N, xs)))) (g : hx N xs y pc' L' S' J lg1 r J' lg' u) : hx N xs y pc L S J lg r J' lg' u := by
  obtain ⟨n, d, e⟩ := g
  exact ⟨n + 1, d, (zx_st hf hs n d).trans e⟩
theorem hx_end (hf : zfet (zT y) pc = some (.ireturn, l, a, b, c, w)) (hr : zRr (zR y) = some .int) : hx N xs y pc L [.int r] J lg r J lg 0 :=
  ⟨1, 0, by rw [zx_fin hf rfl]; simp only [zfin, zrok, hr, if_true]⟩
theorem hx_endZ (hf : zfet (zT y) pc = some (.ireturn, l, a, b, c, w)) (hr : zRr (zR y) = some .boolean) (h1 : r = 0 ∨ r = 1) : hx N xs y pc L [.int r] J lg r J lg 0 :=
  ⟨1, 0, by rw [zx_fin hf rfl]; simp only [zfin, zrok, hr, h1, decide_true, if_true]⟩
theorem zlast_363 {x : Int64} : zlast (Hc, jm J, (lg, N, xs)) 363 (Int32.ofInt 0) x = some (Hc, jm J, (zset lg 363 0 x, N, xs)) := by
  unfold zlast
  simp only [h_363]
  rw [if_pos trivial, if_pos (by decide)]
  rfl
theorem zlald_363 : zlald (Hc, jm J, (lg, N, xs)) 363 (Int32.ofInt 0) = some (.long (lg 363 0)) := by
  unfold zlald
  simp only [h_363]
  rw [if_pos trivial, if_pos (by decide)]
  rfl
theorem hx_ls {x : Int64} (hf : zfet (zT y) pc = some (.lastore, l, a, b, c, w)) (g : hx N xs y (pc + 1) L S J (zset lg 363 0 x) r J' lg' u) : hx N xs y pc L (.long x :: .int (Int32.ofInt 0) :: .ref 363 :: S) J lg r J' lg' u :=
  hx_st hf (by simp only [zstep, zlast_363]) g
theorem hx_ll (hf : zfet (zT y) pc = some (.laload, l, a, b, c, w)) (g : hx N xs y (pc + 1) L (.long (lg 363 0) :: S) J lg r J' lg' u) : hx N xs y pc L (.int (Int32.ofInt 0) :: .ref 363 :: S) J lg r J' lg' u :=
  hx_st hf (by simp only [zstep, zlald_363]) g
/-- a whole run of a safe method -/
theorem run_of {W : zW} {L0 : List Value} {o : zO} (hw : ∀ Q : zO → zI → Prop, wz W a 0 L0 [] (jm J) Q = Q o (jm J1)) : ∃ n d, zx zR zT n d a 0 L0 [] (Hc, jm J, W) = some (o, (Hc, jm J1, W), zcst o) := by
  have h : wz W a 0 L0 [] (jm J) (fun o' I' => o' = o ∧ I' = jm J1) := by
    rw [hw]
    exact ⟨rfl, rfl⟩
  obtain ⟨n, d, o', I', h1, rfl, rfl⟩ := h
  exact ⟨n, d, h1⟩
theorem run_W {W W2 : zW} {L0 : List Value} {o : zO} (hy : zsf a = true) (hL : cln L0) (hw : ∀ Q : zO → zI → Prop, wz W a 0 L0 [] (jm J) Q = Q o (jm J1)) : ∃ n d, zx zR zT n d a 0 L0 [] (Hc, jm J, W2) = some (o, (Hc, jm J1, W2), zcst o) := by
  obtain ⟨n, d, h⟩ := run_of hw
  exact ⟨n, d, (zx_W2 n d _ _ _ _ _ _ _ _ hy hL cln_n h).1⟩
/-- a call that answers; one that throws -/
theorem hx_ok {v : Option Value} {as S' L0 : List Value} {k : Nat} (hf : zfet (zT y) pc = some op) (hs : zstep op pc L S (Hc, jm J, (lg, N, xs)) = none) (hz : ∀ X d, zfin zR X d y pc L S (Hc, jm J, (lg, N, xs)) op = zinv zR X d y pc L S (Hc, jm J, (lg, N, xs)) a b) (ha : a < 9000) (harg : zarg (Hc, jm J, (lg, N, xs)) (zR a) b S = some (as, S')) (hL : as ++ List.replicate (zRl (zR a) - as.length) (.float 0) = L0)
    (hw : ∃ n d, zx zR zT n d a 0 L0 [] (Hc, jm J, (lg, N, xs)) = some (.inl v, (Hc, jm J1, (lg1, N, xs)), k)) (g : hx N xs y (pc + 3) L (v.toList ++ S') J1 lg1 r J' lg' u) : hx N xs y pc L S J lg r J' lg' (k + u) := by
  obtain ⟨n1, d1, h1⟩ := hw
  obtain ⟨n2, d2, h2⟩ := g
  refine ⟨n1 + n2 + 1, d1 + d2 + 1, ?_⟩
  rw [zx_fin hf hs, hz]
  unfold zinv
  rw [if_pos ha]
  simp only [harg, hL]
  rw [zx_mono _ _ _ _ _ _ _ _ h1 (n1 + n2) (d1 + d2) (by omega) (by omega)]
  simp only
  rw [zx_mono _ _ _ _ _ _ _ _ h2 (n1 + n2) (d1 + d2 + 1) (by omega) (by omega)]
  rfl
theorem hx_ex {E h : Nat} {as S' L0 : List Value} {k : Nat} (hf : zfet (zT y) pc = some op) (hs : zstep op pc L S (Hc, jm J, (lg, N, xs)) = none) (hz : ∀ X d, zfin zR X d y pc L S (Hc, jm J, (lg, N, xs)) op = zinv zR X d y pc L S (Hc, jm J, (lg, N, xs)) a b) (ha : a < 9000) (harg : zarg (Hc, jm J, (lg, N, xs)) (zR a) b S = some (as, S')) (hL : as ++ List.replicate (zRl (zR a) - as.length) (.float 0) = L0)
    (hw : ∃ n d, zx zR zT n d a 0 L0 [] (Hc, jm J, (lg, N, xs)) = some (.inr E, (Hc, jm J1, (lg1, N, xs)), k)) (hh : zhnd (zRe (zR y)) pc E = some h) (g : hx N xs y h L [.float 1] J1 lg1 r J' lg' u) : hx N xs y pc L S J lg r J' lg' (k + u) := by
  obtain ⟨n1, d1, h1⟩ := hw
  obtain ⟨n2, d2, h2⟩ := g
  refine ⟨n1 + n2 + 1, d1 + d2 + 1, ?_⟩
  rw [zx_fin hf hs, hz]
  unfold zinv
  rw [if_pos ha]
  simp only [harg, hL]
  rw [zx_mono _ _ _ _ _ _ _ _ h1 (n1 + n2) (d1 + d2) (by omega) (by omega)]
  simp only [hh]
  rw [zx_mono _ _ _ _ _ _ _ _ h2 (n1 + n2) (d1 + d2 + 1) (by omega) (by omega)]
  rfl
/-- the script -/
theorem hx_sc {i : Nat} (hf : zfet (zT y) pc = some (.iaload, l, a, b, c, w)) (hi : i < N) (hN : N ≤ 3072) (g : hx N xs y (pc + 1) L (.int (xs i) :: S) J lg r J' lg' u) : hx N xs y pc L (.int (jI (i : Int)) :: .ref 1000000 :: S) J lg r J' lg' u := by
  refine hx_st hf ?_ g
  simp only [zstep, ziald]
  rw [if_pos trivial, if_pos (jI_in (by omega) (by omega) (by omega)), jI_cl (by omega) (by omega), Int.toNat_natCast]
theorem hx_scj {i : Nat} (j : Nat) {k : Int} (hk : k = (j : Int)) (hf : zfet (zT y) pc = some (.iaload, l, a, b, c, w)) (hi : i + j < N) (hN : N ≤ 3072) (g : hx N xs y (pc + 1) L (.int (xs (i + j)) :: S) J lg r J' lg' u) : hx N xs y pc L (.int (jI (i : Int) + Int32.ofInt k) :: .ref 1000000 :: S) J lg r J' lg' u := by
  have e : jI (i : Int) + Int32.ofInt k = jI ((i + j : Nat) : Int) := by
    rw [hk]
    exact jI_add _ _
  rw [e]
  exact hx_sc hf hi hN g
theorem hx_ic {x : Int32} {off : Int} (hf : zfet (zT y) pc = some (.if_icmp .eq off, l, a, b, c, w)) (g : hx N xs y a L S J lg r J' lg' u) : hx N xs y pc L (.int x :: .int x :: S) J lg r J' lg' u := by
  refine hx_st hf ?_ g
  simp only [zstep, zifc, if_true]
theorem hx_n0 {x : Int32} {off : Int} (hf : zfet (zT y) pc = some (.ifCond .ne off, l, a, b, c, w)) (hx0 : x ≠ 0) (g : hx N xs y a L S J lg r J' lg' u) : hx N xs y pc L (.int x :: S) J lg r J' lg' u := by
  refine hx_st hf ?_ g
  simp only [zstep, zifc]
  rw [if_neg hx0]
theorem hx_n1 {off : Int} (hf : zfet (zT y) pc = some (.ifCond .ne off, l, a, b, c, w)) (g : hx N xs y (pc + 3) L S J lg r J' lg' u) : hx N xs y pc L (.int 0 :: S) J lg r J' lg' u := by
  refine hx_st hf ?_ g
  simp only [zstep, zifc, if_true]
theorem hx_e0 {x : Int32} {off : Int} (hf : zfet (zT y) pc = some (.ifCond .eq off, l, a, b, c, w)) (hx0 : x = 0) (g : hx N xs y a L S J lg r J' lg' u) : hx N xs y pc L (.int x :: S) J lg r J' lg' u := by
  refine hx_st hf ?_ g
  simp only [zstep, zifc]
  rw [if_pos hx0]
theorem hx_e1 {x : Int32} {off : Int} (hf : zfet (zT y) pc = some (.ifCond .eq off, l, a, b, c, w)) (hx0 : x ≠ 0) (g : hx N xs y (pc + 3) L S J lg r J' lg' u) : hx N xs y pc L (.int x :: S) J lg r J' lg' u := by
  refine hx_st hf ?_ g
  simp only [zstep, zifc]
  rw [if_neg hx0]
theorem lg_cmp_s (x : Int64) : lg_cmp x x = 0 := by
  unfold lg_cmp
  rw [if_neg (by simp [Int64.lt_iff_toInt_lt]), if_pos rfl]
/-- the comparing of two longs that are the same -/
theorem hx_lc {x : Int64} {off : Int} {l2 a2 b2' c2 w2 : Nat} (hf : zfet (zT y) pc = some (.lcmp, l, a, b, c, w)) (hf2 : zfet (zT y) (pc + 1) = some (.ifCond .eq off, l2, a2, b2', c2, w2)) (g : hx N xs y a2 L S J lg r J' lg' u) : hx N xs y pc L (.long x :: .long x :: S) J lg r J' lg' u := by
  refine hx_st (pc' := pc + 1) (L' := L) (S' := .int (lg_cmp x x) :: S) (lg1 := lg) hf rfl ?_
  exact hx_e0 hf2 (lg_cmp_s x) g
end
/-! ===== the law's helpers ===== -/
section
variable {N : Nat} {xs : Nat → Int32} {J J1 : zJ} {lg : Nat → Nat → Int64} {o : zO} {th v : Int}
theorem zset363 {lg : Nat → Nat → Int64} {x : Int64} : zset lg 363 0 x 363 0 = x := by
  unfold zset
  rw [if_pos rfl, if_pos rfl]
theorem hp_340 {z0 z1 z2 z3 z4 : Int32} (hw : ∀ Q : zO → zI → Prop, wz (lg, N, xs) 99 0 [.ref 0, .int z0, .int z1, .int z2, .int z3, .int z4, .float 0] [] (jm J) Q = Q o (jm J1)) (mt : mtc [2] o th v) : ∃ lg' u, hx N xs 340 0 [.ref 0, .int z0, .int z1, .int z2, .int z3, .int z4, .ref 363, .float 0] [] J lg (jI th) J1 lg' u ∧ u ≤ 6 ∧ (th = 0 → lg' 363 0 = (jI v).toInt64) := by
  have hr := run_of hw
  rcases mt with ⟨rfl, rfl⟩ | ⟨i, E, hi, rfl, rfl⟩
  · have g0 : ∀ {u : Nat} {lg' : Nat → Nat → Int64}, hx N xs 340 14 [.ref 0, .int z0, .int z1, .int z2, .int z3, .int z4, .ref 363, .float 0] [.int (jI v), .int (Int32.ofInt 0), .ref 363] J1 lg (jI 0) J1 lg' u → hx N xs 340 0 [.ref 0, .int z0, .int z1, .int z2, .int z3, .int z4, .ref 363, .float 0] [] J lg (jI 0) J1 lg' (0 + u) := fun g => by
      refine hx_go 8 (pc' := 11) (L' := [.ref 0, .int z0, .int z1, .int z2, .int z3, .int z4, .ref 363, .float 0]) (S' := [.int z4, .int z3, .int z2, .int z1, .int z0, .ref 0, .int (Int32.ofInt 0), .ref 363]) rfl ?_
      exact hx_ok (a := 99) (b := 5) (as := [.ref 0, .int z0, .int z1, .int z2, .int z3, .int z4]) (S' := [.int (Int32.ofInt 0), .ref 363]) rfl rfl (fun _ _ => rfl) (by decide) (zargI_ok rfl (zrecv_of (ci := 9) (by decide) h_0)) rfl hr g
    refine ⟨zset lg 363 0 (jI v).toInt64, 0 + 0, g0 ?_, by decide, fun _ => zset363⟩
    refine hx_go 1 (pc' := 15) (L' := [.ref 0, .int z0, .int z1, .int z2, .int z3, .int z4, .ref 363, .float 0]) (S' := [.long (jI v).toInt64, .int (Int32.ofInt 0), .ref 363]) rfl ?_
    refine hx_ls rfl ?_
    refine hx_go 2 (pc' := 24) (L' := [.ref 0, .int z0, .int z1, .int z2, .int z3, .int z4, .ref 363, .float 0]) (S' := [.int (Int32.ofInt 0)]) rfl ?_
    exact hx_end rfl rfl
  · match i, hi with
    | 0, hi =>
      have hE : 2 = E := Option.some.inj hi
      subst hE
      refine ⟨lg, 6 + 0, ?_, by decide, fun h9 => absurd h9 (by decide)⟩
      refine hx_go 8 (pc' := 11) (L' := [.ref 0, .int z0, .int z1, .int z2, .int z3, .int z4, .ref 363, .float 0]) (S' := [.int z4, .int z3, .int z2, .int z1, .int z0, .ref 0, .int (Int32.ofInt 0), .ref 363]) rfl ?_
      refine hx_ex (a := 99) (b := 5) (h := 19) (as := [.ref 0, .int z0, .int z1, .int z2, .int z3, .int z4]) (S' := [.int (Int32.ofInt 0), .ref 363]) rfl rfl (fun _ _ => rfl) (by decide) (zargI_ok rfl (zrecv_of (ci := 9) (by decide) h_0)) rfl hr rfl ?_
      refine hx_go 2 (pc' := 22) (L' := [.ref 0, .int z0, .int z1, .int z2, .int z3, .int z4, .ref 363, .float 1]) (S' := [.int (Int32.ofInt 1)]) rfl ?_
      exact hx_end rfl rfl
    | n + 1, hi => exact absurd hi (by simp)
theorem hp_341 {z0 : Int32} (hw : ∀ Q : zO → zI → Prop, wz (lg, N, xs) 100 0 [.ref 0, .int z0] [] (jm J) Q = Q o (jm J1)) (mt : mtc [1] o th v) : ∃ lg' u, hx N xs 341 0 [.ref 0, .int z0, .ref 363, .float 0] [] J lg (jI th) J1 lg' u ∧ u ≤ 6 ∧ (th = 0 → lg' 363 0 = (jI v).toInt64) := by
  have hr := run_of hw
  rcases mt with ⟨rfl, rfl⟩ | ⟨i, E, hi, rfl, rfl⟩
  · have g0 : ∀ {u : Nat} {lg' : Nat → Nat → Int64}, hx N xs 341 7 [.ref 0, .int z0, .ref 363, .float 0] [.int (jI v), .int (Int32.ofInt 0), .ref 363] J1 lg (jI 0) J1 lg' u → hx N xs 341 0 [.ref 0, .int z0, .ref 363, .float 0] [] J lg (jI 0) J1 lg' (0 + u) := fun g => by
      refine hx_go 4 (pc' := 4) (L' := [.ref 0, .int z0, .ref 363, .float 0]) (S' := [.int z0, .ref 0, .int (Int32.ofInt 0), .ref 363]) rfl ?_
      exact hx_ok (a := 100) (b := 1) (as := [.ref 0, .int z0]) (S' := [.int (Int32.ofInt 0), .ref 363]) rfl rfl (fun _ _ => rfl) (by decide) (zargI_ok rfl (zrecv_of (ci := 9) (by decide) h_0)) rfl hr g
    refine ⟨zset lg 363 0 (jI v).toInt64, 0 + 0, g0 ?_, by decide, fun _ => zset363⟩
    refine hx_go 1 (pc' := 8) (L' := [.ref 0, .int z0, .ref 363, .float 0]) (S' := [.long (jI v).toInt64, .int (Int32.ofInt 0), .ref 363]) rfl ?_
    refine hx_ls rfl ?_
    refine hx_go 2 (pc' := 16) (L' := [.ref 0, .int z0, .ref 363, .float 0]) (S' := [.int (Int32.ofInt 0)]) rfl ?_
    exact hx_end rfl rfl
  · match i, hi with
    | 0, hi =>
      have hE : 1 = E := Option.some.inj hi
      subst hE
      refine ⟨lg, 6 + 0, ?_, by decide, fun h9 => absurd h9 (by decide)⟩
      refine hx_go 4 (pc' := 4) (L' := [.ref 0, .int z0, .ref 363, .float 0]) (S' := [.int z0, .ref 0, .int (Int32.ofInt 0), .ref 363]) rfl ?_
      refine hx_ex (a := 100) (b := 1) (h := 12) (as := [.ref 0, .int z0]) (S' := [.int (Int32.ofInt 0), .ref 363]) rfl rfl (fun _ _ => rfl) (by decide) (zargI_ok rfl (zrecv_of (ci := 9) (by decide) h_0)) rfl hr rfl ?_
      refine hx_go 2 (pc' := 14) (L' := [.ref 0, .int z0, .ref 363, .float 1]) (S' := [.int (Int32.ofInt 1)]) rfl ?_
      exact hx_end rfl rfl
    | n + 1, hi => exact absurd hi (by simp)
theorem hp_342 (hw : ∀ Q : zO → zI → Prop, wz (lg, N, xs) 102 0 [.ref 0] [] (jm J) Q = Q o (jm J1)) (mt : mtc [1] o th v) : ∃ lg' u, hx N xs 342 0 [.ref 0, .ref 363, .float 0] [] J lg (jI th) J1 lg' u ∧ u ≤ 6 ∧ (th = 0 → lg' 363 0 = (jI v).toInt64) := by
  have hr := run_of hw
  rcases mt with ⟨rfl, rfl⟩ | ⟨i, E, hi, rfl, rfl⟩
  · have g0 : ∀ {u : Nat} {lg' : Nat → Nat → Int64}, hx N xs 342 6 [.ref 0, .ref 363, .float 0] [.int (jI v), .int (Int32.ofInt 0), .ref 363] J1 lg (jI 0) J1 lg' u → hx N xs 342 0 [.ref 0, .ref 363, .float 0] [] J lg (jI 0) J1 lg' (0 + u) := fun g => by
      refine hx_go 3 (pc' := 3) (L' := [.ref 0, .ref 363, .float 0]) (S' := [.ref 0, .int (Int32.ofInt 0), .ref 363]) rfl ?_
      exact hx_ok (a := 102) (b := 0) (as := [.ref 0]) (S' := [.int (Int32.ofInt 0), .ref 363]) rfl rfl (fun _ _ => rfl) (by decide) (zargI_ok rfl (zrecv_of (ci := 9) (by decide) h_0)) rfl hr g
    refine ⟨zset lg 363 0 (jI v).toInt64, 0 + 0, g0 ?_, by decide, fun _ => zset363⟩
    refine hx_go 1 (pc' := 7) (L' := [.ref 0, .ref 363, .float 0]) (S' := [.long (jI v).toInt64, .int (Int32.ofInt 0), .ref 363]) rfl ?_
    refine hx_ls rfl ?_
    refine hx_go 2 (pc' := 15) (L' := [.ref 0, .ref 363, .float 0]) (S' := [.int (Int32.ofInt 0)]) rfl ?_
    exact hx_end rfl rfl
  · match i, hi with
    | 0, hi =>
      have hE : 1 = E := Option.some.inj hi
      subst hE
      refine ⟨lg, 6 + 0, ?_, by decide, fun h9 => absurd h9 (by decide)⟩
      refine hx_go 3 (pc' := 3) (L' := [.ref 0, .ref 363, .float 0]) (S' := [.ref 0, .int (Int32.ofInt 0), .ref 363]) rfl ?_
      refine hx_ex (a := 102) (b := 0) (h := 11) (as := [.ref 0]) (S' := [.int (Int32.ofInt 0), .ref 363]) rfl rfl (fun _ _ => rfl) (by decide) (zargI_ok rfl (zrecv_of (ci := 9) (by decide) h_0)) rfl hr rfl ?_
      refine hx_go 2 (pc' := 13) (L' := [.ref 0, .ref 363, .float 1]) (S' := [.int (Int32.ofInt 1)]) rfl ?_
      exact hx_end rfl rfl
    | n + 1, hi => exact absurd hi (by simp)
theorem hp_343 {z0 : Int32} (hw : ∀ Q : zO → zI → Prop, wz (lg, N, xs) 103 0 [.ref 0, .int z0] [] (jm J) Q = Q o (jm J1)) (mt : mtc [0, 2] o th v) : ∃ lg' u, hx N xs 343 0 [.ref 0, .int z0, .ref 363, .float 0] [] J lg (jI th) J1 lg' u ∧ u ≤ 6 ∧ (th = 0 → lg' 363 0 = (jI v).toInt64) := by
  have hr := run_of hw
  rcases mt with ⟨rfl, rfl⟩ | ⟨i, E, hi, rfl, rfl⟩
  · have g0 : ∀ {u : Nat} {lg' : Nat → Nat → Int64}, hx N xs 343 7 [.ref 0, .int z0, .ref 363, .float 0] [.int (jI v), .int (Int32.ofInt 0), .ref 363] J1 lg (jI 0) J1 lg' u → hx N xs 343 0 [.ref 0, .int z0, .ref 363, .float 0] [] J lg (jI 0) J1 lg' (0 + u) := fun g => by
      refine hx_go 4 (pc' := 4) (L' := [.ref 0, .int z0, .ref 363, .float 0]) (S' := [.int z0, .ref 0, .int (Int32.ofInt 0), .ref 363]) rfl ?_
      exact hx_ok (a := 103) (b := 1) (as := [.ref 0, .int z0]) (S' := [.int (Int32.ofInt 0), .ref 363]) rfl rfl (fun _ _ => rfl) (by decide) (zargI_ok rfl (zrecv_of (ci := 9) (by decide) h_0)) rfl hr g
    refine ⟨zset lg 363 0 (jI v).toInt64, 0 + 0, g0 ?_, by decide, fun _ => zset363⟩
    refine hx_go 1 (pc' := 8) (L' := [.ref 0, .int z0, .ref 363, .float 0]) (S' := [.long (jI v).toInt64, .int (Int32.ofInt 0), .ref 363]) rfl ?_
    refine hx_ls rfl ?_
    refine hx_go 2 (pc' := 19) (L' := [.ref 0, .int z0, .ref 363, .float 0]) (S' := [.int (Int32.ofInt 0)]) rfl ?_
    exact hx_end rfl rfl
  · match i, hi with
    | 0, hi =>
      have hE : 0 = E := Option.some.inj hi
      subst hE
      refine ⟨lg, 6 + 0, ?_, by decide, fun h9 => absurd h9 (by decide)⟩
      refine hx_go 4 (pc' := 4) (L' := [.ref 0, .int z0, .ref 363, .float 0]) (S' := [.int z0, .ref 0, .int (Int32.ofInt 0), .ref 363]) rfl ?_
      refine hx_ex (a := 103) (b := 1) (h := 12) (as := [.ref 0, .int z0]) (S' := [.int (Int32.ofInt 0), .ref 363]) rfl rfl (fun _ _ => rfl) (by decide) (zargI_ok rfl (zrecv_of (ci := 9) (by decide) h_0)) rfl hr rfl ?_
      refine hx_go 2 (pc' := 14) (L' := [.ref 0, .int z0, .ref 363, .float 1]) (S' := [.int (Int32.ofInt 1)]) rfl ?_
      exact hx_end rfl rfl
    | 1, hi =>
      have hE : 2 = E := Option.some.inj hi
      subst hE
      refine ⟨lg, 6 + 0, ?_, by decide, fun h9 => absurd h9 (by decide)⟩
      refine hx_go 4 (pc' := 4) (L' := [.ref 0, .int z0, .ref 363, .float 0]) (S' := [.int z0, .ref 0, .int (Int32.ofInt 0), .ref 363]) rfl ?_
      refine hx_ex (a := 103) (b := 1) (h := 15) (as := [.ref 0, .int z0]) (S' := [.int (Int32.ofInt 0), .ref 363]) rfl rfl (fun _ _ => rfl) (by decide) (zargI_ok rfl (zrecv_of (ci := 9) (by decide) h_0)) rfl hr rfl ?_
      refine hx_go 2 (pc' := 17) (L' := [.ref 0, .int z0, .ref 363, .float 1]) (S' := [.int (Int32.ofInt 2)]) rfl ?_
      exact hx_end rfl rfl
    | n + 2, hi => exact absurd hi (by simp)
theorem hp_344 {z0 z1 z2 z3 : Int32} (hw : ∀ Q : zO → zI → Prop, wz (lg, N, xs) 104 0 [.ref 0, .int z0, .int z1, .int z2, .int z3, .float 0, .float 0] [] (jm J) Q = Q o (jm J1)) (mt : mtc [0, 1, 2] o th v) : ∃ lg' u, hx N xs 344 0 [.ref 0, .int z0, .int z1, .int z2, .int z3, .ref 363, .float 0] [] J lg (jI th) J1 lg' u ∧ u ≤ 6 ∧ (th = 0 → lg' 363 0 = (jI v).toInt64) := by
  have hr := run_of hw
  rcases mt with ⟨rfl, rfl⟩ | ⟨i, E, hi, rfl, rfl⟩
  · have g0 : ∀ {u : Nat} {lg' : Nat → Nat → Int64}, hx N xs 344 12 [.ref 0, .int z0, .int z1, .int z2, .int z3, .ref 363, .float 0] [.int (jI v), .int (Int32.ofInt 0), .ref 363] J1 lg (jI 0) J1 lg' u → hx N xs 344 0 [.ref 0, .int z0, .int z1, .int z2, .int z3, .ref 363, .float 0] [] J lg (jI 0) J1 lg' (0 + u) := fun g => by
      refine hx_go 7 (pc' := 9) (L' := [.ref 0, .int z0, .int z1, .int z2, .int z3, .ref 363, .float 0]) (S' := [.int z3, .int z2, .int z1, .int z0, .ref 0, .int (Int32.ofInt 0), .ref 363]) rfl ?_
      exact hx_ok (a := 104) (b := 4) (as := [.ref 0, .int z0, .int z1, .int z2, .int z3]) (S' := [.int (Int32.ofInt 0), .ref 363]) rfl rfl (fun _ _ => rfl) (by decide) (zargI_ok rfl (zrecv_of (ci := 9) (by decide) h_0)) rfl hr g
    refine ⟨zset lg 363 0 (jI v).toInt64, 0 + 0, g0 ?_, by decide, fun _ => zset363⟩
    refine hx_go 1 (pc' := 13) (L' := [.ref 0, .int z0, .int z1, .int z2, .int z3, .ref 363, .float 0]) (S' := [.long (jI v).toInt64, .int (Int32.ofInt 0), .ref 363]) rfl ?_
    refine hx_ls rfl ?_
    refine hx_go 2 (pc' := 30) (L' := [.ref 0, .int z0, .int z1, .int z2, .int z3, .ref 363, .float 0]) (S' := [.int (Int32.ofInt 0)]) rfl ?_
    exact hx_end rfl rfl
  · match i, hi with
    | 0, hi =>
      have hE : 0 = E := Option.some.inj hi
      subst hE
      refine ⟨lg, 6 + 0, ?_, by decide, fun h9 => absurd h9 (by decide)⟩
      refine hx_go 7 (pc' := 9) (L' := [.ref 0, .int z0, .int z1, .int z2, .int z3, .ref 363, .float 0]) (S' := [.int z3, .int z2, .int z1, .int z0, .ref 0, .int (Int32.ofInt 0), .ref 363]) rfl ?_
      refine hx_ex (a := 104) (b := 4) (h := 17) (as := [.ref 0, .int z0, .int z1, .int z2, .int z3]) (S' := [.int (Int32.ofInt 0), .ref 363]) rfl rfl (fun _ _ => rfl) (by decide) (zargI_ok rfl (zrecv_of (ci := 9) (by decide) h_0)) rfl hr rfl ?_
      refine hx_go 2 (pc' := 20) (L' := [.ref 0, .int z0, .int z1, .int z2, .int z3, .ref 363, .float 1]) (S' := [.int (Int32.ofInt 1)]) rfl ?_
      exact hx_end rfl rfl
    | 1, hi =>
      have hE : 1 = E := Option.some.inj hi
      subst hE
      refine ⟨lg, 6 + 0, ?_, by decide, fun h9 => absurd h9 (by decide)⟩
      refine hx_go 7 (pc' := 9) (L' := [.ref 0, .int z0, .int z1, .int z2, .int z3, .ref 363, .float 0]) (S' := [.int z3, .int z2, .int z1, .int z0, .ref 0, .int (Int32.ofInt 0), .ref 363]) rfl ?_
      refine hx_ex (a := 104) (b := 4) (h := 21) (as := [.ref 0, .int z0, .int z1, .int z2, .int z3]) (S' := [.int (Int32.ofInt 0), .ref 363]) rfl rfl (fun _ _ => rfl) (by decide) (zargI_ok rfl (zrecv_of (ci := 9) (by decide) h_0)) rfl hr rfl ?_
      refine hx_go 2 (pc' := 24) (L' := [.ref 0, .int z0, .int z1, .int z2, .int z3, .ref 363, .float 1]) (S' := [.int (Int32.ofInt 2)]) rfl ?_
      exact hx_end rfl rfl
    | 2, hi =>
      have hE : 2 = E := Option.some.inj hi
      subst hE
      refine ⟨lg, 6 + 0, ?_, by decide, fun h9 => absurd h9 (by decide)⟩
      refine hx_go 7 (pc' := 9) (L' := [.ref 0, .int z0, .int z1, .int z2, .int z3, .ref 363, .float 0]) (S' := [.int z3, .int z2, .int z1, .int z0, .ref 0, .int (Int32.ofInt 0), .ref 363]) rfl ?_
      refine hx_ex (a := 104) (b := 4) (h := 25) (as := [.ref 0, .int z0, .int z1, .int z2, .int z3]) (S' := [.int (Int32.ofInt 0), .ref 363]) rfl rfl (fun _ _ => rfl) (by decide) (zargI_ok rfl (zrecv_of (ci := 9) (by decide) h_0)) rfl hr rfl ?_
      refine hx_go 2 (pc' := 28) (L' := [.ref 0, .int z0, .int z1, .int z2, .int z3, .ref 363, .float 1]) (S' := [.int (Int32.ofInt 3)]) rfl ?_
      exact hx_end rfl rfl
    | n + 3, hi => exact absurd hi (by simp)
theorem hp_345 {z0 : Int32} (hw : ∀ Q : zO → zI → Prop, wz (lg, N, xs) 105 0 [.ref 0, .int z0, .float 0] [] (jm J) Q = Q o (jm J1)) (mt : mtc [0, 2] o th v) : ∃ lg' u, hx N xs 345 0 [.ref 0, .int z0, .ref 363, .float 0] [] J lg (jI th) J1 lg' u ∧ u ≤ 6 ∧ (th = 0 → lg' 363 0 = (jI v).toInt64) := by
  have hr := run_of hw
  rcases mt with ⟨rfl, rfl⟩ | ⟨i, E, hi, rfl, rfl⟩
  · have g0 : ∀ {u : Nat} {lg' : Nat → Nat → Int64}, hx N xs 345 7 [.ref 0, .int z0, .ref 363, .float 0] [.int (jI v), .int (Int32.ofInt 0), .ref 363] J1 lg (jI 0) J1 lg' u → hx N xs 345 0 [.ref 0, .int z0, .ref 363, .float 0] [] J lg (jI 0) J1 lg' (0 + u) := fun g => by
      refine hx_go 4 (pc' := 4) (L' := [.ref 0, .int z0, .ref 363, .float 0]) (S' := [.int z0, .ref 0, .int (Int32.ofInt 0), .ref 363]) rfl ?_
      exact hx_ok (a := 105) (b := 1) (as := [.ref 0, .int z0]) (S' := [.int (Int32.ofInt 0), .ref 363]) rfl rfl (fun _ _ => rfl) (by decide) (zargI_ok rfl (zrecv_of (ci := 9) (by decide) h_0)) rfl hr g
    refine ⟨zset lg 363 0 (jI v).toInt64, 0 + 0, g0 ?_, by decide, fun _ => zset363⟩
    refine hx_go 1 (pc' := 8) (L' := [.ref 0, .int z0, .ref 363, .float 0]) (S' := [.long (jI v).toInt64, .int (Int32.ofInt 0), .ref 363]) rfl ?_
    refine hx_ls rfl ?_
    refine hx_go 2 (pc' := 19) (L' := [.ref 0, .int z0, .ref 363, .float 0]) (S' := [.int (Int32.ofInt 0)]) rfl ?_
    exact hx_end rfl rfl
  · match i, hi with
    | 0, hi =>
      have hE : 0 = E := Option.some.inj hi
      subst hE
      refine ⟨lg, 6 + 0, ?_, by decide, fun h9 => absurd h9 (by decide)⟩
      refine hx_go 4 (pc' := 4) (L' := [.ref 0, .int z0, .ref 363, .float 0]) (S' := [.int z0, .ref 0, .int (Int32.ofInt 0), .ref 363]) rfl ?_
      refine hx_ex (a := 105) (b := 1) (h := 12) (as := [.ref 0, .int z0]) (S' := [.int (Int32.ofInt 0), .ref 363]) rfl rfl (fun _ _ => rfl) (by decide) (zargI_ok rfl (zrecv_of (ci := 9) (by decide) h_0)) rfl hr rfl ?_
      refine hx_go 2 (pc' := 14) (L' := [.ref 0, .int z0, .ref 363, .float 1]) (S' := [.int (Int32.ofInt 1)]) rfl ?_
      exact hx_end rfl rfl
    | 1, hi =>
      have hE : 2 = E := Option.some.inj hi
      subst hE
      refine ⟨lg, 6 + 0, ?_, by decide, fun h9 => absurd h9 (by decide)⟩
      refine hx_go 4 (pc' := 4) (L' := [.ref 0, .int z0, .ref 363, .float 0]) (S' := [.int z0, .ref 0, .int (Int32.ofInt 0), .ref 363]) rfl ?_
      refine hx_ex (a := 105) (b := 1) (h := 15) (as := [.ref 0, .int z0]) (S' := [.int (Int32.ofInt 0), .ref 363]) rfl rfl (fun _ _ => rfl) (by decide) (zargI_ok rfl (zrecv_of (ci := 9) (by decide) h_0)) rfl hr rfl ?_
      refine hx_go 2 (pc' := 17) (L' := [.ref 0, .int z0, .ref 363, .float 1]) (S' := [.int (Int32.ofInt 2)]) rfl ?_
      exact hx_end rfl rfl
    | n + 2, hi => exact absurd hi (by simp)
theorem hp_346 {z0 z1 z2 : Int32} (hw : ∀ Q : zO → zI → Prop, wz (lg, N, xs) 106 0 [.ref 0, .int z0, .int z1, .int z2, .float 0, .float 0, .float 0] [] (jm J) Q = Q o (jm J1)) (mt : mtc [0, 1, 2] o th v) : ∃ lg' u, hx N xs 346 0 [.ref 0, .int z0, .int z1, .int z2, .ref 363, .float 0] [] J lg (jI th) J1 lg' u ∧ u ≤ 6 ∧ (th = 0 → lg' 363 0 = (jI v).toInt64) := by
  have hr := run_of hw
  rcases mt with ⟨rfl, rfl⟩ | ⟨i, E, hi, rfl, rfl⟩
  · have g0 : ∀ {u : Nat} {lg' : Nat → Nat → Int64}, hx N xs 346 10 [.ref 0, .int z0, .int z1, .int z2, .ref 363, .float 0] [.int (jI v), .int (Int32.ofInt 0), .ref 363] J1 lg (jI 0) J1 lg' u → hx N xs 346 0 [.ref 0, .int z0, .int z1, .int z2, .ref 363, .float 0] [] J lg (jI 0) J1 lg' (0 + u) := fun g => by
      refine hx_go 6 (pc' := 7) (L' := [.ref 0, .int z0, .int z1, .int z2, .ref 363, .float 0]) (S' := [.int z2, .int z1, .int z0, .ref 0, .int (Int32.ofInt 0), .ref 363]) rfl ?_
      exact hx_ok (a := 106) (b := 3) (as := [.ref 0, .int z0, .int z1, .int z2]) (S' := [.int (Int32.ofInt 0), .ref 363]) rfl rfl (fun _ _ => rfl) (by decide) (zargI_ok rfl (zrecv_of (ci := 9) (by decide) h_0)) rfl hr g
    refine ⟨zset lg 363 0 (jI v).toInt64, 0 + 0, g0 ?_, by decide, fun _ => zset363⟩
    refine hx_go 1 (pc' := 11) (L' := [.ref 0, .int z0, .int z1, .int z2, .ref 363, .float 0]) (S' := [.long (jI v).toInt64, .int (Int32.ofInt 0), .ref 363]) rfl ?_
    refine hx_ls rfl ?_
    refine hx_go 2 (pc' := 28) (L' := [.ref 0, .int z0, .int z1, .int z2, .ref 363, .float 0]) (S' := [.int (Int32.ofInt 0)]) rfl ?_
    exact hx_end rfl rfl
  · match i, hi with
    | 0, hi =>
      have hE : 0 = E := Option.some.inj hi
      subst hE
      refine ⟨lg, 6 + 0, ?_, by decide, fun h9 => absurd h9 (by decide)⟩
      refine hx_go 6 (pc' := 7) (L' := [.ref 0, .int z0, .int z1, .int z2, .ref 363, .float 0]) (S' := [.int z2, .int z1, .int z0, .ref 0, .int (Int32.ofInt 0), .ref 363]) rfl ?_
      refine hx_ex (a := 106) (b := 3) (h := 15) (as := [.ref 0, .int z0, .int z1, .int z2]) (S' := [.int (Int32.ofInt 0), .ref 363]) rfl rfl (fun _ _ => rfl) (by decide) (zargI_ok rfl (zrecv_of (ci := 9) (by decide) h_0)) rfl hr rfl ?_
      refine hx_go 2 (pc' := 18) (L' := [.ref 0, .int z0, .int z1, .int z2, .ref 363, .float 1]) (S' := [.int (Int32.ofInt 1)]) rfl ?_
      exact hx_end rfl rfl
    | 1, hi =>
      have hE : 1 = E := Option.some.inj hi
      subst hE
      refine ⟨lg, 6 + 0, ?_, by decide, fun h9 => absurd h9 (by decide)⟩
      refine hx_go 6 (pc' := 7) (L' := [.ref 0, .int z0, .int z1, .int z2, .ref 363, .float 0]) (S' := [.int z2, .int z1, .int z0, .ref 0, .int (Int32.ofInt 0), .ref 363]) rfl ?_
      refine hx_ex (a := 106) (b := 3) (h := 19) (as := [.ref 0, .int z0, .int z1, .int z2]) (S' := [.int (Int32.ofInt 0), .ref 363]) rfl rfl (fun _ _ => rfl) (by decide) (zargI_ok rfl (zrecv_of (ci := 9) (by decide) h_0)) rfl hr rfl ?_
      refine hx_go 2 (pc' := 22) (L' := [.ref 0, .int z0, .int z1, .int z2, .ref 363, .float 1]) (S' := [.int (Int32.ofInt 2)]) rfl ?_
      exact hx_end rfl rfl
    | 2, hi =>
      have hE : 2 = E := Option.some.inj hi
      subst hE
      refine ⟨lg, 6 + 0, ?_, by decide, fun h9 => absurd h9 (by decide)⟩
      refine hx_go 6 (pc' := 7) (L' := [.ref 0, .int z0, .int z1, .int z2, .ref 363, .float 0]) (S' := [.int z2, .int z1, .int z0, .ref 0, .int (Int32.ofInt 0), .ref 363]) rfl ?_
      refine hx_ex (a := 106) (b := 3) (h := 23) (as := [.ref 0, .int z0, .int z1, .int z2]) (S' := [.int (Int32.ofInt 0), .ref 363]) rfl rfl (fun _ _ => rfl) (by decide) (zargI_ok rfl (zrecv_of (ci := 9) (by decide) h_0)) rfl hr rfl ?_
      refine hx_go 2 (pc' := 26) (L' := [.ref 0, .int z0, .int z1, .int z2, .ref 363, .float 1]) (S' := [.int (Int32.ofInt 3)]) rfl ?_
      exact hx_end rfl rfl
    | n + 3, hi => exact absurd hi (by simp)
theorem hp_347 {z0 : Int32} (hw : ∀ Q : zO → zI → Prop, wz (lg, N, xs) 107 0 [.ref 0, .int z0] [] (jm J) Q = Q o (jm J1)) (mt : mtc [0, 2] o th v) : ∃ lg' u, hx N xs 347 0 [.ref 0, .int z0, .ref 363, .float 0] [] J lg (jI th) J1 lg' u ∧ u ≤ 6 ∧ (th = 0 → lg' 363 0 = (jI v).toInt64) := by
  have hr := run_of hw
  rcases mt with ⟨rfl, rfl⟩ | ⟨i, E, hi, rfl, rfl⟩
  · have g0 : ∀ {u : Nat} {lg' : Nat → Nat → Int64}, hx N xs 347 7 [.ref 0, .int z0, .ref 363, .float 0] [.int (jI v), .int (Int32.ofInt 0), .ref 363] J1 lg (jI 0) J1 lg' u → hx N xs 347 0 [.ref 0, .int z0, .ref 363, .float 0] [] J lg (jI 0) J1 lg' (0 + u) := fun g => by
      refine hx_go 4 (pc' := 4) (L' := [.ref 0, .int z0, .ref 363, .float 0]) (S' := [.int z0, .ref 0, .int (Int32.ofInt 0), .ref 363]) rfl ?_
      exact hx_ok (a := 107) (b := 1) (as := [.ref 0, .int z0]) (S' := [.int (Int32.ofInt 0), .ref 363]) rfl rfl (fun _ _ => rfl) (by decide) (zargI_ok rfl (zrecv_of (ci := 9) (by decide) h_0)) rfl hr g
    refine ⟨zset lg 363 0 (jI v).toInt64, 0 + 0, g0 ?_, by decide, fun _ => zset363⟩
    refine hx_go 1 (pc' := 8) (L' := [.ref 0, .int z0, .ref 363, .float 0]) (S' := [.long (jI v).toInt64, .int (Int32.ofInt 0), .ref 363]) rfl ?_
    refine hx_ls rfl ?_
    refine hx_go 2 (pc' := 19) (L' := [.ref 0, .int z0, .ref 363, .float 0]) (S' := [.int (Int32.ofInt 0)]) rfl ?_
    exact hx_end rfl rfl
  · match i, hi with
    | 0, hi =>
      have hE : 0 = E := Option.some.inj hi
      subst hE
      refine ⟨lg, 6 + 0, ?_, by decide, fun h9 => absurd h9 (by decide)⟩
      refine hx_go 4 (pc' := 4) (L' := [.ref 0, .int z0, .ref 363, .float 0]) (S' := [.int z0, .ref 0, .int (Int32.ofInt 0), .ref 363]) rfl ?_
      refine hx_ex (a := 107) (b := 1) (h := 12) (as := [.ref 0, .int z0]) (S' := [.int (Int32.ofInt 0), .ref 363]) rfl rfl (fun _ _ => rfl) (by decide) (zargI_ok rfl (zrecv_of (ci := 9) (by decide) h_0)) rfl hr rfl ?_
      refine hx_go 2 (pc' := 14) (L' := [.ref 0, .int z0, .ref 363, .float 1]) (S' := [.int (Int32.ofInt 1)]) rfl ?_
      exact hx_end rfl rfl
    | 1, hi =>
      have hE : 2 = E := Option.some.inj hi
      subst hE
      refine ⟨lg, 6 + 0, ?_, by decide, fun h9 => absurd h9 (by decide)⟩
      refine hx_go 4 (pc' := 4) (L' := [.ref 0, .int z0, .ref 363, .float 0]) (S' := [.int z0, .ref 0, .int (Int32.ofInt 0), .ref 363]) rfl ?_
      refine hx_ex (a := 107) (b := 1) (h := 15) (as := [.ref 0, .int z0]) (S' := [.int (Int32.ofInt 0), .ref 363]) rfl rfl (fun _ _ => rfl) (by decide) (zargI_ok rfl (zrecv_of (ci := 9) (by decide) h_0)) rfl hr rfl ?_
      refine hx_go 2 (pc' := 17) (L' := [.ref 0, .int z0, .ref 363, .float 1]) (S' := [.int (Int32.ofInt 2)]) rfl ?_
      exact hx_end rfl rfl
    | n + 2, hi => exact absurd hi (by simp)
theorem hp_348 {z0 : Int32} (hw : ∀ Q : zO → zI → Prop, wz (lg, N, xs) 108 0 [.ref 0, .int z0] [] (jm J) Q = Q o (jm J1)) (mt : mtc [0, 2] o th v) : ∃ lg' u, hx N xs 348 0 [.ref 0, .int z0, .ref 363, .float 0] [] J lg (jI th) J1 lg' u ∧ u ≤ 6 ∧ (th = 0 → lg' 363 0 = (jI v).toInt64) := by
  have hr := run_of hw
  rcases mt with ⟨rfl, rfl⟩ | ⟨i, E, hi, rfl, rfl⟩
  · have g0 : ∀ {u : Nat} {lg' : Nat → Nat → Int64}, hx N xs 348 7 [.ref 0, .int z0, .ref 363, .float 0] [.int (jI v), .int (Int32.ofInt 0), .ref 363] J1 lg (jI 0) J1 lg' u → hx N xs 348 0 [.ref 0, .int z0, .ref 363, .float 0] [] J lg (jI 0) J1 lg' (0 + u) := fun g => by
      refine hx_go 4 (pc' := 4) (L' := [.ref 0, .int z0, .ref 363, .float 0]) (S' := [.int z0, .ref 0, .int (Int32.ofInt 0), .ref 363]) rfl ?_
      exact hx_ok (a := 108) (b := 1) (as := [.ref 0, .int z0]) (S' := [.int (Int32.ofInt 0), .ref 363]) rfl rfl (fun _ _ => rfl) (by decide) (zargI_ok rfl (zrecv_of (ci := 9) (by decide) h_0)) rfl hr g
    refine ⟨zset lg 363 0 (jI v).toInt64, 0 + 0, g0 ?_, by decide, fun _ => zset363⟩
    refine hx_go 1 (pc' := 8) (L' := [.ref 0, .int z0, .ref 363, .float 0]) (S' := [.long (jI v).toInt64, .int (Int32.ofInt 0), .ref 363]) rfl ?_
    refine hx_ls rfl ?_
    refine hx_go 2 (pc' := 19) (L' := [.ref 0, .int z0, .ref 363, .float 0]) (S' := [.int (Int32.ofInt 0)]) rfl ?_
    exact hx_end rfl rfl
  · match i, hi with
    | 0, hi =>
      have hE : 0 = E := Option.some.inj hi
      subst hE
      refine ⟨lg, 6 + 0, ?_, by decide, fun h9 => absurd h9 (by decide)⟩
      refine hx_go 4 (pc' := 4) (L' := [.ref 0, .int z0, .ref 363, .float 0]) (S' := [.int z0, .ref 0, .int (Int32.ofInt 0), .ref 363]) rfl ?_
      refine hx_ex (a := 108) (b := 1) (h := 12) (as := [.ref 0, .int z0]) (S' := [.int (Int32.ofInt 0), .ref 363]) rfl rfl (fun _ _ => rfl) (by decide) (zargI_ok rfl (zrecv_of (ci := 9) (by decide) h_0)) rfl hr rfl ?_
      refine hx_go 2 (pc' := 14) (L' := [.ref 0, .int z0, .ref 363, .float 1]) (S' := [.int (Int32.ofInt 1)]) rfl ?_
      exact hx_end rfl rfl
    | 1, hi =>
      have hE : 2 = E := Option.some.inj hi
      subst hE
      refine ⟨lg, 6 + 0, ?_, by decide, fun h9 => absurd h9 (by decide)⟩
      refine hx_go 4 (pc' := 4) (L' := [.ref 0, .int z0, .ref 363, .float 0]) (S' := [.int z0, .ref 0, .int (Int32.ofInt 0), .ref 363]) rfl ?_
      refine hx_ex (a := 108) (b := 1) (h := 15) (as := [.ref 0, .int z0]) (S' := [.int (Int32.ofInt 0), .ref 363]) rfl rfl (fun _ _ => rfl) (by decide) (zargI_ok rfl (zrecv_of (ci := 9) (by decide) h_0)) rfl hr rfl ?_
      refine hx_go 2 (pc' := 17) (L' := [.ref 0, .int z0, .ref 363, .float 1]) (S' := [.int (Int32.ofInt 2)]) rfl ?_
      exact hx_end rfl rfl
    | n + 2, hi => exact absurd hi (by simp)
theorem hp_349 {z0 : Int32} (hw : ∀ Q : zO → zI → Prop, wz (lg, N, xs) 110 0 [.ref 0, .int z0, .float 0, .float 0] [] (jm J) Q = Q o (jm J1)) (mt : mtc [0, 2] o th v) : ∃ lg' u, hx N xs 349 0 [.ref 0, .int z0, .ref 363, .float 0] [] J lg (jI th) J1 lg' u ∧ u ≤ 6 ∧ (th = 0 → lg' 363 0 = (jI v).toInt64) := by
  have hr := run_of hw
  rcases mt with ⟨rfl, rfl⟩ | ⟨i, E, hi, rfl, rfl⟩
  · have g0 : ∀ {u : Nat} {lg' : Nat → Nat → Int64}, hx N xs 349 7 [.ref 0, .int z0, .ref 363, .float 0] [.int (jI v), .int (Int32.ofInt 0), .ref 363] J1 lg (jI 0) J1 lg' u → hx N xs 349 0 [.ref 0, .int z0, .ref 363, .float 0] [] J lg (jI 0) J1 lg' (0 + u) := fun g => by
      refine hx_go 4 (pc' := 4) (L' := [.ref 0, .int z0, .ref 363, .float 0]) (S' := [.int z0, .ref 0, .int (Int32.ofInt 0), .ref 363]) rfl ?_
      exact hx_ok (a := 110) (b := 1) (as := [.ref 0, .int z0]) (S' := [.int (Int32.ofInt 0), .ref 363]) rfl rfl (fun _ _ => rfl) (by decide) (zargI_ok rfl (zrecv_of (ci := 9) (by decide) h_0)) rfl hr g
    refine ⟨zset lg 363 0 (jI v).toInt64, 0 + 0, g0 ?_, by decide, fun _ => zset363⟩
    refine hx_go 1 (pc' := 8) (L' := [.ref 0, .int z0, .ref 363, .float 0]) (S' := [.long (jI v).toInt64, .int (Int32.ofInt 0), .ref 363]) rfl ?_
    refine hx_ls rfl ?_
    refine hx_go 2 (pc' := 19) (L' := [.ref 0, .int z0, .ref 363, .float 0]) (S' := [.int (Int32.ofInt 0)]) rfl ?_
    exact hx_end rfl rfl
  · match i, hi with
    | 0, hi =>
      have hE : 0 = E := Option.some.inj hi
      subst hE
      refine ⟨lg, 6 + 0, ?_, by decide, fun h9 => absurd h9 (by decide)⟩
      refine hx_go 4 (pc' := 4) (L' := [.ref 0, .int z0, .ref 363, .float 0]) (S' := [.int z0, .ref 0, .int (Int32.ofInt 0), .ref 363]) rfl ?_
      refine hx_ex (a := 110) (b := 1) (h := 12) (as := [.ref 0, .int z0]) (S' := [.int (Int32.ofInt 0), .ref 363]) rfl rfl (fun _ _ => rfl) (by decide) (zargI_ok rfl (zrecv_of (ci := 9) (by decide) h_0)) rfl hr rfl ?_
      refine hx_go 2 (pc' := 14) (L' := [.ref 0, .int z0, .ref 363, .float 1]) (S' := [.int (Int32.ofInt 1)]) rfl ?_
      exact hx_end rfl rfl
    | 1, hi =>
      have hE : 2 = E := Option.some.inj hi
      subst hE
      refine ⟨lg, 6 + 0, ?_, by decide, fun h9 => absurd h9 (by decide)⟩
      refine hx_go 4 (pc' := 4) (L' := [.ref 0, .int z0, .ref 363, .float 0]) (S' := [.int z0, .ref 0, .int (Int32.ofInt 0), .ref 363]) rfl ?_
      refine hx_ex (a := 110) (b := 1) (h := 15) (as := [.ref 0, .int z0]) (S' := [.int (Int32.ofInt 0), .ref 363]) rfl rfl (fun _ _ => rfl) (by decide) (zargI_ok rfl (zrecv_of (ci := 9) (by decide) h_0)) rfl hr rfl ?_
      refine hx_go 2 (pc' := 17) (L' := [.ref 0, .int z0, .ref 363, .float 1]) (S' := [.int (Int32.ofInt 2)]) rfl ?_
      exact hx_end rfl rfl
    | n + 2, hi => exact absurd hi (by simp)
theorem hp_350 {z0 z1 : Int32} (hw : ∀ Q : zO → zI → Prop, wz (lg, N, xs) 111 0 [.ref 0, .int z0, .int z1, .float 0] [] (jm J) Q = Q o (jm J1)) (mt : mtc [0, 1] o th v) : ∃ lg' u, hx N xs 350 0 [.ref 0, .int z0, .int z1, .ref 363, .float 0] [] J lg (jI th) J1 lg' u ∧ u ≤ 6 ∧ (th = 0 → lg' 363 0 = (jI v).toInt64) := by
  have hr := run_of hw
  rcases mt with ⟨rfl, rfl⟩ | ⟨i, E, hi, rfl, rfl⟩
  · have g0 : ∀ {u : Nat} {lg' : Nat → Nat → Int64}, hx N xs 350 8 [.ref 0, .int z0, .int z1, .ref 363, .float 0] [.int (jI v), .int (Int32.ofInt 0), .ref 363] J1 lg (jI 0) J1 lg' u → hx N xs 350 0 [.ref 0, .int z0, .int z1, .ref 363, .float 0] [] J lg (jI 0) J1 lg' (0 + u) := fun g => by
      refine hx_go 5 (pc' := 5) (L' := [.ref 0, .int z0, .int z1, .ref 363, .float 0]) (S' := [.int z1, .int z0, .ref 0, .int (Int32.ofInt 0), .ref 363]) rfl ?_
      exact hx_ok (a := 111) (b := 2) (as := [.ref 0, .int z0, .int z1]) (S' := [.int (Int32.ofInt 0), .ref 363]) rfl rfl (fun _ _ => rfl) (by decide) (zargI_ok rfl (zrecv_of (ci := 9) (by decide) h_0)) rfl hr g
    refine ⟨zset lg 363 0 (jI v).toInt64, 0 + 0, g0 ?_, by decide, fun _ => zset363⟩
    refine hx_go 1 (pc' := 9) (L' := [.ref 0, .int z0, .int z1, .ref 363, .float 0]) (S' := [.long (jI v).toInt64, .int (Int32.ofInt 0), .ref 363]) rfl ?_
    refine hx_ls rfl ?_
    refine hx_go 2 (pc' := 22) (L' := [.ref 0, .int z0, .int z1, .ref 363, .float 0]) (S' := [.int (Int32.ofInt 0)]) rfl ?_
    exact hx_end rfl rfl
  · match i, hi with
    | 0, hi =>
      have hE : 0 = E := Option.some.inj hi
      subst hE
      refine ⟨lg, 6 + 0, ?_, by decide, fun h9 => absurd h9 (by decide)⟩
      refine hx_go 5 (pc' := 5) (L' := [.ref 0, .int z0, .int z1, .ref 363, .float 0]) (S' := [.int z1, .int z0, .ref 0, .int (Int32.ofInt 0), .ref 363]) rfl ?_
      refine hx_ex (a := 111) (b := 2) (h := 13) (as := [.ref 0, .int z0, .int z1]) (S' := [.int (Int32.ofInt 0), .ref 363]) rfl rfl (fun _ _ => rfl) (by decide) (zargI_ok rfl (zrecv_of (ci := 9) (by decide) h_0)) rfl hr rfl ?_
      refine hx_go 2 (pc' := 16) (L' := [.ref 0, .int z0, .int z1, .ref 363, .float 1]) (S' := [.int (Int32.ofInt 1)]) rfl ?_
      exact hx_end rfl rfl
    | 1, hi =>
      have hE : 1 = E := Option.some.inj hi
      subst hE
      refine ⟨lg, 6 + 0, ?_, by decide, fun h9 => absurd h9 (by decide)⟩
      refine hx_go 5 (pc' := 5) (L' := [.ref 0, .int z0, .int z1, .ref 363, .float 0]) (S' := [.int z1, .int z0, .ref 0, .int (Int32.ofInt 0), .ref 363]) rfl ?_
      refine hx_ex (a := 111) (b := 2) (h := 17) (as := [.ref 0, .int z0, .int z1]) (S' := [.int (Int32.ofInt 0), .ref 363]) rfl rfl (fun _ _ => rfl) (by decide) (zargI_ok rfl (zrecv_of (ci := 9) (by decide) h_0)) rfl hr rfl ?_
      refine hx_go 2 (pc' := 20) (L' := [.ref 0, .int z0, .int z1, .ref 363, .float 1]) (S' := [.int (Int32.ofInt 2)]) rfl ?_
      exact hx_end rfl rfl
    | n + 2, hi => exact absurd hi (by simp)
theorem hp_351 {z0 : Int32} (hw : ∀ Q : zO → zI → Prop, wz (lg, N, xs) 112 0 [.ref 0, .int z0, .float 0] [] (jm J) Q = Q o (jm J1)) (mt : mtc [1] o th v) : ∃ lg' u, hx N xs 351 0 [.ref 0, .int z0, .ref 363, .float 0] [] J lg (jI th) J1 lg' u ∧ u ≤ 6 ∧ (th = 0 → lg' 363 0 = (jI v).toInt64) := by
  have hr := run_of hw
  rcases mt with ⟨rfl, rfl⟩ | ⟨i, E, hi, rfl, rfl⟩
  · have g0 : ∀ {u : Nat} {lg' : Nat → Nat → Int64}, hx N xs 351 7 [.ref 0, .int z0, .ref 363, .float 0] [.int (jI v), .int (Int32.ofInt 0), .ref 363] J1 lg (jI 0) J1 lg' u → hx N xs 351 0 [.ref 0, .int z0, .ref 363, .float 0] [] J lg (jI 0) J1 lg' (0 + u) := fun g => by
      refine hx_go 4 (pc' := 4) (L' := [.ref 0, .int z0, .ref 363, .float 0]) (S' := [.int z0, .ref 0, .int (Int32.ofInt 0), .ref 363]) rfl ?_
      exact hx_ok (a := 112) (b := 1) (as := [.ref 0, .int z0]) (S' := [.int (Int32.ofInt 0), .ref 363]) rfl rfl (fun _ _ => rfl) (by decide) (zargI_ok rfl (zrecv_of (ci := 9) (by decide) h_0)) rfl hr g
    refine ⟨zset lg 363 0 (jI v).toInt64, 0 + 0, g0 ?_, by decide, fun _ => zset363⟩
    refine hx_go 1 (pc' := 8) (L' := [.ref 0, .int z0, .ref 363, .float 0]) (S' := [.long (jI v).toInt64, .int (Int32.ofInt 0), .ref 363]) rfl ?_
    refine hx_ls rfl ?_
    refine hx_go 2 (pc' := 16) (L' := [.ref 0, .int z0, .ref 363, .float 0]) (S' := [.int (Int32.ofInt 0)]) rfl ?_
    exact hx_end rfl rfl
  · match i, hi with
    | 0, hi =>
      have hE : 1 = E := Option.some.inj hi
      subst hE
      refine ⟨lg, 6 + 0, ?_, by decide, fun h9 => absurd h9 (by decide)⟩
      refine hx_go 4 (pc' := 4) (L' := [.ref 0, .int z0, .ref 363, .float 0]) (S' := [.int z0, .ref 0, .int (Int32.ofInt 0), .ref 363]) rfl ?_
      refine hx_ex (a := 112) (b := 1) (h := 12) (as := [.ref 0, .int z0]) (S' := [.int (Int32.ofInt 0), .ref 363]) rfl rfl (fun _ _ => rfl) (by decide) (zargI_ok rfl (zrecv_of (ci := 9) (by decide) h_0)) rfl hr rfl ?_
      refine hx_go 2 (pc' := 14) (L' := [.ref 0, .int z0, .ref 363, .float 1]) (S' := [.int (Int32.ofInt 1)]) rfl ?_
      exact hx_end rfl rfl
    | n + 1, hi => exact absurd hi (by simp)
theorem hp_352 {z0 : Int32} (hw : ∀ Q : zO → zI → Prop, wz (lg, N, xs) 119 0 [.ref 0, .int z0] [] (jm J) Q = Q o (jm J1)) (mt : mtc [0] o th v) : ∃ lg' u, hx N xs 352 0 [.ref 0, .int z0, .ref 363, .float 0] [] J lg (jI th) J1 lg' u ∧ u ≤ 6 ∧ (th = 0 → lg' 363 0 = (jI v).toInt64) := by
  have hr := run_of hw
  rcases mt with ⟨rfl, rfl⟩ | ⟨i, E, hi, rfl, rfl⟩
  · have g0 : ∀ {u : Nat} {lg' : Nat → Nat → Int64}, hx N xs 352 7 [.ref 0, .int z0, .ref 363, .float 0] [.int (jI v), .int (Int32.ofInt 0), .ref 363] J1 lg (jI 0) J1 lg' u → hx N xs 352 0 [.ref 0, .int z0, .ref 363, .float 0] [] J lg (jI 0) J1 lg' (0 + u) := fun g => by
      refine hx_go 4 (pc' := 4) (L' := [.ref 0, .int z0, .ref 363, .float 0]) (S' := [.int z0, .ref 0, .int (Int32.ofInt 0), .ref 363]) rfl ?_
      exact hx_ok (a := 119) (b := 1) (as := [.ref 0, .int z0]) (S' := [.int (Int32.ofInt 0), .ref 363]) rfl rfl (fun _ _ => rfl) (by decide) (zargI_ok rfl (zrecv_of (ci := 9) (by decide) h_0)) rfl hr g
    refine ⟨zset lg 363 0 (jI v).toInt64, 0 + 0, g0 ?_, by decide, fun _ => zset363⟩
    refine hx_go 1 (pc' := 8) (L' := [.ref 0, .int z0, .ref 363, .float 0]) (S' := [.long (jI v).toInt64, .int (Int32.ofInt 0), .ref 363]) rfl ?_
    refine hx_ls rfl ?_
    refine hx_go 2 (pc' := 16) (L' := [.ref 0, .int z0, .ref 363, .float 0]) (S' := [.int (Int32.ofInt 0)]) rfl ?_
    exact hx_end rfl rfl
  · match i, hi with
    | 0, hi =>
      have hE : 0 = E := Option.some.inj hi
      subst hE
      refine ⟨lg, 6 + 0, ?_, by decide, fun h9 => absurd h9 (by decide)⟩
      refine hx_go 4 (pc' := 4) (L' := [.ref 0, .int z0, .ref 363, .float 0]) (S' := [.int z0, .ref 0, .int (Int32.ofInt 0), .ref 363]) rfl ?_
      refine hx_ex (a := 119) (b := 1) (h := 12) (as := [.ref 0, .int z0]) (S' := [.int (Int32.ofInt 0), .ref 363]) rfl rfl (fun _ _ => rfl) (by decide) (zargI_ok rfl (zrecv_of (ci := 9) (by decide) h_0)) rfl hr rfl ?_
      refine hx_go 2 (pc' := 14) (L' := [.ref 0, .int z0, .ref 363, .float 1]) (S' := [.int (Int32.ofInt 1)]) rfl ?_
      exact hx_end rfl rfl
    | n + 1, hi => exact absurd hi (by simp)
theorem hp_353 {z0 z1 : Int32} (hw : ∀ Q : zO → zI → Prop, wz (lg, N, xs) 120 0 [.ref 0, .int z0, .int z1] [] (jm J) Q = Q o (jm J1)) (mt : mtc [0, 1] o th v) : ∃ lg' u, hx N xs 353 0 [.ref 0, .int z0, .int z1, .ref 363, .float 0] [] J lg (jI th) J1 lg' u ∧ u ≤ 6 ∧ (th = 0 → lg' 363 0 = (jI v).toInt64) := by
  have hr := run_of hw
  rcases mt with ⟨rfl, rfl⟩ | ⟨i, E, hi, rfl, rfl⟩
  · have g0 : ∀ {u : Nat} {lg' : Nat → Nat → Int64}, hx N xs 353 8 [.ref 0, .int z0, .int z1, .ref 363, .float 0] [.int (jI v), .int (Int32.ofInt 0), .ref 363] J1 lg (jI 0) J1 lg' u → hx N xs 353 0 [.ref 0, .int z0, .int z1, .ref 363, .float 0] [] J lg (jI 0) J1 lg' (0 + u) := fun g => by
      refine hx_go 5 (pc' := 5) (L' := [.ref 0, .int z0, .int z1, .ref 363, .float 0]) (S' := [.int z1, .int z0, .ref 0, .int (Int32.ofInt 0), .ref 363]) rfl ?_
      exact hx_ok (a := 120) (b := 2) (as := [.ref 0, .int z0, .int z1]) (S' := [.int (Int32.ofInt 0), .ref 363]) rfl rfl (fun _ _ => rfl) (by decide) (zargI_ok rfl (zrecv_of (ci := 9) (by decide) h_0)) rfl hr g
    refine ⟨zset lg 363 0 (jI v).toInt64, 0 + 0, g0 ?_, by decide, fun _ => zset363⟩
    refine hx_go 1 (pc' := 9) (L' := [.ref 0, .int z0, .int z1, .ref 363, .float 0]) (S' := [.long (jI v).toInt64, .int (Int32.ofInt 0), .ref 363]) rfl ?_
    refine hx_ls rfl ?_
    refine hx_go 2 (pc' := 22) (L' := [.ref 0, .int z0, .int z1, .ref 363, .float 0]) (S' := [.int (Int32.ofInt 0)]) rfl ?_
    exact hx_end rfl rfl
  · match i, hi with
    | 0, hi =>
      have hE : 0 = E := Option.some.inj hi
      subst hE
      refine ⟨lg, 6 + 0, ?_, by decide, fun h9 => absurd h9 (by decide)⟩
      refine hx_go 5 (pc' := 5) (L' := [.ref 0, .int z0, .int z1, .ref 363, .float 0]) (S' := [.int z1, .int z0, .ref 0, .int (Int32.ofInt 0), .ref 363]) rfl ?_
      refine hx_ex (a := 120) (b := 2) (h := 13) (as := [.ref 0, .int z0, .int z1]) (S' := [.int (Int32.ofInt 0), .ref 363]) rfl rfl (fun _ _ => rfl) (by decide) (zargI_ok rfl (zrecv_of (ci := 9) (by decide) h_0)) rfl hr rfl ?_
      refine hx_go 2 (pc' := 16) (L' := [.ref 0, .int z0, .int z1, .ref 363, .float 1]) (S' := [.int (Int32.ofInt 1)]) rfl ?_
      exact hx_end rfl rfl
    | 1, hi =>
      have hE : 1 = E := Option.some.inj hi
      subst hE
      refine ⟨lg, 6 + 0, ?_, by decide, fun h9 => absurd h9 (by decide)⟩
      refine hx_go 5 (pc' := 5) (L' := [.ref 0, .int z0, .int z1, .ref 363, .float 0]) (S' := [.int z1, .int z0, .ref 0, .int (Int32.ofInt 0), .ref 363]) rfl ?_
      refine hx_ex (a := 120) (b := 2) (h := 17) (as := [.ref 0, .int z0, .int z1]) (S' := [.int (Int32.ofInt 0), .ref 363]) rfl rfl (fun _ _ => rfl) (by decide) (zargI_ok rfl (zrecv_of (ci := 9) (by decide) h_0)) rfl hr rfl ?_
      refine hx_go 2 (pc' := 20) (L' := [.ref 0, .int z0, .int z1, .ref 363, .float 1]) (S' := [.int (Int32.ofInt 2)]) rfl ?_
      exact hx_end rfl rfl
    | n + 2, hi => exact absurd hi (by simp)
theorem hp_354 {z0 : Int32} (hw : ∀ Q : zO → zI → Prop, wz (lg, N, xs) 123 0 [.ref 0, .int z0] [] (jm J) Q = Q o (jm J1)) (mt : mtc [0] o th v) : ∃ lg' u, hx N xs 354 0 [.ref 0, .int z0, .ref 363, .float 0] [] J lg (jI th) J1 lg' u ∧ u ≤ 6 ∧ (th = 0 → lg' 363 0 = (jI v).toInt64) := by
  have hr := run_of hw
  rcases mt with ⟨rfl, rfl⟩ | ⟨i, E, hi, rfl, rfl⟩
  · have g0 : ∀ {u : Nat} {lg' : Nat → Nat → Int64}, hx N xs 354 7 [.ref 0, .int z0, .ref 363, .float 0] [.int (jI v), .int (Int32.ofInt 0), .ref 363] J1 lg (jI 0) J1 lg' u → hx N xs 354 0 [.ref 0, .int z0, .ref 363, .float 0] [] J lg (jI 0) J1 lg' (0 + u) := fun g => by
      refine hx_go 4 (pc' := 4) (L' := [.ref 0, .int z0, .ref 363, .float 0]) (S' := [.int z0, .ref 0, .int (Int32.ofInt 0), .ref 363]) rfl ?_
      exact hx_ok (a := 123) (b := 1) (as := [.ref 0, .int z0]) (S' := [.int (Int32.ofInt 0), .ref 363]) rfl rfl (fun _ _ => rfl) (by decide) (zargI_ok rfl (zrecv_of (ci := 9) (by decide) h_0)) rfl hr g
    refine ⟨zset lg 363 0 (jI v).toInt64, 0 + 0, g0 ?_, by decide, fun _ => zset363⟩
    refine hx_go 1 (pc' := 8) (L' := [.ref 0, .int z0, .ref 363, .float 0]) (S' := [.long (jI v).toInt64, .int (Int32.ofInt 0), .ref 363]) rfl ?_
    refine hx_ls rfl ?_
    refine hx_go 2 (pc' := 16) (L' := [.ref 0, .int z0, .ref 363, .float 0]) (S' := [.int (Int32.ofInt 0)]) rfl ?_
    exact hx_end rfl rfl
  · match i, hi with
    | 0, hi =>
      have hE : 0 = E := Option.some.inj hi
      subst hE
      refine ⟨lg, 6 + 0, ?_, by decide, fun h9 => absurd h9 (by decide)⟩
      refine hx_go 4 (pc' := 4) (L' := [.ref 0, .int z0, .ref 363, .float 0]) (S' := [.int z0, .ref 0, .int (Int32.ofInt 0), .ref 363]) rfl ?_
      refine hx_ex (a := 123) (b := 1) (h := 12) (as := [.ref 0, .int z0]) (S' := [.int (Int32.ofInt 0), .ref 363]) rfl rfl (fun _ _ => rfl) (by decide) (zargI_ok rfl (zrecv_of (ci := 9) (by decide) h_0)) rfl hr rfl ?_
      refine hx_go 2 (pc' := 14) (L' := [.ref 0, .int z0, .ref 363, .float 1]) (S' := [.int (Int32.ofInt 1)]) rfl ?_
      exact hx_end rfl rfl
    | n + 1, hi => exact absurd hi (by simp)
theorem hp_355 {z0 : Int32} (hw : ∀ Q : zO → zI → Prop, wz (lg, N, xs) 124 0 [.ref 0, .int z0] [] (jm J) Q = Q o (jm J1)) (mt : mtc [0] o th v) : ∃ lg' u, hx N xs 355 0 [.ref 0, .int z0, .ref 363, .float 0] [] J lg (jI th) J1 lg' u ∧ u ≤ 6 ∧ (th = 0 → lg' 363 0 = (jI v).toInt64) := by
  have hr := run_of hw
  rcases mt with ⟨rfl, rfl⟩ | ⟨i, E, hi, rfl, rfl⟩
  · have g0 : ∀ {u : Nat} {lg' : Nat → Nat → Int64}, hx N xs 355 7 [.ref 0, .int z0, .ref 363, .float 0] [.int (jI v), .int (Int32.ofInt 0), .ref 363] J1 lg (jI 0) J1 lg' u → hx N xs 355 0 [.ref 0, .int z0, .ref 363, .float 0] [] J lg (jI 0) J1 lg' (0 + u) := fun g => by
      refine hx_go 4 (pc' := 4) (L' := [.ref 0, .int z0, .ref 363, .float 0]) (S' := [.int z0, .ref 0, .int (Int32.ofInt 0), .ref 363]) rfl ?_
      exact hx_ok (a := 124) (b := 1) (as := [.ref 0, .int z0]) (S' := [.int (Int32.ofInt 0), .ref 363]) rfl rfl (fun _ _ => rfl) (by decide) (zargI_ok rfl (zrecv_of (ci := 9) (by decide) h_0)) rfl hr g
    refine ⟨zset lg 363 0 (jI v).toInt64, 0 + 0, g0 ?_, by decide, fun _ => zset363⟩
    refine hx_go 1 (pc' := 8) (L' := [.ref 0, .int z0, .ref 363, .float 0]) (S' := [.long (jI v).toInt64, .int (Int32.ofInt 0), .ref 363]) rfl ?_
    refine hx_ls rfl ?_
    refine hx_go 2 (pc' := 16) (L' := [.ref 0, .int z0, .ref 363, .float 0]) (S' := [.int (Int32.ofInt 0)]) rfl ?_
    exact hx_end rfl rfl
  · match i, hi with
    | 0, hi =>
      have hE : 0 = E := Option.some.inj hi
      subst hE
      refine ⟨lg, 6 + 0, ?_, by decide, fun h9 => absurd h9 (by decide)⟩
      refine hx_go 4 (pc' := 4) (L' := [.ref 0, .int z0, .ref 363, .float 0]) (S' := [.int z0, .ref 0, .int (Int32.ofInt 0), .ref 363]) rfl ?_
      refine hx_ex (a := 124) (b := 1) (h := 12) (as := [.ref 0, .int z0]) (S' := [.int (Int32.ofInt 0), .ref 363]) rfl rfl (fun _ _ => rfl) (by decide) (zargI_ok rfl (zrecv_of (ci := 9) (by decide) h_0)) rfl hr rfl ?_
      refine hx_go 2 (pc' := 14) (L' := [.ref 0, .int z0, .ref 363, .float 1]) (S' := [.int (Int32.ofInt 1)]) rfl ?_
      exact hx_end rfl rfl
    | n + 1, hi => exact absurd hi (by simp)
theorem hp_356 {z0 : Int32} (hw : ∀ Q : zO → zI → Prop, wz (lg, N, xs) 125 0 [.ref 0, .int z0] [] (jm J) Q = Q o (jm J1)) (mt : mtc [0] o th v) : ∃ lg' u, hx N xs 356 0 [.ref 0, .int z0, .ref 363, .float 0] [] J lg (jI th) J1 lg' u ∧ u ≤ 6 ∧ (th = 0 → lg' 363 0 = (jI v).toInt64) := by
  have hr := run_of hw
  rcases mt with ⟨rfl, rfl⟩ | ⟨i, E, hi, rfl, rfl⟩
  · have g0 : ∀ {u : Nat} {lg' : Nat → Nat → Int64}, hx N xs 356 7 [.ref 0, .int z0, .ref 363, .float 0] [.int (jI v), .int (Int32.ofInt 0), .ref 363] J1 lg (jI 0) J1 lg' u → hx N xs 356 0 [.ref 0, .int z0, .ref 363, .float 0] [] J lg (jI 0) J1 lg' (0 + u) := fun g => by
      refine hx_go 4 (pc' := 4) (L' := [.ref 0, .int z0, .ref 363, .float 0]) (S' := [.int z0, .ref 0, .int (Int32.ofInt 0), .ref 363]) rfl ?_
      exact hx_ok (a := 125) (b := 1) (as := [.ref 0, .int z0]) (S' := [.int (Int32.ofInt 0), .ref 363]) rfl rfl (fun _ _ => rfl) (by decide) (zargI_ok rfl (zrecv_of (ci := 9) (by decide) h_0)) rfl hr g
    refine ⟨zset lg 363 0 (jI v).toInt64, 0 + 0, g0 ?_, by decide, fun _ => zset363⟩
    refine hx_go 1 (pc' := 8) (L' := [.ref 0, .int z0, .ref 363, .float 0]) (S' := [.long (jI v).toInt64, .int (Int32.ofInt 0), .ref 363]) rfl ?_
    refine hx_ls rfl ?_
    refine hx_go 2 (pc' := 16) (L' := [.ref 0, .int z0, .ref 363, .float 0]) (S' := [.int (Int32.ofInt 0)]) rfl ?_
    exact hx_end rfl rfl
  · match i, hi with
    | 0, hi =>
      have hE : 0 = E := Option.some.inj hi
      subst hE
      refine ⟨lg, 6 + 0, ?_, by decide, fun h9 => absurd h9 (by decide)⟩
      refine hx_go 4 (pc' := 4) (L' := [.ref 0, .int z0, .ref 363, .float 0]) (S' := [.int z0, .ref 0, .int (Int32.ofInt 0), .ref 363]) rfl ?_
      refine hx_ex (a := 125) (b := 1) (h := 12) (as := [.ref 0, .int z0]) (S' := [.int (Int32.ofInt 0), .ref 363]) rfl rfl (fun _ _ => rfl) (by decide) (zargI_ok rfl (zrecv_of (ci := 9) (by decide) h_0)) rfl hr rfl ?_
      refine hx_go 2 (pc' := 14) (L' := [.ref 0, .int z0, .ref 363, .float 1]) (S' := [.int (Int32.ofInt 1)]) rfl ?_
      exact hx_end rfl rfl
    | n + 1, hi => exact absurd hi (by simp)
theorem hp_357 {z0 z1 : Int32} (hw : ∀ Q : zO → zI → Prop, wz (lg, N, xs) 126 0 [.ref 0, .int z0, .int z1] [] (jm J) Q = Q o (jm J1)) (mt : mtc [0] o th v) : ∃ lg' u, hx N xs 357 0 [.ref 0, .int z0, .int z1, .ref 363, .float 0] [] J lg (jI th) J1 lg' u ∧ u ≤ 6 ∧ (th = 0 → lg' 363 0 = (if jI v = 0 then 0 else 1 : Int64)) := by
  have hr := run_of hw
  rcases mt with ⟨rfl, rfl⟩ | ⟨i, E, hi, rfl, rfl⟩
  · have g0 : ∀ {u : Nat} {lg' : Nat → Nat → Int64}, hx N xs 357 8 [.ref 0, .int z0, .int z1, .ref 363, .float 0] [.int (jI v), .int (Int32.ofInt 0), .ref 363] J1 lg (jI 0) J1 lg' u → hx N xs 357 0 [.ref 0, .int z0, .int z1, .ref 363, .float 0] [] J lg (jI 0) J1 lg' (0 + u) := fun g => by
      refine hx_go 5 (pc' := 5) (L' := [.ref 0, .int z0, .int z1, .ref 363, .float 0]) (S' := [.int z1, .int z0, .ref 0, .int (Int32.ofInt 0), .ref 363]) rfl ?_
      exact hx_ok (a := 126) (b := 2) (as := [.ref 0, .int z0, .int z1]) (S' := [.int (Int32.ofInt 0), .ref 363]) rfl rfl (fun _ _ => rfl) (by decide) (zargI_ok rfl (zrecv_of (ci := 9) (by decide) h_0)) rfl hr g
    by_cases hv0 : jI v = 0
    · refine ⟨zset lg 363 0 0, 0 + 0, g0 ?_, by decide, fun _ => by rw [if_pos hv0]; exact zset363⟩
      refine hx_e0 rfl hv0 ?_
      refine hx_go 1 (pc' := 16) (L' := [.ref 0, .int z0, .int z1, .ref 363, .float 0]) (S' := [.long 0, .int (Int32.ofInt 0), .ref 363]) rfl ?_
      refine hx_ls rfl ?_
      refine hx_go 2 (pc' := 25) (L' := [.ref 0, .int z0, .int z1, .ref 363, .float 0]) (S' := [.int (Int32.ofInt 0)]) rfl ?_
      exact hx_end rfl rfl
    · refine ⟨zset lg 363 0 1, 0 + 0, g0 ?_, by decide, fun _ => by rw [if_neg hv0]; exact zset363⟩
      refine hx_e1 rfl hv0 ?_
      refine hx_go 2 (pc' := 16) (L' := [.ref 0, .int z0, .int z1, .ref 363, .float 0]) (S' := [.long 1, .int (Int32.ofInt 0), .ref 363]) rfl ?_
      refine hx_ls rfl ?_
      refine hx_go 2 (pc' := 25) (L' := [.ref 0, .int z0, .int z1, .ref 363, .float 0]) (S' := [.int (Int32.ofInt 0)]) rfl ?_
      exact hx_end rfl rfl
  · match i, hi with
    | 0, hi =>
      have hE : 0 = E := Option.some.inj hi
      subst hE
      refine ⟨lg, 6 + 0, ?_, by decide, fun h9 => absurd h9 (by decide)⟩
      refine hx_go 5 (pc' := 5) (L' := [.ref 0, .int z0, .int z1, .ref 363, .float 0]) (S' := [.int z1, .int z0, .ref 0, .int (Int32.ofInt 0), .ref 363]) rfl ?_
      refine hx_ex (a := 126) (b := 2) (h := 20) (as := [.ref 0, .int z0, .int z1]) (S' := [.int (Int32.ofInt 0), .ref 363]) rfl rfl (fun _ _ => rfl) (by decide) (zargI_ok rfl (zrecv_of (ci := 9) (by decide) h_0)) rfl hr rfl ?_
      refine hx_go 2 (pc' := 23) (L' := [.ref 0, .int z0, .int z1, .ref 363, .float 1]) (S' := [.int (Int32.ofInt 1)]) rfl ?_
      exact hx_end rfl rfl
    | n + 1, hi => exact absurd hi (by simp)
theorem hp_358 {z0 : Int32} (hw : ∀ Q : zO → zI → Prop, wz (lg, N, xs) 128 0 [.ref 0, .int z0, .float 0, .float 0] [] (jm J) Q = Q o (jm J1)) (mt : mtc [0] o th v) : ∃ lg' u, hx N xs 358 0 [.ref 0, .int z0, .ref 363, .float 0] [] J lg (jI th) J1 lg' u ∧ u ≤ 6 ∧ (th = 0 → lg' 363 0 = (jI v).toInt64) := by
  have hr := run_of hw
  rcases mt with ⟨rfl, rfl⟩ | ⟨i, E, hi, rfl, rfl⟩
  · have g0 : ∀ {u : Nat} {lg' : Nat → Nat → Int64}, hx N xs 358 7 [.ref 0, .int z0, .ref 363, .float 0] [.int (jI v), .int (Int32.ofInt 0), .ref 363] J1 lg (jI 0) J1 lg' u → hx N xs 358 0 [.ref 0, .int z0, .ref 363, .float 0] [] J lg (jI 0) J1 lg' (0 + u) := fun g => by
      refine hx_go 4 (pc' := 4) (L' := [.ref 0, .int z0, .ref 363, .float 0]) (S' := [.int z0, .ref 0, .int (Int32.ofInt 0), .ref 363]) rfl ?_
      exact hx_ok (a := 128) (b := 1) (as := [.ref 0, .int z0]) (S' := [.int (Int32.ofInt 0), .ref 363]) rfl rfl (fun _ _ => rfl) (by decide) (zargI_ok rfl (zrecv_of (ci := 9) (by decide) h_0)) rfl hr g
    refine ⟨zset lg 363 0 (jI v).toInt64, 0 + 0, g0 ?_, by decide, fun _ => zset363⟩
    refine hx_go 1 (pc' := 8) (L' := [.ref 0, .int z0, .ref 363, .float 0]) (S' := [.long (jI v).toInt64, .int (Int32.ofInt 0), .ref 363]) rfl ?_
    refine hx_ls rfl ?_
    refine hx_go 2 (pc' := 16) (L' := [.ref 0, .int z0, .ref 363, .float 0]) (S' := [.int (Int32.ofInt 0)]) rfl ?_
    exact hx_end rfl rfl
  · match i, hi with
    | 0, hi =>
      have hE : 0 = E := Option.some.inj hi
      subst hE
      refine ⟨lg, 6 + 0, ?_, by decide, fun h9 => absurd h9 (by decide)⟩
      refine hx_go 4 (pc' := 4) (L' := [.ref 0, .int z0, .ref 363, .float 0]) (S' := [.int z0, .ref 0, .int (Int32.ofInt 0), .ref 363]) rfl ?_
      refine hx_ex (a := 128) (b := 1) (h := 12) (as := [.ref 0, .int z0]) (S' := [.int (Int32.ofInt 0), .ref 363]) rfl rfl (fun _ _ => rfl) (by decide) (zargI_ok rfl (zrecv_of (ci := 9) (by decide) h_0)) rfl hr rfl ?_
      refine hx_go 2 (pc' := 14) (L' := [.ref 0, .int z0, .ref 363, .float 1]) (S' := [.int (Int32.ofInt 1)]) rfl ?_
      exact hx_end rfl rfl
    | n + 1, hi => exact absurd hi (by simp)
theorem hp_359 {z0 : Int32} (hw : ∀ Q : zO → zI → Prop, wz (lg, N, xs) 129 0 [.ref 0, .int z0] [] (jm J) Q = Q o (jm J1)) (mt : mtc [0] o th v) : ∃ lg' u, hx N xs 359 0 [.ref 0, .int z0, .ref 363, .float 0] [] J lg (jI th) J1 lg' u ∧ u ≤ 6 ∧ (th = 0 → lg' 363 0 = (jI v).toInt64) := by
  have hr := run_of hw
  rcases mt with ⟨rfl, rfl⟩ | ⟨i, E, hi, rfl, rfl⟩
  · have g0 : ∀ {u : Nat} {lg' : Nat → Nat → Int64}, hx N xs 359 7 [.ref 0, .int z0, .ref 363, .float 0] [.int (jI v), .int (Int32.ofInt 0), .ref 363] J1 lg (jI 0) J1 lg' u → hx N xs 359 0 [.ref 0, .int z0, .ref 363, .float 0] [] J lg (jI 0) J1 lg' (0 + u) := fun g => by
      refine hx_go 4 (pc' := 4) (L' := [.ref 0, .int z0, .ref 363, .float 0]) (S' := [.int z0, .ref 0, .int (Int32.ofInt 0), .ref 363]) rfl ?_
      exact hx_ok (a := 129) (b := 1) (as := [.ref 0, .int z0]) (S' := [.int (Int32.ofInt 0), .ref 363]) rfl rfl (fun _ _ => rfl) (by decide) (zargI_ok rfl (zrecv_of (ci := 9) (by decide) h_0)) rfl hr g
    refine ⟨zset lg 363 0 (jI v).toInt64, 0 + 0, g0 ?_, by decide, fun _ => zset363⟩
    refine hx_go 1 (pc' := 8) (L' := [.ref 0, .int z0, .ref 363, .float 0]) (S' := [.long (jI v).toInt64, .int (Int32.ofInt 0), .ref 363]) rfl ?_
    refine hx_ls rfl ?_
    refine hx_go 2 (pc' := 16) (L' := [.ref 0, .int z0, .ref 363, .float 0]) (S' := [.int (Int32.ofInt 0)]) rfl ?_
    exact hx_end rfl rfl
  · match i, hi with
    | 0, hi =>
      have hE : 0 = E := Option.some.inj hi
      subst hE
      refine ⟨lg, 6 + 0, ?_, by decide, fun h9 => absurd h9 (by decide)⟩
      refine hx_go 4 (pc' := 4) (L' := [.ref 0, .int z0, .ref 363, .float 0]) (S' := [.int z0, .ref 0, .int (Int32.ofInt 0), .ref 363]) rfl ?_
      refine hx_ex (a := 129) (b := 1) (h := 12) (as := [.ref 0, .int z0]) (S' := [.int (Int32.ofInt 0), .ref 363]) rfl rfl (fun _ _ => rfl) (by decide) (zargI_ok rfl (zrecv_of (ci := 9) (by decide) h_0)) rfl hr rfl ?_
      refine hx_go 2 (pc' := 14) (L' := [.ref 0, .int z0, .ref 363, .float 1]) (S' := [.int (Int32.ofInt 1)]) rfl ?_
      exact hx_end rfl rfl
    | n + 1, hi => exact absurd hi (by simp)
theorem hp_360 {z0 : Int32} (hw : ∀ Q : zO → zI → Prop, wz (lg, N, xs) 130 0 [.ref 0, .int z0] [] (jm J) Q = Q o (jm J1)) (mt : mtc [0] o th v) : ∃ lg' u, hx N xs 360 0 [.ref 0, .int z0, .ref 363, .float 0] [] J lg (jI th) J1 lg' u ∧ u ≤ 6 ∧ (th = 0 → lg' 363 0 = (jI v).toInt64) := by
  have hr := run_of hw
  rcases mt with ⟨rfl, rfl⟩ | ⟨i, E, hi, rfl, rfl⟩
  · have g0 : ∀ {u : Nat} {lg' : Nat → Nat → Int64}, hx N xs 360 7 [.ref 0, .int z0, .ref 363, .float 0] [.int (jI v), .int (Int32.ofInt 0), .ref 363] J1 lg (jI 0) J1 lg' u → hx N xs 360 0 [.ref 0, .int z0, .ref 363, .float 0] [] J lg (jI 0) J1 lg' (0 + u) := fun g => by
      refine hx_go 4 (pc' := 4) (L' := [.ref 0, .int z0, .ref 363, .float 0]) (S' := [.int z0, .ref 0, .int (Int32.ofInt 0), .ref 363]) rfl ?_
      exact hx_ok (a := 130) (b := 1) (as := [.ref 0, .int z0]) (S' := [.int (Int32.ofInt 0), .ref 363]) rfl rfl (fun _ _ => rfl) (by decide) (zargI_ok rfl (zrecv_of (ci := 9) (by decide) h_0)) rfl hr g
    refine ⟨zset lg 363 0 (jI v).toInt64, 0 + 0, g0 ?_, by decide, fun _ => zset363⟩
    refine hx_go 1 (pc' := 8) (L' := [.ref 0, .int z0, .ref 363, .float 0]) (S' := [.long (jI v).toInt64, .int (Int32.ofInt 0), .ref 363]) rfl ?_
    refine hx_ls rfl ?_
    refine hx_go 2 (pc' := 16) (L' := [.ref 0, .int z0, .ref 363, .float 0]) (S' := [.int (Int32.ofInt 0)]) rfl ?_
    exact hx_end rfl rfl
  · match i, hi with
    | 0, hi =>
      have hE : 0 = E := Option.some.inj hi
      subst hE
      refine ⟨lg, 6 + 0, ?_, by decide, fun h9 => absurd h9 (by decide)⟩
      refine hx_go 4 (pc' := 4) (L' := [.ref 0, .int z0, .ref 363, .float 0]) (S' := [.int z0, .ref 0, .int (Int32.ofInt 0), .ref 363]) rfl ?_
      refine hx_ex (a := 130) (b := 1) (h := 12) (as := [.ref 0, .int z0]) (S' := [.int (Int32.ofInt 0), .ref 363]) rfl rfl (fun _ _ => rfl) (by decide) (zargI_ok rfl (zrecv_of (ci := 9) (by decide) h_0)) rfl hr rfl ?_
      refine hx_go 2 (pc' := 14) (L' := [.ref 0, .int z0, .ref 363, .float 1]) (S' := [.int (Int32.ofInt 1)]) rfl ?_
      exact hx_end rfl rfl
    | n + 1, hi => exact absurd hi (by simp)
theorem hp_361 {z0 : Int32} (hw : ∀ Q : zO → zI → Prop, wz (lg, N, xs) 131 0 [.ref 0, .int z0] [] (jm J) Q = Q o (jm J1)) (mt : mtc [0] o th v) : ∃ lg' u, hx N xs 361 0 [.ref 0, .int z0, .ref 363, .float 0] [] J lg (jI th) J1 lg' u ∧ u ≤ 6 ∧ (th = 0 → lg' 363 0 = (jI v).toInt64) := by
  have hr := run_of hw
  rcases mt with ⟨rfl, rfl⟩ | ⟨i, E, hi, rfl, rfl⟩
  · have g0 : ∀ {u : Nat} {lg' : Nat → Nat → Int64}, hx N xs 361 7 [.ref 0, .int z0, .ref 363, .float 0] [.int (jI v), .int (Int32.ofInt 0), .ref 363] J1 lg (jI 0) J1 lg' u → hx N xs 361 0 [.ref 0, .int z0, .ref 363, .float 0] [] J lg (jI 0) J1 lg' (0 + u) := fun g => by
      refine hx_go 4 (pc' := 4) (L' := [.ref 0, .int z0, .ref 363, .float 0]) (S' := [.int z0, .ref 0, .int (Int32.ofInt 0), .ref 363]) rfl ?_
      exact hx_ok (a := 131) (b := 1) (as := [.ref 0, .int z0]) (S' := [.int (Int32.ofInt 0), .ref 363]) rfl rfl (fun _ _ => rfl) (by decide) (zargI_ok rfl (zrecv_of (ci := 9) (by decide) h_0)) rfl hr g
    refine ⟨zset lg 363 0 (jI v).toInt64, 0 + 0, g0 ?_, by decide, fun _ => zset363⟩
    refine hx_go 1 (pc' := 8) (L' := [.ref 0, .int z0, .ref 363, .float 0]) (S' := [.long (jI v).toInt64, .int (Int32.ofInt 0), .ref 363]) rfl ?_
    refine hx_ls rfl ?_
    refine hx_go 2 (pc' := 16) (L' := [.ref 0, .int z0, .ref 363, .float 0]) (S' := [.int (Int32.ofInt 0)]) rfl ?_
    exact hx_end rfl rfl
  · match i, hi with
    | 0, hi =>
      have hE : 0 = E := Option.some.inj hi
      subst hE
      refine ⟨lg, 6 + 0, ?_, by decide, fun h9 => absurd h9 (by decide)⟩
      refine hx_go 4 (pc' := 4) (L' := [.ref 0, .int z0, .ref 363, .float 0]) (S' := [.int z0, .ref 0, .int (Int32.ofInt 0), .ref 363]) rfl ?_
      refine hx_ex (a := 131) (b := 1) (h := 12) (as := [.ref 0, .int z0]) (S' := [.int (Int32.ofInt 0), .ref 363]) rfl rfl (fun _ _ => rfl) (by decide) (zargI_ok rfl (zrecv_of (ci := 9) (by decide) h_0)) rfl hr rfl ?_
      refine hx_go 2 (pc' := 14) (L' := [.ref 0, .int z0, .ref 363, .float 1]) (S' := [.int (Int32.ofInt 1)]) rfl ?_
      exact hx_end rfl rfl
    | n + 1, hi => exact absurd hi (by simp)
theorem hp_362 {z0 : Int32} (hw : ∀ Q : zO → zI → Prop, wz (lg, N, xs) 132 0 [.ref 0, .int z0, .float 0, .float 0] [] (jm J) Q = Q o (jm J1)) (mt : mtc [0] o th v) : ∃ lg' u, hx N xs 362 0 [.ref 0, .int z0, .ref 363, .float 0] [] J lg (jI th) J1 lg' u ∧ u ≤ 6 ∧ (th = 0 → lg' 363 0 = (jI v).toInt64) := by
  have hr := run_of hw
  rcases mt with ⟨rfl, rfl⟩ | ⟨i, E, hi, rfl, rfl⟩
  · have g0 : ∀ {u : Nat} {lg' : Nat → Nat → Int64}, hx N xs 362 7 [.ref 0, .int z0, .ref 363, .float 0] [.int (jI v), .int (Int32.ofInt 0), .ref 363] J1 lg (jI 0) J1 lg' u → hx N xs 362 0 [.ref 0, .int z0, .ref 363, .float 0] [] J lg (jI 0) J1 lg' (0 + u) := fun g => by
      refine hx_go 4 (pc' := 4) (L' := [.ref 0, .int z0, .ref 363, .float 0]) (S' := [.int z0, .ref 0, .int (Int32.ofInt 0), .ref 363]) rfl ?_
      exact hx_ok (a := 132) (b := 1) (as := [.ref 0, .int z0]) (S' := [.int (Int32.ofInt 0), .ref 363]) rfl rfl (fun _ _ => rfl) (by decide) (zargI_ok rfl (zrecv_of (ci := 9) (by decide) h_0)) rfl hr g
    refine ⟨zset lg 363 0 (jI v).toInt64, 0 + 0, g0 ?_, by decide, fun _ => zset363⟩
    refine hx_go 1 (pc' := 8) (L' := [.ref 0, .int z0, .ref 363, .float 0]) (S' := [.long (jI v).toInt64, .int (Int32.ofInt 0), .ref 363]) rfl ?_
    refine hx_ls rfl ?_
    refine hx_go 2 (pc' := 16) (L' := [.ref 0, .int z0, .ref 363, .float 0]) (S' := [.int (Int32.ofInt 0)]) rfl ?_
    exact hx_end rfl rfl
  · match i, hi with
    | 0, hi =>
      have hE : 0 = E := Option.some.inj hi
      subst hE
      refine ⟨lg, 6 + 0, ?_, by decide, fun h9 => absurd h9 (by decide)⟩
      refine hx_go 4 (pc' := 4) (L' := [.ref 0, .int z0, .ref 363, .float 0]) (S' := [.int z0, .ref 0, .int (Int32.ofInt 0), .ref 363]) rfl ?_
      refine hx_ex (a := 132) (b := 1) (h := 12) (as := [.ref 0, .int z0]) (S' := [.int (Int32.ofInt 0), .ref 363]) rfl rfl (fun _ _ => rfl) (by decide) (zargI_ok rfl (zrecv_of (ci := 9) (by decide) h_0)) rfl hr rfl ?_
      refine hx_go 2 (pc' := 14) (L' := [.ref 0, .int z0, .ref 363, .float 1]) (S' := [.int (Int32.ofInt 1)]) rfl ?_
      exact hx_end rfl rfl
    | n + 1, hi => exact absurd hi (by simp)
theorem hp_363 {z0 : Int32} (hw : ∀ Q : zO → zI → Prop, wz (lg, N, xs) 133 0 [.ref 0, .int z0] [] (jm J) Q = Q o (jm J1)) (mt : mtc [0] o th v) : ∃ lg' u, hx N xs 363 0 [.ref 0, .int z0, .ref 363, .float 0] [] J lg (jI th) J1 lg' u ∧ u ≤ 6 ∧ (th = 0 → lg' 363 0 = (jI v).toInt64) := by
  have hr := run_of hw
  rcases mt with ⟨rfl, rfl⟩ | ⟨i, E, hi, rfl, rfl⟩
  · have g0 : ∀ {u : Nat} {lg' : Nat → Nat → Int64}, hx N xs 363 7 [.ref 0, .int z0, .ref 363, .float 0] [.int (jI v), .int (Int32.ofInt 0), .ref 363] J1 lg (jI 0) J1 lg' u → hx N xs 363 0 [.ref 0, .int z0, .ref 363, .float 0] [] J lg (jI 0) J1 lg' (0 + u) := fun g => by
      refine hx_go 4 (pc' := 4) (L' := [.ref 0, .int z0, .ref 363, .float 0]) (S' := [.int z0, .ref 0, .int (Int32.ofInt 0), .ref 363]) rfl ?_
      exact hx_ok (a := 133) (b := 1) (as := [.ref 0, .int z0]) (S' := [.int (Int32.ofInt 0), .ref 363]) rfl rfl (fun _ _ => rfl) (by decide) (zargI_ok rfl (zrecv_of (ci := 9) (by decide) h_0)) rfl hr g
    refine ⟨zset lg 363 0 (jI v).toInt64, 0 + 0, g0 ?_, by decide, fun _ => zset363⟩
    refine hx_go 1 (pc' := 8) (L' := [.ref 0, .int z0, .ref 363, .float 0]) (S' := [.long (jI v).toInt64, .int (Int32.ofInt 0), .ref 363]) rfl ?_
    refine hx_ls rfl ?_
    refine hx_go 2 (pc' := 16) (L' := [.ref 0, .int z0, .ref 363, .float 0]) (S' := [.int (Int32.ofInt 0)]) rfl ?_
    exact hx_end rfl rfl
  · match i, hi with
    | 0, hi =>
      have hE : 0 = E := Option.some.inj hi
      subst hE
      refine ⟨lg, 6 + 0, ?_, by decide, fun h9 => absurd h9 (by decide)⟩
      refine hx_go 4 (pc' := 4) (L' := [.ref 0, .int z0, .ref 363, .float 0]) (S' := [.int z0, .ref 0, .int (Int32.ofInt 0), .ref 363]) rfl ?_
      refine hx_ex (a := 133) (b := 1) (h := 12) (as := [.ref 0, .int z0]) (S' := [.int (Int32.ofInt 0), .ref 363]) rfl rfl (fun _ _ => rfl) (by decide) (zargI_ok rfl (zrecv_of (ci := 9) (by decide) h_0)) rfl hr rfl ?_
      refine hx_go 2 (pc' := 14) (L' := [.ref 0, .int z0, .ref 363, .float 1]) (S' := [.int (Int32.ofInt 1)]) rfl ?_
      exact hx_end rfl rfl
    | n + 1, hi => exact absurd hi (by simp)
theorem hp_364 {z0 : Int32} (hw : ∀ Q : zO → zI → Prop, wz (lg, N, xs) 134 0 [.ref 0, .int z0] [] (jm J) Q = Q o (jm J1)) (mt : mtc [0] o th v) : ∃ lg' u, hx N xs 364 0 [.ref 0, .int z0, .ref 363, .float 0] [] J lg (jI th) J1 lg' u ∧ u ≤ 6 ∧ (th = 0 → lg' 363 0 = (jI v).toInt64) := by
  have hr := run_of hw
  rcases mt with ⟨rfl, rfl⟩ | ⟨i, E, hi, rfl, rfl⟩
  · have g0 : ∀ {u : Nat} {lg' : Nat → Nat → Int64}, hx N xs 364 7 [.ref 0, .int z0, .ref 363, .float 0] [.int (jI v), .int (Int32.ofInt 0), .ref 363] J1 lg (jI 0) J1 lg' u → hx N xs 364 0 [.ref 0, .int z0, .ref 363, .float 0] [] J lg (jI 0) J1 lg' (0 + u) := fun g => by
      refine hx_go 4 (pc' := 4) (L' := [.ref 0, .int z0, .ref 363, .float 0]) (S' := [.int z0, .ref 0, .int (Int32.ofInt 0), .ref 363]) rfl ?_
      exact hx_ok (a := 134) (b := 1) (as := [.ref 0, .int z0]) (S' := [.int (Int32.ofInt 0), .ref 363]) rfl rfl (fun _ _ => rfl) (by decide) (zargI_ok rfl (zrecv_of (ci := 9) (by decide) h_0)) rfl hr g
    refine ⟨zset lg 363 0 (jI v).toInt64, 0 + 0, g0 ?_, by decide, fun _ => zset363⟩
    refine hx_go 1 (pc' := 8) (L' := [.ref 0, .int z0, .ref 363, .float 0]) (S' := [.long (jI v).toInt64, .int (Int32.ofInt 0), .ref 363]) rfl ?_
    refine hx_ls rfl ?_
    refine hx_go 2 (pc' := 16) (L' := [.ref 0, .int z0, .ref 363, .float 0]) (S' := [.int (Int32.ofInt 0)]) rfl ?_
    exact hx_end rfl rfl
  · match i, hi with
    | 0, hi =>
      have hE : 0 = E := Option.some.inj hi
      subst hE
      refine ⟨lg, 6 + 0, ?_, by decide, fun h9 => absurd h9 (by decide)⟩
      refine hx_go 4 (pc' := 4) (L' := [.ref 0, .int z0, .ref 363, .float 0]) (S' := [.int z0, .ref 0, .int (Int32.ofInt 0), .ref 363]) rfl ?_
      refine hx_ex (a := 134) (b := 1) (h := 12) (as := [.ref 0, .int z0]) (S' := [.int (Int32.ofInt 0), .ref 363]) rfl rfl (fun _ _ => rfl) (by decide) (zargI_ok rfl (zrecv_of (ci := 9) (by decide) h_0)) rfl hr rfl ?_
      refine hx_go 2 (pc' := 14) (L' := [.ref 0, .int z0, .ref 363, .float 1]) (S' := [.int (Int32.ofInt 1)]) rfl ?_
      exact hx_end rfl rfl
    | n + 1, hi => exact absurd hi (by simp)
theorem hp_365 {z0 : Int32} (hw : ∀ Q : zO → zI → Prop, wz (lg, N, xs) 135 0 [.ref 0, .int z0] [] (jm J) Q = Q o (jm J1)) (mt : mtc [0] o th v) : ∃ lg' u, hx N xs 365 0 [.ref 0, .int z0, .ref 363, .float 0] [] J lg (jI th) J1 lg' u ∧ u ≤ 6 ∧ (th = 0 → lg' 363 0 = (jI v).toInt64) := by
  have hr := run_of hw
  rcases mt with ⟨rfl, rfl⟩ | ⟨i, E, hi, rfl, rfl⟩
  · have g0 : ∀ {u : Nat} {lg' : Nat → Nat → Int64}, hx N xs 365 7 [.ref 0, .int z0, .ref 363, .float 0] [.int (jI v), .int (Int32.ofInt 0), .ref 363] J1 lg (jI 0) J1 lg' u → hx N xs 365 0 [.ref 0, .int z0, .ref 363, .float 0] [] J lg (jI 0) J1 lg' (0 + u) := fun g => by
      refine hx_go 4 (pc' := 4) (L' := [.ref 0, .int z0, .ref 363, .float 0]) (S' := [.int z0, .ref 0, .int (Int32.ofInt 0), .ref 363]) rfl ?_
      exact hx_ok (a := 135) (b := 1) (as := [.ref 0, .int z0]) (S' := [.int (Int32.ofInt 0), .ref 363]) rfl rfl (fun _ _ => rfl) (by decide) (zargI_ok rfl (zrecv_of (ci := 9) (by decide) h_0)) rfl hr g
    refine ⟨zset lg 363 0 (jI v).toInt64, 0 + 0, g0 ?_, by decide, fun _ => zset363⟩
    refine hx_go 1 (pc' := 8) (L' := [.ref 0, .int z0, .ref 363, .float 0]) (S' := [.long (jI v).toInt64, .int (Int32.ofInt 0), .ref 363]) rfl ?_
    refine hx_ls rfl ?_
    refine hx_go 2 (pc' := 16) (L' := [.ref 0, .int z0, .ref 363, .float 0]) (S' := [.int (Int32.ofInt 0)]) rfl ?_
    exact hx_end rfl rfl
  · match i, hi with
    | 0, hi =>
      have hE : 0 = E := Option.some.inj hi
      subst hE
      refine ⟨lg, 6 + 0, ?_, by decide, fun h9 => absurd h9 (by decide)⟩
      refine hx_go 4 (pc' := 4) (L' := [.ref 0, .int z0, .ref 363, .float 0]) (S' := [.int z0, .ref 0, .int (Int32.ofInt 0), .ref 363]) rfl ?_
      refine hx_ex (a := 135) (b := 1) (h := 12) (as := [.ref 0, .int z0]) (S' := [.int (Int32.ofInt 0), .ref 363]) rfl rfl (fun _ _ => rfl) (by decide) (zargI_ok rfl (zrecv_of (ci := 9) (by decide) h_0)) rfl hr rfl ?_
      refine hx_go 2 (pc' := 14) (L' := [.ref 0, .int z0, .ref 363, .float 1]) (S' := [.int (Int32.ofInt 1)]) rfl ?_
      exact hx_end rfl rfl
    | n + 1, hi => exact absurd hi (by simp)
theorem hp_366 {z0 : Int32} (hw : ∀ Q : zO → zI → Prop, wz (lg, N, xs) 136 0 [.ref 0, .int z0] [] (jm J) Q = Q o (jm J1)) (mt : mtc [0] o th v) : ∃ lg' u, hx N xs 366 0 [.ref 0, .int z0, .ref 363, .float 0] [] J lg (jI th) J1 lg' u ∧ u ≤ 6 ∧ (th = 0 → lg' 363 0 = (if jI v = 0 then 0 else 1 : Int64)) := by
  have hr := run_of hw
  rcases mt with ⟨rfl, rfl⟩ | ⟨i, E, hi, rfl, rfl⟩
  · have g0 : ∀ {u : Nat} {lg' : Nat → Nat → Int64}, hx N xs 366 7 [.ref 0, .int z0, .ref 363, .float 0] [.int (jI v), .int (Int32.ofInt 0), .ref 363] J1 lg (jI 0) J1 lg' u → hx N xs 366 0 [.ref 0, .int z0, .ref 363, .float 0] [] J lg (jI 0) J1 lg' (0 + u) := fun g => by
      refine hx_go 4 (pc' := 4) (L' := [.ref 0, .int z0, .ref 363, .float 0]) (S' := [.int z0, .ref 0, .int (Int32.ofInt 0), .ref 363]) rfl ?_
      exact hx_ok (a := 136) (b := 1) (as := [.ref 0, .int z0]) (S' := [.int (Int32.ofInt 0), .ref 363]) rfl rfl (fun _ _ => rfl) (by decide) (zargI_ok rfl (zrecv_of (ci := 9) (by decide) h_0)) rfl hr g
    by_cases hv0 : jI v = 0
    · refine ⟨zset lg 363 0 0, 0 + 0, g0 ?_, by decide, fun _ => by rw [if_pos hv0]; exact zset363⟩
      refine hx_e0 rfl hv0 ?_
      refine hx_go 1 (pc' := 15) (L' := [.ref 0, .int z0, .ref 363, .float 0]) (S' := [.long 0, .int (Int32.ofInt 0), .ref 363]) rfl ?_
      refine hx_ls rfl ?_
      refine hx_go 2 (pc' := 23) (L' := [.ref 0, .int z0, .ref 363, .float 0]) (S' := [.int (Int32.ofInt 0)]) rfl ?_
      exact hx_end rfl rfl
    · refine ⟨zset lg 363 0 1, 0 + 0, g0 ?_, by decide, fun _ => by rw [if_neg hv0]; exact zset363⟩
      refine hx_e1 rfl hv0 ?_
      refine hx_go 2 (pc' := 15) (L' := [.ref 0, .int z0, .ref 363, .float 0]) (S' := [.long 1, .int (Int32.ofInt 0), .ref 363]) rfl ?_
      refine hx_ls rfl ?_
      refine hx_go 2 (pc' := 23) (L' := [.ref 0, .int z0, .ref 363, .float 0]) (S' := [.int (Int32.ofInt 0)]) rfl ?_
      exact hx_end rfl rfl
  · match i, hi with
    | 0, hi =>
      have hE : 0 = E := Option.some.inj hi
      subst hE
      refine ⟨lg, 6 + 0, ?_, by decide, fun h9 => absurd h9 (by decide)⟩
      refine hx_go 4 (pc' := 4) (L' := [.ref 0, .int z0, .ref 363, .float 0]) (S' := [.int z0, .ref 0, .int (Int32.ofInt 0), .ref 363]) rfl ?_
      refine hx_ex (a := 136) (b := 1) (h := 19) (as := [.ref 0, .int z0]) (S' := [.int (Int32.ofInt 0), .ref 363]) rfl rfl (fun _ _ => rfl) (by decide) (zargI_ok rfl (zrecv_of (ci := 9) (by decide) h_0)) rfl hr rfl ?_
      refine hx_go 2 (pc' := 21) (L' := [.ref 0, .int z0, .ref 363, .float 1]) (S' := [.int (Int32.ofInt 1)]) rfl ?_
      exact hx_end rfl rfl
    | n + 1, hi => exact absurd hi (by simp)
theorem hp_367 {z0 : Int32} (hw : ∀ Q : zO → zI → Prop, wz (lg, N, xs) 137 0 [.ref 0, .int z0, .float 0] [] (jm J) Q = Q o (jm J1)) (mt : mtc [0, 2, 3] o th v) : ∃ lg' u, hx N xs 367 0 [.ref 0, .int z0, .ref 363, .float 0] [] J lg (jI th) J1 lg' u ∧ u ≤ 6 ∧ (th = 0 → lg' 363 0 = (jI v).toInt64) := by
  have hr := run_of hw
  rcases mt with ⟨rfl, rfl⟩ | ⟨i, E, hi, rfl, rfl⟩
  · have g0 : ∀ {u : Nat} {lg' : Nat → Nat → Int64}, hx N xs 367 7 [.ref 0, .int z0, .ref 363, .float 0] [.int (jI v), .int (Int32.ofInt 0), .ref 363] J1 lg (jI 0) J1 lg' u → hx N xs 367 0 [.ref 0, .int z0, .ref 363, .float 0] [] J lg (jI 0) J1 lg' (0 + u) := fun g => by
      refine hx_go 4 (pc' := 4) (L' := [.ref 0, .int z0, .ref 363, .float 0]) (S' := [.int z0, .ref 0, .int (Int32.ofInt 0), .ref 363]) rfl ?_
      exact hx_ok (a := 137) (b := 1) (as := [.ref 0, .int z0]) (S' := [.int (Int32.ofInt 0), .ref 363]) rfl rfl (fun _ _ => rfl) (by decide) (zargI_ok rfl (zrecv_of (ci := 9) (by decide) h_0)) rfl hr g
    refine ⟨zset lg 363 0 (jI v).toInt64, 0 + 0, g0 ?_, by decide, fun _ => zset363⟩
    refine hx_go 1 (pc' := 8) (L' := [.ref 0, .int z0, .ref 363, .float 0]) (S' := [.long (jI v).toInt64, .int (Int32.ofInt 0), .ref 363]) rfl ?_
    refine hx_ls rfl ?_
    refine hx_go 2 (pc' := 22) (L' := [.ref 0, .int z0, .ref 363, .float 0]) (S' := [.int (Int32.ofInt 0)]) rfl ?_
    exact hx_end rfl rfl
  · match i, hi with
    | 0, hi =>
      have hE : 0 = E := Option.some.inj hi
      subst hE
      refine ⟨lg, 6 + 0, ?_, by decide, fun h9 => absurd h9 (by decide)⟩
      refine hx_go 4 (pc' := 4) (L' := [.ref 0, .int z0, .ref 363, .float 0]) (S' := [.int z0, .ref 0, .int (Int32.ofInt 0), .ref 363]) rfl ?_
      refine hx_ex (a := 137) (b := 1) (h := 12) (as := [.ref 0, .int z0]) (S' := [.int (Int32.ofInt 0), .ref 363]) rfl rfl (fun _ _ => rfl) (by decide) (zargI_ok rfl (zrecv_of (ci := 9) (by decide) h_0)) rfl hr rfl ?_
      refine hx_go 2 (pc' := 14) (L' := [.ref 0, .int z0, .ref 363, .float 1]) (S' := [.int (Int32.ofInt 1)]) rfl ?_
      exact hx_end rfl rfl
    | 1, hi =>
      have hE : 2 = E := Option.some.inj hi
      subst hE
      refine ⟨lg, 6 + 0, ?_, by decide, fun h9 => absurd h9 (by decide)⟩
      refine hx_go 4 (pc' := 4) (L' := [.ref 0, .int z0, .ref 363, .float 0]) (S' := [.int z0, .ref 0, .int (Int32.ofInt 0), .ref 363]) rfl ?_
      refine hx_ex (a := 137) (b := 1) (h := 15) (as := [.ref 0, .int z0]) (S' := [.int (Int32.ofInt 0), .ref 363]) rfl rfl (fun _ _ => rfl) (by decide) (zargI_ok rfl (zrecv_of (ci := 9) (by decide) h_0)) rfl hr rfl ?_
      refine hx_go 2 (pc' := 17) (L' := [.ref 0, .int z0, .ref 363, .float 1]) (S' := [.int (Int32.ofInt 2)]) rfl ?_
      exact hx_end rfl rfl
    | 2, hi =>
      have hE : 3 = E := Option.some.inj hi
      subst hE
      refine ⟨lg, 6 + 0, ?_, by decide, fun h9 => absurd h9 (by decide)⟩
      refine hx_go 4 (pc' := 4) (L' := [.ref 0, .int z0, .ref 363, .float 0]) (S' := [.int z0, .ref 0, .int (Int32.ofInt 0), .ref 363]) rfl ?_
      refine hx_ex (a := 137) (b := 1) (h := 18) (as := [.ref 0, .int z0]) (S' := [.int (Int32.ofInt 0), .ref 363]) rfl rfl (fun _ _ => rfl) (by decide) (zargI_ok rfl (zrecv_of (ci := 9) (by decide) h_0)) rfl hr rfl ?_
      refine hx_go 2 (pc' := 20) (L' := [.ref 0, .int z0, .ref 363, .float 1]) (S' := [.int (Int32.ofInt 3)]) rfl ?_
      exact hx_end rfl rfl
    | n + 3, hi => exact absurd hi (by simp)
theorem hp_368 {z0 : Int32} (hw : ∀ Q : zO → zI → Prop, wz (lg, N, xs) 139 0 [.ref 0, .int z0] [] (jm J) Q = Q o (jm J1)) (mt : mtc [1] o th v) : ∃ lg' u, hx N xs 368 0 [.ref 0, .int z0, .ref 363, .float 0] [] J lg (jI th) J1 lg' u ∧ u ≤ 6 ∧ (th = 0 → lg' 363 0 = (jI v).toInt64) := by
  have hr := run_of hw
  rcases mt with ⟨rfl, rfl⟩ | ⟨i, E, hi, rfl, rfl⟩
  · have g0 : ∀ {u : Nat} {lg' : Nat → Nat → Int64}, hx N xs 368 7 [.ref 0, .int z0, .ref 363, .float 0] [.int (jI v), .int (Int32.ofInt 0), .ref 363] J1 lg (jI 0) J1 lg' u → hx N xs 368 0 [.ref 0, .int z0, .ref 363, .float 0] [] J lg (jI 0) J1 lg' (0 + u) := fun g => by
      refine hx_go 4 (pc' := 4) (L' := [.ref 0, .int z0, .ref 363, .float 0]) (S' := [.int z0, .ref 0, .int (Int32.ofInt 0), .ref 363]) rfl ?_
      exact hx_ok (a := 139) (b := 1) (as := [.ref 0, .int z0]) (S' := [.int (Int32.ofInt 0), .ref 363]) rfl rfl (fun _ _ => rfl) (by decide) (zargI_ok rfl (zrecv_of (ci := 9) (by decide) h_0)) rfl hr g
    refine ⟨zset lg 363 0 (jI v).toInt64, 0 + 0, g0 ?_, by decide, fun _ => zset363⟩
    refine hx_go 1 (pc' := 8) (L' := [.ref 0, .int z0, .ref 363, .float 0]) (S' := [.long (jI v).toInt64, .int (Int32.ofInt 0), .ref 363]) rfl ?_
    refine hx_ls rfl ?_
    refine hx_go 2 (pc' := 16) (L' := [.ref 0, .int z0, .ref 363, .float 0]) (S' := [.int (Int32.ofInt 0)]) rfl ?_
    exact hx_end rfl rfl
  · match i, hi with
    | 0, hi =>
      have hE : 1 = E := Option.some.inj hi
      subst hE
      refine ⟨lg, 6 + 0, ?_, by decide, fun h9 => absurd h9 (by decide)⟩
      refine hx_go 4 (pc' := 4) (L' := [.ref 0, .int z0, .ref 363, .float 0]) (S' := [.int z0, .ref 0, .int (Int32.ofInt 0), .ref 363]) rfl ?_
      refine hx_ex (a := 139) (b := 1) (h := 12) (as := [.ref 0, .int z0]) (S' := [.int (Int32.ofInt 0), .ref 363]) rfl rfl (fun _ _ => rfl) (by decide) (zargI_ok rfl (zrecv_of (ci := 9) (by decide) h_0)) rfl hr rfl ?_
      refine hx_go 2 (pc' := 14) (L' := [.ref 0, .int z0, .ref 363, .float 1]) (S' := [.int (Int32.ofInt 1)]) rfl ?_
      exact hx_end rfl rfl
    | n + 1, hi => exact absurd hi (by simp)
theorem hp_369 {z0 : Int32} (hw : ∀ Q : zO → zI → Prop, wz (lg, N, xs) 140 0 [.ref 0, .int z0] [] (jm J) Q = Q o (jm J1)) (mt : mtc [0] o th v) : ∃ lg' u, hx N xs 369 0 [.ref 0, .int z0, .ref 363, .float 0] [] J lg (jI th) J1 lg' u ∧ u ≤ 6 ∧ (th = 0 → lg' 363 0 = (jI v).toInt64) := by
  have hr := run_of hw
  rcases mt with ⟨rfl, rfl⟩ | ⟨i, E, hi, rfl, rfl⟩
  · have g0 : ∀ {u : Nat} {lg' : Nat → Nat → Int64}, hx N xs 369 7 [.ref 0, .int z0, .ref 363, .float 0] [.int (jI v), .int (Int32.ofInt 0), .ref 363] J1 lg (jI 0) J1 lg' u → hx N xs 369 0 [.ref 0, .int z0, .ref 363, .float 0] [] J lg (jI 0) J1 lg' (0 + u) := fun g => by
      refine hx_go 4 (pc' := 4) (L' := [.ref 0, .int z0, .ref 363, .float 0]) (S' := [.int z0, .ref 0, .int (Int32.ofInt 0), .ref 363]) rfl ?_
      exact hx_ok (a := 140) (b := 1) (as := [.ref 0, .int z0]) (S' := [.int (Int32.ofInt 0), .ref 363]) rfl rfl (fun _ _ => rfl) (by decide) (zargI_ok rfl (zrecv_of (ci := 9) (by decide) h_0)) rfl hr g
    refine ⟨zset lg 363 0 (jI v).toInt64, 0 + 0, g0 ?_, by decide, fun _ => zset363⟩
    refine hx_go 1 (pc' := 8) (L' := [.ref 0, .int z0, .ref 363, .float 0]) (S' := [.long (jI v).toInt64, .int (Int32.ofInt 0), .ref 363]) rfl ?_
    refine hx_ls rfl ?_
    refine hx_go 2 (pc' := 16) (L' := [.ref 0, .int z0, .ref 363, .float 0]) (S' := [.int (Int32.ofInt 0)]) rfl ?_
    exact hx_end rfl rfl
  · match i, hi with
    | 0, hi =>
      have hE : 0 = E := Option.some.inj hi
      subst hE
      refine ⟨lg, 6 + 0, ?_, by decide, fun h9 => absurd h9 (by decide)⟩
      refine hx_go 4 (pc' := 4) (L' := [.ref 0, .int z0, .ref 363, .float 0]) (S' := [.int z0, .ref 0, .int (Int32.ofInt 0), .ref 363]) rfl ?_
      refine hx_ex (a := 140) (b := 1) (h := 12) (as := [.ref 0, .int z0]) (S' := [.int (Int32.ofInt 0), .ref 363]) rfl rfl (fun _ _ => rfl) (by decide) (zargI_ok rfl (zrecv_of (ci := 9) (by decide) h_0)) rfl hr rfl ?_
      refine hx_go 2 (pc' := 14) (L' := [.ref 0, .int z0, .ref 363, .float 1]) (S' := [.int (Int32.ofInt 1)]) rfl ?_
      exact hx_end rfl rfl
    | n + 1, hi => exact absurd hi (by simp)
theorem hp_370 {z0 : Int32} (hw : ∀ Q : zO → zI → Prop, wz (lg, N, xs) 141 0 [.ref 0, .int z0] [] (jm J) Q = Q o (jm J1)) (mt : mtc [0] o th v) : ∃ lg' u, hx N xs 370 0 [.ref 0, .int z0, .ref 363, .float 0] [] J lg (jI th) J1 lg' u ∧ u ≤ 6 ∧ (th = 0 → lg' 363 0 = (jI v).toInt64) := by
  have hr := run_of hw
  rcases mt with ⟨rfl, rfl⟩ | ⟨i, E, hi, rfl, rfl⟩
  · have g0 : ∀ {u : Nat} {lg' : Nat → Nat → Int64}, hx N xs 370 7 [.ref 0, .int z0, .ref 363, .float 0] [.int (jI v), .int (Int32.ofInt 0), .ref 363] J1 lg (jI 0) J1 lg' u → hx N xs 370 0 [.ref 0, .int z0, .ref 363, .float 0] [] J lg (jI 0) J1 lg' (0 + u) := fun g => by
      refine hx_go 4 (pc' := 4) (L' := [.ref 0, .int z0, .ref 363, .float 0]) (S' := [.int z0, .ref 0, .int (Int32.ofInt 0), .ref 363]) rfl ?_
      exact hx_ok (a := 141) (b := 1) (as := [.ref 0, .int z0]) (S' := [.int (Int32.ofInt 0), .ref 363]) rfl rfl (fun _ _ => rfl) (by decide) (zargI_ok rfl (zrecv_of (ci := 9) (by decide) h_0)) rfl hr g
    refine ⟨zset lg 363 0 (jI v).toInt64, 0 + 0, g0 ?_, by decide, fun _ => zset363⟩
    refine hx_go 1 (pc' := 8) (L' := [.ref 0, .int z0, .ref 363, .float 0]) (S' := [.long (jI v).toInt64, .int (Int32.ofInt 0), .ref 363]) rfl ?_
    refine hx_ls rfl ?_
    refine hx_go 2 (pc' := 16) (L' := [.ref 0, .int z0, .ref 363, .float 0]) (S' := [.int (Int32.ofInt 0)]) rfl ?_
    exact hx_end rfl rfl
  · match i, hi with
    | 0, hi =>
      have hE : 0 = E := Option.some.inj hi
      subst hE
      refine ⟨lg, 6 + 0, ?_, by decide, fun h9 => absurd h9 (by decide)⟩
      refine hx_go 4 (pc' := 4) (L' := [.ref 0, .int z0, .ref 363, .float 0]) (S' := [.int z0, .ref 0, .int (Int32.ofInt 0), .ref 363]) rfl ?_
      refine hx_ex (a := 141) (b := 1) (h := 12) (as := [.ref 0, .int z0]) (S' := [.int (Int32.ofInt 0), .ref 363]) rfl rfl (fun _ _ => rfl) (by decide) (zargI_ok rfl (zrecv_of (ci := 9) (by decide) h_0)) rfl hr rfl ?_
      refine hx_go 2 (pc' := 14) (L' := [.ref 0, .int z0, .ref 363, .float 1]) (S' := [.int (Int32.ofInt 1)]) rfl ?_
      exact hx_end rfl rfl
    | n + 1, hi => exact absurd hi (by simp)
theorem hp_371 {z0 z1 : Int32} (hw : ∀ Q : zO → zI → Prop, wz (lg, N, xs) 142 0 [.ref 0, .int z0, .int z1] [] (jm J) Q = Q o (jm J1)) (mt : mtc [0, 1] o th v) : ∃ lg' u, hx N xs 371 0 [.ref 0, .int z0, .int z1, .ref 363, .float 0] [] J lg (jI th) J1 lg' u ∧ u ≤ 6 ∧ (th = 0 → lg' 363 0 = (jI v).toInt64) := by
  have hr := run_of hw
  rcases mt with ⟨rfl, rfl⟩ | ⟨i, E, hi, rfl, rfl⟩
  · have g0 : ∀ {u : Nat} {lg' : Nat → Nat → Int64}, hx N xs 371 8 [.ref 0, .int z0, .int z1, .ref 363, .float 0] [.int (jI v), .int (Int32.ofInt 0), .ref 363] J1 lg (jI 0) J1 lg' u → hx N xs 371 0 [.ref 0, .int z0, .int z1, .ref 363, .float 0] [] J lg (jI 0) J1 lg' (0 + u) := fun g => by
      refine hx_go 5 (pc' := 5) (L' := [.ref 0, .int z0, .int z1, .ref 363, .float 0]) (S' := [.int z1, .int z0, .ref 0, .int (Int32.ofInt 0), .ref 363]) rfl ?_
      exact hx_ok (a := 142) (b := 2) (as := [.ref 0, .int z0, .int z1]) (S' := [.int (Int32.ofInt 0), .ref 363]) rfl rfl (fun _ _ => rfl) (by decide) (zargI_ok rfl (zrecv_of (ci := 9) (by decide) h_0)) rfl hr g
    refine ⟨zset lg 363 0 (jI v).toInt64, 0 + 0, g0 ?_, by decide, fun _ => zset363⟩
    refine hx_go 1 (pc' := 9) (L' := [.ref 0, .int z0, .int z1, .ref 363, .float 0]) (S' := [.long (jI v).toInt64, .int (Int32.ofInt 0), .ref 363]) rfl ?_
    refine hx_ls rfl ?_
    refine hx_go 2 (pc' := 22) (L' := [.ref 0, .int z0, .int z1, .ref 363, .float 0]) (S' := [.int (Int32.ofInt 0)]) rfl ?_
    exact hx_end rfl rfl
  · match i, hi with
    | 0, hi =>
      have hE : 0 = E := Option.some.inj hi
      subst hE
      refine ⟨lg, 6 + 0, ?_, by decide, fun h9 => absurd h9 (by decide)⟩
      refine hx_go 5 (pc' := 5) (L' := [.ref 0, .int z0, .int z1, .ref 363, .float 0]) (S' := [.int z1, .int z0, .ref 0, .int (Int32.ofInt 0), .ref 363]) rfl ?_
      refine hx_ex (a := 142) (b := 2) (h := 13) (as := [.ref 0, .int z0, .int z1]) (S' := [.int (Int32.ofInt 0), .ref 363]) rfl rfl (fun _ _ => rfl) (by decide) (zargI_ok rfl (zrecv_of (ci := 9) (by decide) h_0)) rfl hr rfl ?_
      refine hx_go 2 (pc' := 16) (L' := [.ref 0, .int z0, .int z1, .ref 363, .float 1]) (S' := [.int (Int32.ofInt 1)]) rfl ?_
      exact hx_end rfl rfl
    | 1, hi =>
      have hE : 1 = E := Option.some.inj hi
      subst hE
      refine ⟨lg, 6 + 0, ?_, by decide, fun h9 => absurd h9 (by decide)⟩
      refine hx_go 5 (pc' := 5) (L' := [.ref 0, .int z0, .int z1, .ref 363, .float 0]) (S' := [.int z1, .int z0, .ref 0, .int (Int32.ofInt 0), .ref 363]) rfl ?_
      refine hx_ex (a := 142) (b := 2) (h := 17) (as := [.ref 0, .int z0, .int z1]) (S' := [.int (Int32.ofInt 0), .ref 363]) rfl rfl (fun _ _ => rfl) (by decide) (zargI_ok rfl (zrecv_of (ci := 9) (by decide) h_0)) rfl hr rfl ?_
      refine hx_go 2 (pc' := 20) (L' := [.ref 0, .int z0, .int z1, .ref 363, .float 1]) (S' := [.int (Int32.ofInt 2)]) rfl ?_
      exact hx_end rfl rfl
    | n + 2, hi => exact absurd hi (by simp)
theorem hp_372 {z0 : Int32} (hw : ∀ Q : zO → zI → Prop, wz (lg, N, xs) 143 0 [.ref 0, .int z0] [] (jm J) Q = Q o (jm J1)) (mt : mtc [0] o th v) : ∃ lg' u, hx N xs 372 0 [.ref 0, .int z0, .ref 363, .float 0] [] J lg (jI th) J1 lg' u ∧ u ≤ 6 ∧ (th = 0 → lg' 363 0 = (jI v).toInt64) := by
  have hr := run_of hw
  rcases mt with ⟨rfl, rfl⟩ | ⟨i, E, hi, rfl, rfl⟩
  · have g0 : ∀ {u : Nat} {lg' : Nat → Nat → Int64}, hx N xs 372 7 [.ref 0, .int z0, .ref 363, .float 0] [.int (jI v), .int (Int32.ofInt 0), .ref 363] J1 lg (jI 0) J1 lg' u → hx N xs 372 0 [.ref 0, .int z0, .ref 363, .float 0] [] J lg (jI 0) J1 lg' (0 + u) := fun g => by
      refine hx_go 4 (pc' := 4) (L' := [.ref 0, .int z0, .ref 363, .float 0]) (S' := [.int z0, .ref 0, .int (Int32.ofInt 0), .ref 363]) rfl ?_
      exact hx_ok (a := 143) (b := 1) (as := [.ref 0, .int z0]) (S' := [.int (Int32.ofInt 0), .ref 363]) rfl rfl (fun _ _ => rfl) (by decide) (zargI_ok rfl (zrecv_of (ci := 9) (by decide) h_0)) rfl hr g
    refine ⟨zset lg 363 0 (jI v).toInt64, 0 + 0, g0 ?_, by decide, fun _ => zset363⟩
    refine hx_go 1 (pc' := 8) (L' := [.ref 0, .int z0, .ref 363, .float 0]) (S' := [.long (jI v).toInt64, .int (Int32.ofInt 0), .ref 363]) rfl ?_
    refine hx_ls rfl ?_
    refine hx_go 2 (pc' := 16) (L' := [.ref 0, .int z0, .ref 363, .float 0]) (S' := [.int (Int32.ofInt 0)]) rfl ?_
    exact hx_end rfl rfl
  · match i, hi with
    | 0, hi =>
      have hE : 0 = E := Option.some.inj hi
      subst hE
      refine ⟨lg, 6 + 0, ?_, by decide, fun h9 => absurd h9 (by decide)⟩
      refine hx_go 4 (pc' := 4) (L' := [.ref 0, .int z0, .ref 363, .float 0]) (S' := [.int z0, .ref 0, .int (Int32.ofInt 0), .ref 363]) rfl ?_
      refine hx_ex (a := 143) (b := 1) (h := 12) (as := [.ref 0, .int z0]) (S' := [.int (Int32.ofInt 0), .ref 363]) rfl rfl (fun _ _ => rfl) (by decide) (zargI_ok rfl (zrecv_of (ci := 9) (by decide) h_0)) rfl hr rfl ?_
      refine hx_go 2 (pc' := 14) (L' := [.ref 0, .int z0, .ref 363, .float 1]) (S' := [.int (Int32.ofInt 1)]) rfl ?_
      exact hx_end rfl rfl
    | n + 1, hi => exact absurd hi (by simp)
theorem hp_373 {z0 z1 z2 : Int32} (hw : ∀ Q : zO → zI → Prop, wz (lg, N, xs) 144 0 [.ref 0, .int z0, .int z1, .int z2] [] (jm J) Q = Q o (jm J1)) (mt : mtc [0, 1] o th v) : ∃ lg' u, hx N xs 373 0 [.ref 0, .int z0, .int z1, .int z2, .ref 363, .float 0] [] J lg (jI th) J1 lg' u ∧ u ≤ 6 ∧ (th = 0 → lg' 363 0 = (jI v).toInt64) := by
  have hr := run_of hw
  rcases mt with ⟨rfl, rfl⟩ | ⟨i, E, hi, rfl, rfl⟩
  · have g0 : ∀ {u : Nat} {lg' : Nat → Nat → Int64}, hx N xs 373 10 [.ref 0, .int z0, .int z1, .int z2, .ref 363, .float 0] [.int (jI v), .int (Int32.ofInt 0), .ref 363] J1 lg (jI 0) J1 lg' u → hx N xs 373 0 [.ref 0, .int z0, .int z1, .int z2, .ref 363, .float 0] [] J lg (jI 0) J1 lg' (0 + u) := fun g => by
      refine hx_go 6 (pc' := 7) (L' := [.ref 0, .int z0, .int z1, .int z2, .ref 363, .float 0]) (S' := [.int z2, .int z1, .int z0, .ref 0, .int (Int32.ofInt 0), .ref 363]) rfl ?_
      exact hx_ok (a := 144) (b := 3) (as := [.ref 0, .int z0, .int z1, .int z2]) (S' := [.int (Int32.ofInt 0), .ref 363]) rfl rfl (fun _ _ => rfl) (by decide) (zargI_ok rfl (zrecv_of (ci := 9) (by decide) h_0)) rfl hr g
    refine ⟨zset lg 363 0 (jI v).toInt64, 0 + 0, g0 ?_, by decide, fun _ => zset363⟩
    refine hx_go 1 (pc' := 11) (L' := [.ref 0, .int z0, .int z1, .int z2, .ref 363, .float 0]) (S' := [.long (jI v).toInt64, .int (Int32.ofInt 0), .ref 363]) rfl ?_
    refine hx_ls rfl ?_
    refine hx_go 2 (pc' := 24) (L' := [.ref 0, .int z0, .int z1, .int z2, .ref 363, .float 0]) (S' := [.int (Int32.ofInt 0)]) rfl ?_
    exact hx_end rfl rfl
  · match i, hi with
    | 0, hi =>
      have hE : 0 = E := Option.some.inj hi
      subst hE
      refine ⟨lg, 6 + 0, ?_, by decide, fun h9 => absurd h9 (by decide)⟩
      refine hx_go 6 (pc' := 7) (L' := [.ref 0, .int z0, .int z1, .int z2, .ref 363, .float 0]) (S' := [.int z2, .int z1, .int z0, .ref 0, .int (Int32.ofInt 0), .ref 363]) rfl ?_
      refine hx_ex (a := 144) (b := 3) (h := 15) (as := [.ref 0, .int z0, .int z1, .int z2]) (S' := [.int (Int32.ofInt 0), .ref 363]) rfl rfl (fun _ _ => rfl) (by decide) (zargI_ok rfl (zrecv_of (ci := 9) (by decide) h_0)) rfl hr rfl ?_
      refine hx_go 2 (pc' := 18) (L' := [.ref 0, .int z0, .int z1, .int z2, .ref 363, .float 1]) (S' := [.int (Int32.ofInt 1)]) rfl ?_
      exact hx_end rfl rfl
    | 1, hi =>
      have hE : 1 = E := Option.some.inj hi
      subst hE
      refine ⟨lg, 6 + 0, ?_, by decide, fun h9 => absurd h9 (by decide)⟩
      refine hx_go 6 (pc' := 7) (L' := [.ref 0, .int z0, .int z1, .int z2, .ref 363, .float 0]) (S' := [.int z2, .int z1, .int z0, .ref 0, .int (Int32.ofInt 0), .ref 363]) rfl ?_
      refine hx_ex (a := 144) (b := 3) (h := 19) (as := [.ref 0, .int z0, .int z1, .int z2]) (S' := [.int (Int32.ofInt 0), .ref 363]) rfl rfl (fun _ _ => rfl) (by decide) (zargI_ok rfl (zrecv_of (ci := 9) (by decide) h_0)) rfl hr rfl ?_
      refine hx_go 2 (pc' := 22) (L' := [.ref 0, .int z0, .int z1, .int z2, .ref 363, .float 1]) (S' := [.int (Int32.ofInt 2)]) rfl ?_
      exact hx_end rfl rfl
    | n + 2, hi => exact absurd hi (by simp)
theorem hp_374 {z0 z1 z2 z3 : Int32} (hw : ∀ Q : zO → zI → Prop, wz (lg, N, xs) 145 0 [.ref 0, .int z0, .int z1, .int z2, .int z3] [] (jm J) Q = Q o (jm J1)) (mt : mtc [0, 1] o th v) : ∃ lg' u, hx N xs 374 0 [.ref 0, .int z0, .int z1, .int z2, .int z3, .ref 363, .float 0] [] J lg (jI th) J1 lg' u ∧ u ≤ 6 ∧ (th = 0 → lg' 363 0 = (jI v).toInt64) := by
  have hr := run_of hw
  rcases mt with ⟨rfl, rfl⟩ | ⟨i, E, hi, rfl, rfl⟩
  · have g0 : ∀ {u : Nat} {lg' : Nat → Nat → Int64}, hx N xs 374 12 [.ref 0, .int z0, .int z1, .int z2, .int z3, .ref 363, .float 0] [.int (jI v), .int (Int32.ofInt 0), .ref 363] J1 lg (jI 0) J1 lg' u → hx N xs 374 0 [.ref 0, .int z0, .int z1, .int z2, .int z3, .ref 363, .float 0] [] J lg (jI 0) J1 lg' (0 + u) := fun g => by
      refine hx_go 7 (pc' := 9) (L' := [.ref 0, .int z0, .int z1, .int z2, .int z3, .ref 363, .float 0]) (S' := [.int z3, .int z2, .int z1, .int z0, .ref 0, .int (Int32.ofInt 0), .ref 363]) rfl ?_
      exact hx_ok (a := 145) (b := 4) (as := [.ref 0, .int z0, .int z1, .int z2, .int z3]) (S' := [.int (Int32.ofInt 0), .ref 363]) rfl rfl (fun _ _ => rfl) (by decide) (zargI_ok rfl (zrecv_of (ci := 9) (by decide) h_0)) rfl hr g
    refine ⟨zset lg 363 0 (jI v).toInt64, 0 + 0, g0 ?_, by decide, fun _ => zset363⟩
    refine hx_go 1 (pc' := 13) (L' := [.ref 0, .int z0, .int z1, .int z2, .int z3, .ref 363, .float 0]) (S' := [.long (jI v).toInt64, .int (Int32.ofInt 0), .ref 363]) rfl ?_
    refine hx_ls rfl ?_
    refine hx_go 2 (pc' := 26) (L' := [.ref 0, .int z0, .int z1, .int z2, .int z3, .ref 363, .float 0]) (S' := [.int (Int32.ofInt 0)]) rfl ?_
    exact hx_end rfl rfl
  · match i, hi with
    | 0, hi =>
      have hE : 0 = E := Option.some.inj hi
      subst hE
      refine ⟨lg, 6 + 0, ?_, by decide, fun h9 => absurd h9 (by decide)⟩
      refine hx_go 7 (pc' := 9) (L' := [.ref 0, .int z0, .int z1, .int z2, .int z3, .ref 363, .float 0]) (S' := [.int z3, .int z2, .int z1, .int z0, .ref 0, .int (Int32.ofInt 0), .ref 363]) rfl ?_
      refine hx_ex (a := 145) (b := 4) (h := 17) (as := [.ref 0, .int z0, .int z1, .int z2, .int z3]) (S' := [.int (Int32.ofInt 0), .ref 363]) rfl rfl (fun _ _ => rfl) (by decide) (zargI_ok rfl (zrecv_of (ci := 9) (by decide) h_0)) rfl hr rfl ?_
      refine hx_go 2 (pc' := 20) (L' := [.ref 0, .int z0, .int z1, .int z2, .int z3, .ref 363, .float 1]) (S' := [.int (Int32.ofInt 1)]) rfl ?_
      exact hx_end rfl rfl
    | 1, hi =>
      have hE : 1 = E := Option.some.inj hi
      subst hE
      refine ⟨lg, 6 + 0, ?_, by decide, fun h9 => absurd h9 (by decide)⟩
      refine hx_go 7 (pc' := 9) (L' := [.ref 0, .int z0, .int z1, .int z2, .int z3, .ref 363, .float 0]) (S' := [.int z3, .int z2, .int z1, .int z0, .ref 0, .int (Int32.ofInt 0), .ref 363]) rfl ?_
      refine hx_ex (a := 145) (b := 4) (h := 21) (as := [.ref 0, .int z0, .int z1, .int z2, .int z3]) (S' := [.int (Int32.ofInt 0), .ref 363]) rfl rfl (fun _ _ => rfl) (by decide) (zargI_ok rfl (zrecv_of (ci := 9) (by decide) h_0)) rfl hr rfl ?_
      refine hx_go 2 (pc' := 24) (L' := [.ref 0, .int z0, .int z1, .int z2, .int z3, .ref 363, .float 1]) (S' := [.int (Int32.ofInt 2)]) rfl ?_
      exact hx_end rfl rfl
    | n + 2, hi => exact absurd hi (by simp)
theorem hp_375 {z0 z1 z2 : Int32} (hw : ∀ Q : zO → zI → Prop, wz (lg, N, xs) 146 0 [.ref 0, .int z0, .int z1, .int z2, .float 0, .float 0] [] (jm J) Q = Q o (jm J1)) (mt : mtc [0, 1, 3] o th v) : ∃ lg' u, hx N xs 375 0 [.ref 0, .int z0, .int z1, .int z2, .ref 363, .float 0] [] J lg (jI th) J1 lg' u ∧ u ≤ 6 ∧ (th = 0 → lg' 363 0 = (jI v).toInt64) := by
  have hr := run_of hw
  rcases mt with ⟨rfl, rfl⟩ | ⟨i, E, hi, rfl, rfl⟩
  · have g0 : ∀ {u : Nat} {lg' : Nat → Nat → Int64}, hx N xs 375 10 [.ref 0, .int z0, .int z1, .int z2, .ref 363, .float 0] [.int (jI v), .int (Int32.ofInt 0), .ref 363] J1 lg (jI 0) J1 lg' u → hx N xs 375 0 [.ref 0, .int z0, .int z1, .int z2, .ref 363, .float 0] [] J lg (jI 0) J1 lg' (0 + u) := fun g => by
      refine hx_go 6 (pc' := 7) (L' := [.ref 0, .int z0, .int z1, .int z2, .ref 363, .float 0]) (S' := [.int z2, .int z1, .int z0, .ref 0, .int (Int32.ofInt 0), .ref 363]) rfl ?_
      exact hx_ok (a := 146) (b := 3) (as := [.ref 0, .int z0, .int z1, .int z2]) (S' := [.int (Int32.ofInt 0), .ref 363]) rfl rfl (fun _ _ => rfl) (by decide) (zargI_ok rfl (zrecv_of (ci := 9) (by decide) h_0)) rfl hr g
    refine ⟨zset lg 363 0 (jI v).toInt64, 0 + 0, g0 ?_, by decide, fun _ => zset363⟩
    refine hx_go 1 (pc' := 11) (L' := [.ref 0, .int z0, .int z1, .int z2, .ref 363, .float 0]) (S' := [.long (jI v).toInt64, .int (Int32.ofInt 0), .ref 363]) rfl ?_
    refine hx_ls rfl ?_
    refine hx_go 2 (pc' := 28) (L' := [.ref 0, .int z0, .int z1, .int z2, .ref 363, .float 0]) (S' := [.int (Int32.ofInt 0)]) rfl ?_
    exact hx_end rfl rfl
  · match i, hi with
    | 0, hi =>
      have hE : 0 = E := Option.some.inj hi
      subst hE
      refine ⟨lg, 6 + 0, ?_, by decide, fun h9 => absurd h9 (by decide)⟩
      refine hx_go 6 (pc' := 7) (L' := [.ref 0, .int z0, .int z1, .int z2, .ref 363, .float 0]) (S' := [.int z2, .int z1, .int z0, .ref 0, .int (Int32.ofInt 0), .ref 363]) rfl ?_
      refine hx_ex (a := 146) (b := 3) (h := 15) (as := [.ref 0, .int z0, .int z1, .int z2]) (S' := [.int (Int32.ofInt 0), .ref 363]) rfl rfl (fun _ _ => rfl) (by decide) (zargI_ok rfl (zrecv_of (ci := 9) (by decide) h_0)) rfl hr rfl ?_
      refine hx_go 2 (pc' := 18) (L' := [.ref 0, .int z0, .int z1, .int z2, .ref 363, .float 1]) (S' := [.int (Int32.ofInt 1)]) rfl ?_
      exact hx_end rfl rfl
    | 1, hi =>
      have hE : 1 = E := Option.some.inj hi
      subst hE
      refine ⟨lg, 6 + 0, ?_, by decide, fun h9 => absurd h9 (by decide)⟩
      refine hx_go 6 (pc' := 7) (L' := [.ref 0, .int z0, .int z1, .int z2, .ref 363, .float 0]) (S' := [.int z2, .int z1, .int z0, .ref 0, .int (Int32.ofInt 0), .ref 363]) rfl ?_
      refine hx_ex (a := 146) (b := 3) (h := 19) (as := [.ref 0, .int z0, .int z1, .int z2]) (S' := [.int (Int32.ofInt 0), .ref 363]) rfl rfl (fun _ _ => rfl) (by decide) (zargI_ok rfl (zrecv_of (ci := 9) (by decide) h_0)) rfl hr rfl ?_
      refine hx_go 2 (pc' := 22) (L' := [.ref 0, .int z0, .int z1, .int z2, .ref 363, .float 1]) (S' := [.int (Int32.ofInt 2)]) rfl ?_
      exact hx_end rfl rfl
    | 2, hi =>
      have hE : 3 = E := Option.some.inj hi
      subst hE
      refine ⟨lg, 6 + 0, ?_, by decide, fun h9 => absurd h9 (by decide)⟩
      refine hx_go 6 (pc' := 7) (L' := [.ref 0, .int z0, .int z1, .int z2, .ref 363, .float 0]) (S' := [.int z2, .int z1, .int z0, .ref 0, .int (Int32.ofInt 0), .ref 363]) rfl ?_
      refine hx_ex (a := 146) (b := 3) (h := 23) (as := [.ref 0, .int z0, .int z1, .int z2]) (S' := [.int (Int32.ofInt 0), .ref 363]) rfl rfl (fun _ _ => rfl) (by decide) (zargI_ok rfl (zrecv_of (ci := 9) (by decide) h_0)) rfl hr rfl ?_
      refine hx_go 2 (pc' := 26) (L' := [.ref 0, .int z0, .int z1, .int z2, .ref 363, .float 1]) (S' := [.int (Int32.ofInt 3)]) rfl ?_
      exact hx_end rfl rfl
    | n + 3, hi => exact absurd hi (by simp)
theorem hp_376 {z0 : Int32} (hw : ∀ Q : zO → zI → Prop, wz (lg, N, xs) 147 0 [.ref 0, .int z0, .float 0, .float 0] [] (jm J) Q = Q o (jm J1)) (mt : mtc [0] o th v) : ∃ lg' u, hx N xs 376 0 [.ref 0, .int z0, .ref 363, .float 0] [] J lg (jI th) J1 lg' u ∧ u ≤ 6 ∧ (th = 0 → lg' 363 0 = (jI v).toInt64) := by
  have hr := run_of hw
  rcases mt with ⟨rfl, rfl⟩ | ⟨i, E, hi, rfl, rfl⟩
  · have g0 : ∀ {u : Nat} {lg' : Nat → Nat → Int64}, hx N xs 376 7 [.ref 0, .int z0, .ref 363, .float 0] [.int (jI v), .int (Int32.ofInt 0), .ref 363] J1 lg (jI 0) J1 lg' u → hx N xs 376 0 [.ref 0, .int z0, .ref 363, .float 0] [] J lg (jI 0) J1 lg' (0 + u) := fun g => by
      refine hx_go 4 (pc' := 4) (L' := [.ref 0, .int z0, .ref 363, .float 0]) (S' := [.int z0, .ref 0, .int (Int32.ofInt 0), .ref 363]) rfl ?_
      exact hx_ok (a := 147) (b := 1) (as := [.ref 0, .int z0]) (S' := [.int (Int32.ofInt 0), .ref 363]) rfl rfl (fun _ _ => rfl) (by decide) (zargI_ok rfl (zrecv_of (ci := 9) (by decide) h_0)) rfl hr g
    refine ⟨zset lg 363 0 (jI v).toInt64, 0 + 0, g0 ?_, by decide, fun _ => zset363⟩
    refine hx_go 1 (pc' := 8) (L' := [.ref 0, .int z0, .ref 363, .float 0]) (S' := [.long (jI v).toInt64, .int (Int32.ofInt 0), .ref 363]) rfl ?_
    refine hx_ls rfl ?_
    refine hx_go 2 (pc' := 16) (L' := [.ref 0, .int z0, .ref 363, .float 0]) (S' := [.int (Int32.ofInt 0)]) rfl ?_
    exact hx_end rfl rfl
  · match i, hi with
    | 0, hi =>
      have hE : 0 = E := Option.some.inj hi
      subst hE
      refine ⟨lg, 6 + 0, ?_, by decide, fun h9 => absurd h9 (by decide)⟩
      refine hx_go 4 (pc' := 4) (L' := [.ref 0, .int z0, .ref 363, .float 0]) (S' := [.int z0, .ref 0, .int (Int32.ofInt 0), .ref 363]) rfl ?_
      refine hx_ex (a := 147) (b := 1) (h := 12) (as := [.ref 0, .int z0]) (S' := [.int (Int32.ofInt 0), .ref 363]) rfl rfl (fun _ _ => rfl) (by decide) (zargI_ok rfl (zrecv_of (ci := 9) (by decide) h_0)) rfl hr rfl ?_
      refine hx_go 2 (pc' := 14) (L' := [.ref 0, .int z0, .ref 363, .float 1]) (S' := [.int (Int32.ofInt 1)]) rfl ?_
      exact hx_end rfl rfl
    | n + 1, hi => exact absurd hi (by simp)
theorem hp_377 {z0 z1 : Int32} (hw : ∀ Q : zO → zI → Prop, wz (lg, N, xs) 148 0 [.ref 0, .int z0, .int z1] [] (jm J) Q = Q o (jm J1)) (mt : mtc [0] o th v) : ∃ lg' u, hx N xs 377 0 [.ref 0, .int z0, .int z1, .ref 363, .float 0] [] J lg (jI th) J1 lg' u ∧ u ≤ 6 ∧ (th = 0 → lg' 363 0 = (jI v).toInt64) := by
  have hr := run_of hw
  rcases mt with ⟨rfl, rfl⟩ | ⟨i, E, hi, rfl, rfl⟩
  · have g0 : ∀ {u : Nat} {lg' : Nat → Nat → Int64}, hx N xs 377 8 [.ref 0, .int z0, .int z1, .ref 363, .float 0] [.int (jI v), .int (Int32.ofInt 0), .ref 363] J1 lg (jI 0) J1 lg' u → hx N xs 377 0 [.ref 0, .int z0, .int z1, .ref 363, .float 0] [] J lg (jI 0) J1 lg' (0 + u) := fun g => by
      refine hx_go 5 (pc' := 5) (L' := [.ref 0, .int z0, .int z1, .ref 363, .float 0]) (S' := [.int z1, .int z0, .ref 0, .int (Int32.ofInt 0), .ref 363]) rfl ?_
      exact hx_ok (a := 148) (b := 2) (as := [.ref 0, .int z0, .int z1]) (S' := [.int (Int32.ofInt 0), .ref 363]) rfl rfl (fun _ _ => rfl) (by decide) (zargI_ok rfl (zrecv_of (ci := 9) (by decide) h_0)) rfl hr g
    refine ⟨zset lg 363 0 (jI v).toInt64, 0 + 0, g0 ?_, by decide, fun _ => zset363⟩
    refine hx_go 1 (pc' := 9) (L' := [.ref 0, .int z0, .int z1, .ref 363, .float 0]) (S' := [.long (jI v).toInt64, .int (Int32.ofInt 0), .ref 363]) rfl ?_
    refine hx_ls rfl ?_
    refine hx_go 2 (pc' := 18) (L' := [.ref 0, .int z0, .int z1, .ref 363, .float 0]) (S' := [.int (Int32.ofInt 0)]) rfl ?_
    exact hx_end rfl rfl
  · match i, hi with
    | 0, hi =>
      have hE : 0 = E := Option.some.inj hi
      subst hE
      refine ⟨lg, 6 + 0, ?_, by decide, fun h9 => absurd h9 (by decide)⟩
      refine hx_go 5 (pc' := 5) (L' := [.ref 0, .int z0, .int z1, .ref 363, .float 0]) (S' := [.int z1, .int z0, .ref 0, .int (Int32.ofInt 0), .ref 363]) rfl ?_
      refine hx_ex (a := 148) (b := 2) (h := 13) (as := [.ref 0, .int z0, .int z1]) (S' := [.int (Int32.ofInt 0), .ref 363]) rfl rfl (fun _ _ => rfl) (by decide) (zargI_ok rfl (zrecv_of (ci := 9) (by decide) h_0)) rfl hr rfl ?_
      refine hx_go 2 (pc' := 16) (L' := [.ref 0, .int z0, .int z1, .ref 363, .float 1]) (S' := [.int (Int32.ofInt 1)]) rfl ?_
      exact hx_end rfl rfl
    | n + 1, hi => exact absurd hi (by simp)
theorem hp_378 {z0 : Int32} (hw : ∀ Q : zO → zI → Prop, wz (lg, N, xs) 149 0 [.ref 0, .int z0, .float 0, .float 0, .float 0] [] (jm J) Q = Q o (jm J1)) (mt : mtc [0, 2, 3] o th v) : ∃ lg' u, hx N xs 378 0 [.ref 0, .int z0, .ref 363, .float 0] [] J lg (jI th) J1 lg' u ∧ u ≤ 6 ∧ (th = 0 → lg' 363 0 = (jI v).toInt64) := by
  have hr := run_of hw
  rcases mt with ⟨rfl, rfl⟩ | ⟨i, E, hi, rfl, rfl⟩
  · have g0 : ∀ {u : Nat} {lg' : Nat → Nat → Int64}, hx N xs 378 7 [.ref 0, .int z0, .ref 363, .float 0] [.int (jI v), .int (Int32.ofInt 0), .ref 363] J1 lg (jI 0) J1 lg' u → hx N xs 378 0 [.ref 0, .int z0, .ref 363, .float 0] [] J lg (jI 0) J1 lg' (0 + u) := fun g => by
      refine hx_go 4 (pc' := 4) (L' := [.ref 0, .int z0, .ref 363, .float 0]) (S' := [.int z0, .ref 0, .int (Int32.ofInt 0), .ref 363]) rfl ?_
      exact hx_ok (a := 149) (b := 1) (as := [.ref 0, .int z0]) (S' := [.int (Int32.ofInt 0), .ref 363]) rfl rfl (fun _ _ => rfl) (by decide) (zargI_ok rfl (zrecv_of (ci := 9) (by decide) h_0)) rfl hr g
    refine ⟨zset lg 363 0 (jI v).toInt64, 0 + 0, g0 ?_, by decide, fun _ => zset363⟩
    refine hx_go 1 (pc' := 8) (L' := [.ref 0, .int z0, .ref 363, .float 0]) (S' := [.long (jI v).toInt64, .int (Int32.ofInt 0), .ref 363]) rfl ?_
    refine hx_ls rfl ?_
    refine hx_go 2 (pc' := 22) (L' := [.ref 0, .int z0, .ref 363, .float 0]) (S' := [.int (Int32.ofInt 0)]) rfl ?_
    exact hx_end rfl rfl
  · match i, hi with
    | 0, hi =>
      have hE : 0 = E := Option.some.inj hi
      subst hE
      refine ⟨lg, 6 + 0, ?_, by decide, fun h9 => absurd h9 (by decide)⟩
      refine hx_go 4 (pc' := 4) (L' := [.ref 0, .int z0, .ref 363, .float 0]) (S' := [.int z0, .ref 0, .int (Int32.ofInt 0), .ref 363]) rfl ?_
      refine hx_ex (a := 149) (b := 1) (h := 12) (as := [.ref 0, .int z0]) (S' := [.int (Int32.ofInt 0), .ref 363]) rfl rfl (fun _ _ => rfl) (by decide) (zargI_ok rfl (zrecv_of (ci := 9) (by decide) h_0)) rfl hr rfl ?_
      refine hx_go 2 (pc' := 14) (L' := [.ref 0, .int z0, .ref 363, .float 1]) (S' := [.int (Int32.ofInt 1)]) rfl ?_
      exact hx_end rfl rfl
    | 1, hi =>
      have hE : 2 = E := Option.some.inj hi
      subst hE
      refine ⟨lg, 6 + 0, ?_, by decide, fun h9 => absurd h9 (by decide)⟩
      refine hx_go 4 (pc' := 4) (L' := [.ref 0, .int z0, .ref 363, .float 0]) (S' := [.int z0, .ref 0, .int (Int32.ofInt 0), .ref 363]) rfl ?_
      refine hx_ex (a := 149) (b := 1) (h := 15) (as := [.ref 0, .int z0]) (S' := [.int (Int32.ofInt 0), .ref 363]) rfl rfl (fun _ _ => rfl) (by decide) (zargI_ok rfl (zrecv_of (ci := 9) (by decide) h_0)) rfl hr rfl ?_
      refine hx_go 2 (pc' := 17) (L' := [.ref 0, .int z0, .ref 363, .float 1]) (S' := [.int (Int32.ofInt 2)]) rfl ?_
      exact hx_end rfl rfl
    | 2, hi =>
      have hE : 3 = E := Option.some.inj hi
      subst hE
      refine ⟨lg, 6 + 0, ?_, by decide, fun h9 => absurd h9 (by decide)⟩
      refine hx_go 4 (pc' := 4) (L' := [.ref 0, .int z0, .ref 363, .float 0]) (S' := [.int z0, .ref 0, .int (Int32.ofInt 0), .ref 363]) rfl ?_
      refine hx_ex (a := 149) (b := 1) (h := 18) (as := [.ref 0, .int z0]) (S' := [.int (Int32.ofInt 0), .ref 363]) rfl rfl (fun _ _ => rfl) (by decide) (zargI_ok rfl (zrecv_of (ci := 9) (by decide) h_0)) rfl hr rfl ?_
      refine hx_go 2 (pc' := 20) (L' := [.ref 0, .int z0, .ref 363, .float 1]) (S' := [.int (Int32.ofInt 3)]) rfl ?_
      exact hx_end rfl rfl
    | n + 3, hi => exact absurd hi (by simp)
theorem hp_379 {z0 z1 z2 : Int32} (hw : ∀ Q : zO → zI → Prop, wz (lg, N, xs) 150 0 [.ref 0, .int z0, .int z1, .int z2, .float 0, .float 0] [] (jm J) Q = Q o (jm J1)) (mt : mtc [0, 1] o th v) : ∃ lg' u, hx N xs 379 0 [.ref 0, .int z0, .int z1, .int z2, .ref 363, .float 0] [] J lg (jI th) J1 lg' u ∧ u ≤ 6 ∧ (th = 0 → lg' 363 0 = (jI v).toInt64) := by
  have hr := run_of hw
  rcases mt with ⟨rfl, rfl⟩ | ⟨i, E, hi, rfl, rfl⟩
  · have g0 : ∀ {u : Nat} {lg' : Nat → Nat → Int64}, hx N xs 379 10 [.ref 0, .int z0, .int z1, .int z2, .ref 363, .float 0] [.int (jI v), .int (Int32.ofInt 0), .ref 363] J1 lg (jI 0) J1 lg' u → hx N xs 379 0 [.ref 0, .int z0, .int z1, .int z2, .ref 363, .float 0] [] J lg (jI 0) J1 lg' (0 + u) := fun g => by
      refine hx_go 6 (pc' := 7) (L' := [.ref 0, .int z0, .int z1, .int z2, .ref 363, .float 0]) (S' := [.int z2, .int z1, .int z0, .ref 0, .int (Int32.ofInt 0), .ref 363]) rfl ?_
      exact hx_ok (a := 150) (b := 3) (as := [.ref 0, .int z0, .int z1, .int z2]) (S' := [.int (Int32.ofInt 0), .ref 363]) rfl rfl (fun _ _ => rfl) (by decide) (zargI_ok rfl (zrecv_of (ci := 9) (by decide) h_0)) rfl hr g
    refine ⟨zset lg 363 0 (jI v).toInt64, 0 + 0, g0 ?_, by decide, fun _ => zset363⟩
    refine hx_go 1 (pc' := 11) (L' := [.ref 0, .int z0, .int z1, .int z2, .ref 363, .float 0]) (S' := [.long (jI v).toInt64, .int (Int32.ofInt 0), .ref 363]) rfl ?_
    refine hx_ls rfl ?_
    refine hx_go 2 (pc' := 24) (L' := [.ref 0, .int z0, .int z1, .int z2, .ref 363, .float 0]) (S' := [.int (Int32.ofInt 0)]) rfl ?_
    exact hx_end rfl rfl
  · match i, hi with
    | 0, hi =>
      have hE : 0 = E := Option.some.inj hi
      subst hE
      refine ⟨lg, 6 + 0, ?_, by decide, fun h9 => absurd h9 (by decide)⟩
      refine hx_go 6 (pc' := 7) (L' := [.ref 0, .int z0, .int z1, .int z2, .ref 363, .float 0]) (S' := [.int z2, .int z1, .int z0, .ref 0, .int (Int32.ofInt 0), .ref 363]) rfl ?_
      refine hx_ex (a := 150) (b := 3) (h := 15) (as := [.ref 0, .int z0, .int z1, .int z2]) (S' := [.int (Int32.ofInt 0), .ref 363]) rfl rfl (fun _ _ => rfl) (by decide) (zargI_ok rfl (zrecv_of (ci := 9) (by decide) h_0)) rfl hr rfl ?_
      refine hx_go 2 (pc' := 18) (L' := [.ref 0, .int z0, .int z1, .int z2, .ref 363, .float 1]) (S' := [.int (Int32.ofInt 1)]) rfl ?_
      exact hx_end rfl rfl
    | 1, hi =>
      have hE : 1 = E := Option.some.inj hi
      subst hE
      refine ⟨lg, 6 + 0, ?_, by decide, fun h9 => absurd h9 (by decide)⟩
      refine hx_go 6 (pc' := 7) (L' := [.ref 0, .int z0, .int z1, .int z2, .ref 363, .float 0]) (S' := [.int z2, .int z1, .int z0, .ref 0, .int (Int32.ofInt 0), .ref 363]) rfl ?_
      refine hx_ex (a := 150) (b := 3) (h := 19) (as := [.ref 0, .int z0, .int z1, .int z2]) (S' := [.int (Int32.ofInt 0), .ref 363]) rfl rfl (fun _ _ => rfl) (by decide) (zargI_ok rfl (zrecv_of (ci := 9) (by decide) h_0)) rfl hr rfl ?_
      refine hx_go 2 (pc' := 22) (L' := [.ref 0, .int z0, .int z1, .int z2, .ref 363, .float 1]) (S' := [.int (Int32.ofInt 2)]) rfl ?_
      exact hx_end rfl rfl
    | n + 2, hi => exact absurd hi (by simp)
theorem hp_380 {z0 : Int32} (hw : ∀ Q : zO → zI → Prop, wz (lg, N, xs) 151 0 [.ref 0, .int z0, .float 0, .float 0, .float 0, .float 0] [] (jm J) Q = Q o (jm J1)) (mt : mtc [0] o th v) : ∃ lg' u, hx N xs 380 0 [.ref 0, .int z0, .ref 363, .float 0] [] J lg (jI th) J1 lg' u ∧ u ≤ 6 ∧ (th = 0 → lg' 363 0 = (jI v).toInt64) := by
  have hr := run_of hw
  rcases mt with ⟨rfl, rfl⟩ | ⟨i, E, hi, rfl, rfl⟩
  · have g0 : ∀ {u : Nat} {lg' : Nat → Nat → Int64}, hx N xs 380 7 [.ref 0, .int z0, .ref 363, .float 0] [.int (jI v), .int (Int32.ofInt 0), .ref 363] J1 lg (jI 0) J1 lg' u → hx N xs 380 0 [.ref 0, .int z0, .ref 363, .float 0] [] J lg (jI 0) J1 lg' (0 + u) := fun g => by
      refine hx_go 4 (pc' := 4) (L' := [.ref 0, .int z0, .ref 363, .float 0]) (S' := [.int z0, .ref 0, .int (Int32.ofInt 0), .ref 363]) rfl ?_
      exact hx_ok (a := 151) (b := 1) (as := [.ref 0, .int z0]) (S' := [.int (Int32.ofInt 0), .ref 363]) rfl rfl (fun _ _ => rfl) (by decide) (zargI_ok rfl (zrecv_of (ci := 9) (by decide) h_0)) rfl hr g
    refine ⟨zset lg 363 0 (jI v).toInt64, 0 + 0, g0 ?_, by decide, fun _ => zset363⟩
    refine hx_go 1 (pc' := 8) (L' := [.ref 0, .int z0, .ref 363, .float 0]) (S' := [.long (jI v).toInt64, .int (Int32.ofInt 0), .ref 363]) rfl ?_
    refine hx_ls rfl ?_
    refine hx_go 2 (pc' := 16) (L' := [.ref 0, .int z0, .ref 363, .float 0]) (S' := [.int (Int32.ofInt 0)]) rfl ?_
    exact hx_end rfl rfl
  · match i, hi with
    | 0, hi =>
      have hE : 0 = E := Option.some.inj hi
      subst hE
      refine ⟨lg, 6 + 0, ?_, by decide, fun h9 => absurd h9 (by decide)⟩
      refine hx_go 4 (pc' := 4) (L' := [.ref 0, .int z0, .ref 363, .float 0]) (S' := [.int z0, .ref 0, .int (Int32.ofInt 0), .ref 363]) rfl ?_
      refine hx_ex (a := 151) (b := 1) (h := 12) (as := [.ref 0, .int z0]) (S' := [.int (Int32.ofInt 0), .ref 363]) rfl rfl (fun _ _ => rfl) (by decide) (zargI_ok rfl (zrecv_of (ci := 9) (by decide) h_0)) rfl hr rfl ?_
      refine hx_go 2 (pc' := 14) (L' := [.ref 0, .int z0, .ref 363, .float 1]) (S' := [.int (Int32.ofInt 1)]) rfl ?_
      exact hx_end rfl rfl
    | n + 1, hi => exact absurd hi (by simp)
theorem hp_381 {z0 : Int32} (hw : ∀ Q : zO → zI → Prop, wz (lg, N, xs) 152 0 [.ref 0, .int z0] [] (jm J) Q = Q o (jm J1)) (mt : mtc [0] o th v) : ∃ lg' u, hx N xs 381 0 [.ref 0, .int z0, .ref 363, .float 0] [] J lg (jI th) J1 lg' u ∧ u ≤ 6 ∧ (th = 0 → lg' 363 0 = (jI v).toInt64) := by
  have hr := run_of hw
  rcases mt with ⟨rfl, rfl⟩ | ⟨i, E, hi, rfl, rfl⟩
  · have g0 : ∀ {u : Nat} {lg' : Nat → Nat → Int64}, hx N xs 381 7 [.ref 0, .int z0, .ref 363, .float 0] [.int (jI v), .int (Int32.ofInt 0), .ref 363] J1 lg (jI 0) J1 lg' u → hx N xs 381 0 [.ref 0, .int z0, .ref 363, .float 0] [] J lg (jI 0) J1 lg' (0 + u) := fun g => by
      refine hx_go 4 (pc' := 4) (L' := [.ref 0, .int z0, .ref 363, .float 0]) (S' := [.int z0, .ref 0, .int (Int32.ofInt 0), .ref 363]) rfl ?_
      exact hx_ok (a := 152) (b := 1) (as := [.ref 0, .int z0]) (S' := [.int (Int32.ofInt 0), .ref 363]) rfl rfl (fun _ _ => rfl) (by decide) (zargI_ok rfl (zrecv_of (ci := 9) (by decide) h_0)) rfl hr g
    refine ⟨zset lg 363 0 (jI v).toInt64, 0 + 0, g0 ?_, by decide, fun _ => zset363⟩
    refine hx_go 1 (pc' := 8) (L' := [.ref 0, .int z0, .ref 363, .float 0]) (S' := [.long (jI v).toInt64, .int (Int32.ofInt 0), .ref 363]) rfl ?_
    refine hx_ls rfl ?_
    refine hx_go 2 (pc' := 16) (L' := [.ref 0, .int z0, .ref 363, .float 0]) (S' := [.int (Int32.ofInt 0)]) rfl ?_
    exact hx_end rfl rfl
  · match i, hi with
    | 0, hi =>
      have hE : 0 = E := Option.some.inj hi
      subst hE
      refine ⟨lg, 6 + 0, ?_, by decide, fun h9 => absurd h9 (by decide)⟩
      refine hx_go 4 (pc' := 4) (L' := [.ref 0, .int z0, .ref 363, .float 0]) (S' := [.int z0, .ref 0, .int (Int32.ofInt 0), .ref 363]) rfl ?_
      refine hx_ex (a := 152) (b := 1) (h := 12) (as := [.ref 0, .int z0]) (S' := [.int (Int32.ofInt 0), .ref 363]) rfl rfl (fun _ _ => rfl) (by decide) (zargI_ok rfl (zrecv_of (ci := 9) (by decide) h_0)) rfl hr rfl ?_
      refine hx_go 2 (pc' := 14) (L' := [.ref 0, .int z0, .ref 363, .float 1]) (S' := [.int (Int32.ofInt 1)]) rfl ?_
      exact hx_end rfl rfl
    | n + 1, hi => exact absurd hi (by simp)
theorem hp_382 {z0 : Int32} (hw : ∀ Q : zO → zI → Prop, wz (lg, N, xs) 154 0 [.ref 0, .int z0] [] (jm J) Q = Q o (jm J1)) (mt : mtc [0] o th v) : ∃ lg' u, hx N xs 382 0 [.ref 0, .int z0, .ref 363, .float 0] [] J lg (jI th) J1 lg' u ∧ u ≤ 6 ∧ (th = 0 → lg' 363 0 = (jI v).toInt64) := by
  have hr := run_of hw
  rcases mt with ⟨rfl, rfl⟩ | ⟨i, E, hi, rfl, rfl⟩
  · have g0 : ∀ {u : Nat} {lg' : Nat → Nat → Int64}, hx N xs 382 7 [.ref 0, .int z0, .ref 363, .float 0] [.int (jI v), .int (Int32.ofInt 0), .ref 363] J1 lg (jI 0) J1 lg' u → hx N xs 382 0 [.ref 0, .int z0, .ref 363, .float 0] [] J lg (jI 0) J1 lg' (0 + u) := fun g => by
      refine hx_go 4 (pc' := 4) (L' := [.ref 0, .int z0, .ref 363, .float 0]) (S' := [.int z0, .ref 0, .int (Int32.ofInt 0), .ref 363]) rfl ?_
      exact hx_ok (a := 154) (b := 1) (as := [.ref 0, .int z0]) (S' := [.int (Int32.ofInt 0), .ref 363]) rfl rfl (fun _ _ => rfl) (by decide) (zargI_ok rfl (zrecv_of (ci := 9) (by decide) h_0)) rfl hr g
    refine ⟨zset lg 363 0 (jI v).toInt64, 0 + 0, g0 ?_, by decide, fun _ => zset363⟩
    refine hx_go 1 (pc' := 8) (L' := [.ref 0, .int z0, .ref 363, .float 0]) (S' := [.long (jI v).toInt64, .int (Int32.ofInt 0), .ref 363]) rfl ?_
    refine hx_ls rfl ?_
    refine hx_go 2 (pc' := 16) (L' := [.ref 0, .int z0, .ref 363, .float 0]) (S' := [.int (Int32.ofInt 0)]) rfl ?_
    exact hx_end rfl rfl
  · match i, hi with
    | 0, hi =>
      have hE : 0 = E := Option.some.inj hi
      subst hE
      refine ⟨lg, 6 + 0, ?_, by decide, fun h9 => absurd h9 (by decide)⟩
      refine hx_go 4 (pc' := 4) (L' := [.ref 0, .int z0, .ref 363, .float 0]) (S' := [.int z0, .ref 0, .int (Int32.ofInt 0), .ref 363]) rfl ?_
      refine hx_ex (a := 154) (b := 1) (h := 12) (as := [.ref 0, .int z0]) (S' := [.int (Int32.ofInt 0), .ref 363]) rfl rfl (fun _ _ => rfl) (by decide) (zargI_ok rfl (zrecv_of (ci := 9) (by decide) h_0)) rfl hr rfl ?_
      refine hx_go 2 (pc' := 14) (L' := [.ref 0, .int z0, .ref 363, .float 1]) (S' := [.int (Int32.ofInt 1)]) rfl ?_
      exact hx_end rfl rfl
    | n + 1, hi => exact absurd hi (by simp)
theorem hp_383 (hw : ∀ Q : zO → zI → Prop, wz (lg, N, xs) 155 0 [.ref 0] [] (jm J) Q = Q o (jm J1)) (mt : mtc [2] o th v) : ∃ lg' u, hx N xs 383 0 [.ref 0, .ref 363, .float 0] [] J lg (jI th) J1 lg' u ∧ u ≤ 6 ∧ (th = 0 → lg' 363 0 = (jI v).toInt64) := by
  have hr := run_of hw
  rcases mt with ⟨rfl, rfl⟩ | ⟨i, E, hi, rfl, rfl⟩
  · have g0 : ∀ {u : Nat} {lg' : Nat → Nat → Int64}, hx N xs 383 6 [.ref 0, .ref 363, .float 0] [.int (jI v), .int (Int32.ofInt 0), .ref 363] J1 lg (jI 0) J1 lg' u → hx N xs 383 0 [.ref 0, .ref 363, .float 0] [] J lg (jI 0) J1 lg' (0 + u) := fun g => by
      refine hx_go 3 (pc' := 3) (L' := [.ref 0, .ref 363, .float 0]) (S' := [.ref 0, .int (Int32.ofInt 0), .ref 363]) rfl ?_
      exact hx_ok (a := 155) (b := 0) (as := [.ref 0]) (S' := [.int (Int32.ofInt 0), .ref 363]) rfl rfl (fun _ _ => rfl) (by decide) (zargI_ok rfl (zrecv_of (ci := 9) (by decide) h_0)) rfl hr g
    refine ⟨zset lg 363 0 (jI v).toInt64, 0 + 0, g0 ?_, by decide, fun _ => zset363⟩
    refine hx_go 1 (pc' := 7) (L' := [.ref 0, .ref 363, .float 0]) (S' := [.long (jI v).toInt64, .int (Int32.ofInt 0), .ref 363]) rfl ?_
    refine hx_ls rfl ?_
    refine hx_go 2 (pc' := 15) (L' := [.ref 0, .ref 363, .float 0]) (S' := [.int (Int32.ofInt 0)]) rfl ?_
    exact hx_end rfl rfl
  · match i, hi with
    | 0, hi =>
      have hE : 2 = E := Option.some.inj hi
      subst hE
      refine ⟨lg, 6 + 0, ?_, by decide, fun h9 => absurd h9 (by decide)⟩
      refine hx_go 3 (pc' := 3) (L' := [.ref 0, .ref 363, .float 0]) (S' := [.ref 0, .int (Int32.ofInt 0), .ref 363]) rfl ?_
      refine hx_ex (a := 155) (b := 0) (h := 11) (as := [.ref 0]) (S' := [.int (Int32.ofInt 0), .ref 363]) rfl rfl (fun _ _ => rfl) (by decide) (zargI_ok rfl (zrecv_of (ci := 9) (by decide) h_0)) rfl hr rfl ?_
      refine hx_go 2 (pc' := 13) (L' := [.ref 0, .ref 363, .float 1]) (S' := [.int (Int32.ofInt 1)]) rfl ?_
      exact hx_end rfl rfl
    | n + 1, hi => exact absurd hi (by simp)
theorem hp_384 (hw : ∀ Q : zO → zI → Prop, wz (lg, N, xs) 158 0 [.ref 0] [] (jm J) Q = Q o (jm J1)) (mt : mtc [2] o th v) : ∃ lg' u, hx N xs 384 0 [.ref 0, .ref 363, .float 0] [] J lg (jI th) J1 lg' u ∧ u ≤ 6 ∧ (th = 0 → lg' 363 0 = (jI v).toInt64) := by
  have hr := run_of hw
  rcases mt with ⟨rfl, rfl⟩ | ⟨i, E, hi, rfl, rfl⟩
  · have g0 : ∀ {u : Nat} {lg' : Nat → Nat → Int64}, hx N xs 384 6 [.ref 0, .ref 363, .float 0] [.int (jI v), .int (Int32.ofInt 0), .ref 363] J1 lg (jI 0) J1 lg' u → hx N xs 384 0 [.ref 0, .ref 363, .float 0] [] J lg (jI 0) J1 lg' (0 + u) := fun g => by
      refine hx_go 3 (pc' := 3) (L' := [.ref 0, .ref 363, .float 0]) (S' := [.ref 0, .int (Int32.ofInt 0), .ref 363]) rfl ?_
      exact hx_ok (a := 158) (b := 0) (as := [.ref 0]) (S' := [.int (Int32.ofInt 0), .ref 363]) rfl rfl (fun _ _ => rfl) (by decide) (zargI_ok rfl (zrecv_of (ci := 9) (by decide) h_0)) rfl hr g
    refine ⟨zset lg 363 0 (jI v).toInt64, 0 + 0, g0 ?_, by decide, fun _ => zset363⟩
    refine hx_go 1 (pc' := 7) (L' := [.ref 0, .ref 363, .float 0]) (S' := [.long (jI v).toInt64, .int (Int32.ofInt 0), .ref 363]) rfl ?_
    refine hx_ls rfl ?_
    refine hx_go 2 (pc' := 15) (L' := [.ref 0, .ref 363, .float 0]) (S' := [.int (Int32.ofInt 0)]) rfl ?_
    exact hx_end rfl rfl
  · match i, hi with
    | 0, hi =>
      have hE : 2 = E := Option.some.inj hi
      subst hE
      refine ⟨lg, 6 + 0, ?_, by decide, fun h9 => absurd h9 (by decide)⟩
      refine hx_go 3 (pc' := 3) (L' := [.ref 0, .ref 363, .float 0]) (S' := [.ref 0, .int (Int32.ofInt 0), .ref 363]) rfl ?_
      refine hx_ex (a := 158) (b := 0) (h := 11) (as := [.ref 0]) (S' := [.int (Int32.ofInt 0), .ref 363]) rfl rfl (fun _ _ => rfl) (by decide) (zargI_ok rfl (zrecv_of (ci := 9) (by decide) h_0)) rfl hr rfl ?_
      refine hx_go 2 (pc' := 13) (L' := [.ref 0, .ref 363, .float 1]) (S' := [.int (Int32.ofInt 1)]) rfl ?_
      exact hx_end rfl rfl
    | n + 1, hi => exact absurd hi (by simp)
end
