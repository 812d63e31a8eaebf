/-! ===== the law's loop, its start, the goal ===== -/
def swO : Array Int := #[256, 360, 416, 429, 473, 529, 621, 677, 757, 813, 869, 882, 938, 1006, 1062, 1075, 1088, 1101, 1114, 1127, 1140, 1196, 1264, 1277, 1290, 1346, 1402, 1458, 1533, 1546, 1602, 1658, 1714, 1770, 1826, 1882, 1938, 1994, 2057, 2113, 2126, 2182, 2238, 2294, 2362, 2418, 2498, 2590, 2670, 2726, 2794, 2850, 2930, 2986, 3042, 3055, 3111, 3155, 3168, 3181]
section
variable {N : Nat} {xs : Nat → Int32} {i B : Nat} {J : zJ} {lg : Nat → Nat → Int64} {k : Int} {X5 X6 : Value} {L S : List Value}
theorem lw_sw {c pcn : Nat} {off : Int} (hc : c < 60) (ho : swO[c]? = some off) (hp : 40 + off = (pcn : Int)) (g : lw N xs pcn L S J lg B) : lw N xs 40 L (.int (jI (c : Int)) :: S) J lg B := by
  obtain ⟨J', lg', u, h, hu⟩ := g
  refine ⟨J', lg', u, ?_, hu⟩
  refine hx_st (op := (.tableswitch 3225 0 59 swO, 256, 0, 0, 0, 0)) rfl ?_ h
  simp only [zstep]
  rw [jI_toInt (by omega) (by omega), if_neg (by omega), show ((c : Int) - 0).toNat = c by omega, ho]
  simp only
  rw [show ((40 : Nat) : Int) + off = (pcn : Int) from hp, if_pos (by omega), Int.toNat_natCast]
theorem lw_sd {c : Nat} (hc : 60 ≤ c) (hc2 : c < 64) (g : lw N xs 3265 L S J lg B) : lw N xs 40 L (.int (jI (c : Int)) :: S) J lg B := by
  obtain ⟨J', lg', u, h, hu⟩ := g
  refine ⟨J', lg', u, ?_, hu⟩
  refine hx_st (op := (.tableswitch 3225 0 59 swO, 256, 0, 0, 0, 0)) rfl ?_ h
  simp only [zstep]
  rw [jI_toInt (by omega) (by omega), if_pos (Or.inr (by omega)), if_pos (by decide)]
  rfl
theorem lw_mo {pc B' : Nat} (h : B ≤ B') (g : lw N xs pc L S J lg B) : lw N xs pc L S J lg B' := by
  obtain ⟨J', lg', u, hh, hu⟩ := g
  exact ⟨J', lg', u, hh, by omega⟩
theorem disp {c : Nat} (hc : c < 64) (hi : i + 6 ≤ N) (hN : N ≤ 3072) (g : GC J J) (t : GT k J) (k0 : 0 ≤ k) (k1 : k ≤ 21500) (nx : ∀ J' lg' Y5 Y6, GC J' J' → GT (k + 42) J' → lw N xs 3265 [.ref 1000000, .ref 0, .ref 353, .ref 363, .int (jI (i : Int)), Y5, Y6] [] J' lg' B) : lw N xs 40 [.ref 1000000, .ref 0, .ref 353, .ref 363, .int (jI (i : Int)), X5, X6] [.int (jI (c : Int))] J lg (B + 6) := by
  by_cases h60 : 60 ≤ c
  · exact lw_sd h60 hc (lw_mo (by omega) (nx J lg X5 X6 g (GT_kp t (kp_refl J) (by omega))))
  · match c, h60 with
    | 0, _ => exact lw_sw (off := 256) (pcn := 296) (by decide) rfl rfl (cs_0 hi hN g t k0 k1 nx)
    | 1, _ => exact lw_sw (off := 360) (pcn := 400) (by decide) rfl rfl (cs_1 hi hN g t k0 k1 nx)
    | 2, _ => exact lw_sw (off := 416) (pcn := 456) (by decide) rfl rfl (cs_2 hi hN g t k0 k1 nx)
    | 3, _ => exact lw_sw (off := 429) (pcn := 469) (by decide) rfl rfl (cs_3 hi hN g t k0 k1 nx)
    | 4, _ => exact lw_sw (off := 473) (pcn := 513) (by decide) rfl rfl (cs_4 hi hN g t k0 k1 nx)
    | 5, _ => exact lw_sw (off := 529) (pcn := 569) (by decide) rfl rfl (cs_5 hi hN g t k0 k1 nx)
    | 6, _ => exact lw_sw (off := 621) (pcn := 661) (by decide) rfl rfl (cs_6 hi hN g t k0 k1 nx)
    | 7, _ => exact lw_sw (off := 677) (pcn := 717) (by decide) rfl rfl (cs_7 hi hN g t k0 k1 nx)
    | 8, _ => exact lw_sw (off := 757) (pcn := 797) (by decide) rfl rfl (cs_8 hi hN g t k0 k1 nx)
    | 9, _ => exact lw_sw (off := 813) (pcn := 853) (by decide) rfl rfl (cs_9 hi hN g t k0 k1 nx)
    | 10, _ => exact lw_sw (off := 869) (pcn := 909) (by decide) rfl rfl (cs_10 hi hN g t k0 k1 nx)
    | 11, _ => exact lw_sw (off := 882) (pcn := 922) (by decide) rfl rfl (cs_11 hi hN g t k0 k1 nx)
    | 12, _ => exact lw_sw (off := 938) (pcn := 978) (by decide) rfl rfl (cs_12 hi hN g t k0 k1 nx)
    | 13, _ => exact lw_sw (off := 1006) (pcn := 1046) (by decide) rfl rfl (cs_13 hi hN g t k0 k1 nx)
    | 14, _ => exact lw_sw (off := 1062) (pcn := 1102) (by decide) rfl rfl (cs_14 hi hN g t k0 k1 nx)
    | 15, _ => exact lw_sw (off := 1075) (pcn := 1115) (by decide) rfl rfl (cs_15 hi hN g t k0 k1 nx)
    | 16, _ => exact lw_sw (off := 1088) (pcn := 1128) (by decide) rfl rfl (cs_16 hi hN g t k0 k1 nx)
    | 17, _ => exact lw_sw (off := 1101) (pcn := 1141) (by decide) rfl rfl (cs_17 hi hN g t k0 k1 nx)
    | 18, _ => exact lw_sw (off := 1114) (pcn := 1154) (by decide) rfl rfl (cs_18 hi hN g t k0 k1 nx)
    | 19, _ => exact lw_sw (off := 1127) (pcn := 1167) (by decide) rfl rfl (cs_19 hi hN g t k0 k1 nx)
    | 20, _ => exact lw_sw (off := 1140) (pcn := 1180) (by decide) rfl rfl (cs_20 hi hN g t k0 k1 nx)
    | 21, _ => exact lw_sw (off := 1196) (pcn := 1236) (by decide) rfl rfl (cs_21 hi hN g t k0 k1 nx)
    | 22, _ => exact lw_sw (off := 1264) (pcn := 1304) (by decide) rfl rfl (cs_22 hi hN g t k0 k1 nx)
    | 23, _ => exact lw_sw (off := 1277) (pcn := 1317) (by decide) rfl rfl (cs_23 hi hN g t k0 k1 nx)
    | 24, _ => exact lw_sw (off := 1290) (pcn := 1330) (by decide) rfl rfl (cs_24 hi hN g t k0 k1 nx)
    | 25, _ => exact lw_sw (off := 1346) (pcn := 1386) (by decide) rfl rfl (cs_25 hi hN g t k0 k1 nx)
    | 26, _ => exact lw_sw (off := 1402) (pcn := 1442) (by decide) rfl rfl (cs_26 hi hN g t k0 k1 nx)
    | 27, _ => exact lw_sw (off := 1458) (pcn := 1498) (by decide) rfl rfl (cs_27 hi hN g t k0 k1 nx)
    | 28, _ => exact lw_sw (off := 1533) (pcn := 1573) (by decide) rfl rfl (cs_28 hi hN g t k0 k1 nx)
    | 29, _ => exact lw_sw (off := 1546) (pcn := 1586) (by decide) rfl rfl (cs_29 hi hN g t k0 k1 nx)
    | 30, _ => exact lw_sw (off := 1602) (pcn := 1642) (by decide) rfl rfl (cs_30 hi hN g t k0 k1 nx)
    | 31, _ => exact lw_sw (off := 1658) (pcn := 1698) (by decide) rfl rfl (cs_31 hi hN g t k0 k1 nx)
    | 32, _ => exact lw_sw (off := 1714) (pcn := 1754) (by decide) rfl rfl (cs_32 hi hN g t k0 k1 nx)
    | 33, _ => exact lw_sw (off := 1770) (pcn := 1810) (by decide) rfl rfl (cs_33 hi hN g t k0 k1 nx)
    | 34, _ => exact lw_sw (off := 1826) (pcn := 1866) (by decide) rfl rfl (cs_34 hi hN g t k0 k1 nx)
    | 35, _ => exact lw_sw (off := 1882) (pcn := 1922) (by decide) rfl rfl (cs_35 hi hN g t k0 k1 nx)
    | 36, _ => exact lw_sw (off := 1938) (pcn := 1978) (by decide) rfl rfl (cs_36 hi hN g t k0 k1 nx)
    | 37, _ => exact lw_sw (off := 1994) (pcn := 2034) (by decide) rfl rfl (cs_37 hi hN g t k0 k1 nx)
    | 38, _ => exact lw_sw (off := 2057) (pcn := 2097) (by decide) rfl rfl (cs_38 hi hN g t k0 k1 nx)
    | 39, _ => exact lw_sw (off := 2113) (pcn := 2153) (by decide) rfl rfl (cs_39 hi hN g t k0 k1 nx)
    | 40, _ => exact lw_sw (off := 2126) (pcn := 2166) (by decide) rfl rfl (cs_40 hi hN g t k0 k1 nx)
    | 41, _ => exact lw_sw (off := 2182) (pcn := 2222) (by decide) rfl rfl (cs_41 hi hN g t k0 k1 nx)
    | 42, _ => exact lw_sw (off := 2238) (pcn := 2278) (by decide) rfl rfl (cs_42 hi hN g t k0 k1 nx)
    | 43, _ => exact lw_sw (off := 2294) (pcn := 2334) (by decide) rfl rfl (cs_43 hi hN g t k0 k1 nx)
    | 44, _ => exact lw_sw (off := 2362) (pcn := 2402) (by decide) rfl rfl (cs_44 hi hN g t k0 k1 nx)
    | 45, _ => exact lw_sw (off := 2418) (pcn := 2458) (by decide) rfl rfl (cs_45 hi hN g t k0 k1 nx)
    | 46, _ => exact lw_sw (off := 2498) (pcn := 2538) (by decide) rfl rfl (cs_46 hi hN g t k0 k1 nx)
    | 47, _ => exact lw_sw (off := 2590) (pcn := 2630) (by decide) rfl rfl (cs_47 hi hN g t k0 k1 nx)
    | 48, _ => exact lw_sw (off := 2670) (pcn := 2710) (by decide) rfl rfl (cs_48 hi hN g t k0 k1 nx)
    | 49, _ => exact lw_sw (off := 2726) (pcn := 2766) (by decide) rfl rfl (cs_49 hi hN g t k0 k1 nx)
    | 50, _ => exact lw_sw (off := 2794) (pcn := 2834) (by decide) rfl rfl (cs_50 hi hN g t k0 k1 nx)
    | 51, _ => exact lw_sw (off := 2850) (pcn := 2890) (by decide) rfl rfl (cs_51 hi hN g t k0 k1 nx)
    | 52, _ => exact lw_sw (off := 2930) (pcn := 2970) (by decide) rfl rfl (cs_52 hi hN g t k0 k1 nx)
    | 53, _ => exact lw_sw (off := 2986) (pcn := 3026) (by decide) rfl rfl (cs_53 hi hN g t k0 k1 nx)
    | 54, _ => exact lw_sw (off := 3042) (pcn := 3082) (by decide) rfl rfl (cs_54 hi hN g t k0 k1 nx)
    | 55, _ => exact lw_sw (off := 3055) (pcn := 3095) (by decide) rfl rfl (cs_55 hi hN g t k0 k1 nx)
    | 56, _ => exact lw_sw (off := 3111) (pcn := 3151) (by decide) rfl rfl (cs_56 hi hN g t k0 k1 nx)
    | 57, _ => exact lw_sw (off := 3155) (pcn := 3195) (by decide) rfl rfl (cs_57 hi hN g t k0 k1 nx)
    | 58, _ => exact lw_sw (off := 3168) (pcn := 3208) (by decide) rfl rfl (cs_58 hi hN g t k0 k1 nx)
    | 59, _ => exact lw_sw (off := 3181) (pcn := 3221) (by decide) rfl rfl (cs_59 hi hN g t k0 k1 nx)
    | n + 60, h => exact absurd (by omega : 60 ≤ n + 60) h
theorem and63 (x : Int32) : ∃ c : Nat, c < 64 ∧ x &&& Int32.ofInt 63 = jI (c : Int) := by
  have h : (x &&& Int32.ofInt 63).toBitVec.toNat ≤ 63 := by
    rw [Int32.toBitVec_and, BitVec.toNat_and]
    exact Nat.and_le_right
  have e : (x &&& Int32.ofInt 63).toInt = ((x &&& Int32.ofInt 63).toBitVec.toNat : Int) := by
    show (x &&& Int32.ofInt 63).toBitVec.toInt = _
    rw [BitVec.toInt_eq_toNat_of_lt (by omega)]
  refine ⟨(x &&& Int32.ofInt 63).toBitVec.toNat, by omega, ?_⟩
  rw [← e, jI_of]
theorem lw_loop (hN : N ≤ 3072) : ∀ (m i : Nat) (J : zJ) (lg : Nat → Nat → Int64) (X5 X6 : Value), N < i + 6 + 6 * m → i ≤ N → GC J J → GT (7 * (i : Int)) J → lw N xs 23 [.ref 1000000, .ref 0, .ref 353, .ref 363, .int (jI (i : Int)), X5, X6] [] J lg (N - i) := by
  have hd : ∀ (i : Nat) (J : zJ) (lg : Nat → Nat → Int64) (X5 X6 : Value) (J' : zJ) (lg' : Nat → Nat → Int64) (u : Nat), hx N xs 385 30 [.ref 1000000, .ref 0, .ref 353, .ref 363, .int (jI (i : Int)), X5, X6] [.int (jI ((N : Int) - 6)), .int (jI (i : Int))] J lg 1 J' lg' u → hx N xs 385 23 [.ref 1000000, .ref 0, .ref 353, .ref 363, .int (jI (i : Int)), X5, X6] [] J lg 1 J' lg' u := by
    intro i J lg X5 X6 J' lg' u h
    refine hx_go 5 (pc' := 30) (L' := [.ref 1000000, .ref 0, .ref 353, .ref 363, .int (jI (i : Int)), X5, X6]) (S' := [.int (Int32.ofNat N - Int32.ofInt 6), .int (jI (i : Int))]) rfl ?_
    have e : Int32.ofNat N - Int32.ofInt 6 = jI ((N : Int) - 6) := jI_sub (N : Int) 6
    rw [e]
    exact h
  have hex : ∀ (i : Nat) (J : zJ) (lg : Nat → Nat → Int64) (X5 X6 : Value), N < i + 6 → i ≤ N → lw N xs 23 [.ref 1000000, .ref 0, .ref 353, .ref 363, .int (jI (i : Int)), X5, X6] [] J lg (N - i) := by
    intro i J lg X5 X6 h h2
    refine ⟨J, lg, 0, hd _ _ _ _ _ _ _ _ ?_, by omega⟩
    refine hx_st (op := (.if_icmp .gt 3241, 3, 3271, 0, 0, 0)) (pc' := 3271) (L' := [.ref 1000000, .ref 0, .ref 353, .ref 363, .int (jI (i : Int)), X5, X6]) (S' := []) (lg1 := lg) rfl ?_ ?_
    · simp only [zstep, zifc]
      rw [if_pos (by rw [jI_lt (by omega) (by omega) (by omega) (by omega)]; omega)]
    · refine hx_go 1 (pc' := 3272) (L' := [.ref 1000000, .ref 0, .ref 353, .ref 363, .int (jI (i : Int)), X5, X6]) (S' := [.int 1]) rfl ?_
      exact hx_endZ rfl rfl (Or.inr rfl)
  intro m
  induction m with
  | zero =>
    intro i J lg X5 X6 h h2 _ _
    exact hex i J lg X5 X6 (by omega) h2
  | succ m ih =>
    intro i J lg X5 X6 h h2 g t
    by_cases hi : i + 6 ≤ N
    · obtain ⟨c, hc, hz⟩ := and63 (xs i)
      have nx : ∀ J' lg' Y5 Y6, GC J' J' → GT (7 * (i : Int) + 42) J' → lw N xs 3265 [.ref 1000000, .ref 0, .ref 353, .ref 363, .int (jI (i : Int)), Y5, Y6] [] J' lg' (N - (i + 6)) := by
        intro J' lg' Y5 Y6 gc gt
        have e7 : 7 * (i : Int) + 42 = 7 * ((i + 6 : Nat) : Int) := by omega
        rw [e7] at gt
        obtain ⟨J9, lg9, u9, h9, b9⟩ := ih (i + 6) J' lg' Y5 Y6 (by omega) hi gc gt
        refine ⟨J9, lg9, u9, ?_, b9⟩
        refine hx_go 2 (pc' := 23) (L' := [.ref 1000000, .ref 0, .ref 353, .ref 363, .int (jI (i : Int) + Int32.ofInt 6), Y5, Y6]) (S' := []) rfl ?_
        have e : jI (i : Int) + Int32.ofInt 6 = jI ((i + 6 : Nat) : Int) := jI_add (i : Int) 6
        rw [e]
        exact h9
      obtain ⟨J9, lg9, u9, h9, b9⟩ := disp (X5 := X5) (X6 := X6) (lg := lg) hc hi hN g t (by omega) (by omega) nx
      refine ⟨J9, lg9, u9, hd _ _ _ _ _ _ _ _ ?_, by omega⟩
      refine hx_st (op := (.if_icmp .gt 3241, 3, 3271, 0, 0, 0)) (pc' := 33) (L' := [.ref 1000000, .ref 0, .ref 353, .ref 363, .int (jI (i : Int)), X5, X6]) (S' := []) (lg1 := lg) rfl ?_ ?_
      · simp only [zstep, zifc]
        rw [if_neg (by rw [jI_lt (by omega) (by omega) (by omega) (by omega)]; omega)]
      · refine hx_go 2 (pc' := 36) (L' := [.ref 1000000, .ref 0, .ref 353, .ref 363, .int (jI (i : Int)), X5, X6]) (S' := [.int (jI (i : Int)), .ref 1000000]) rfl ?_
        refine hx_sc rfl (by omega) hN ?_
        refine hx_go 2 (pc' := 40) (L' := [.ref 1000000, .ref 0, .ref 353, .ref 363, .int (jI (i : Int)), X5, X6]) (S' := [.int (xs i &&& Int32.ofInt 63)]) rfl ?_
        rw [hz]
        exact h9
    · exact hex i J lg X5 X6 (by omega) h2
end
/-! the memory behind the constructors is in order -/
theorem ct_ok {I : zI} (h : ctI I = true) : GC (fun r j => (I r j.toNat).toInt) (fun r j => (I r j.toNat).toInt) ∧ GT 0 (fun r j => (I r j.toNat).toInt) := by
  unfold ctI at h
  rw [Bool.and_eq_true] at h
  obtain ⟨hA, hB⟩ := h
  have hA := List.all_eq_true.mp hA
  have hB := List.all_eq_true.mp hB
  have hv : ∀ (r j v : Nat), (r, j, v) ∈ [(0, 1, 0), (0, 9, 0), (49, 1, 0), (49, 2, 0), (49, 11, 0), (5, 0, 0), (5, 3, 0), (5, 6, 0), (5, 12, 100), (5, 13, 10), (5, 14, 12), (18, 0, 0), (19, 0, 1), (20, 0, 2), (21, 0, 3), (22, 0, 4), (23, 0, 5), (130, 1, 0), (130, 2, 0), (353, 2, 0), (353, 15, 0), (353, 17, 0), (355, 1, 100), (355, 2, 10), (355, 3, 12)] → v < 1000 → (I r j).toInt = (v : Int) := by
    intro r j v hm hlt
    have h1 := hA (r, j, v) hm
    have h2 : I r j = Int32.ofNat v := of_decide_eq_true h1
    rw [h2]
    exact jI_toInt (a := (v : Int)) (by omega) (by omega)
  have e0_1 := hv 0 1 0 (by decide) (by decide)
  have e0_9 := hv 0 9 0 (by decide) (by decide)
  have e49_1 := hv 49 1 0 (by decide) (by decide)
  have e49_2 := hv 49 2 0 (by decide) (by decide)
  have e49_11 := hv 49 11 0 (by decide) (by decide)
  have e5_0 := hv 5 0 0 (by decide) (by decide)
  have e5_3 := hv 5 3 0 (by decide) (by decide)
  have e5_6 := hv 5 6 0 (by decide) (by decide)
  have e5_12 := hv 5 12 100 (by decide) (by decide)
  have e5_13 := hv 5 13 10 (by decide) (by decide)
  have e5_14 := hv 5 14 12 (by decide) (by decide)
  have e130_1 := hv 130 1 0 (by decide) (by decide)
  have e130_2 := hv 130 2 0 (by decide) (by decide)
  have e353_2 := hv 353 2 0 (by decide) (by decide)
  have e353_15 := hv 353 15 0 (by decide) (by decide)
  have e353_17 := hv 353 17 0 (by decide) (by decide)
  have f1 := hv 355 1 100 (by decide) (by decide)
  have f2 := hv 355 2 10 (by decide) (by decide)
  have f3 := hv 355 3 12 (by decide) (by decide)
  have hE : eqS (s000 (fun _ => 0)) (fun j => (I 355 j.toNat).toInt) := by
    intro j j0 j1
    obtain ⟨m, rfl⟩ : ∃ m : Nat, j = m := ⟨j.toNat, by omega⟩
    show s000 (fun _ => 0) (m : Int) = (I 355 (m : Int).toNat).toInt
    rw [Int.toNat_natCast]
    obtain ⟨q1, q2, q3⟩ := s000_123 (fun _ => (0 : Int))
    by_cases c1 : m = 1
    · subst c1; exact q1.trans f1.symm
    · by_cases c2 : m = 2
      · subst c2; exact q2.trans f2.symm
      · by_cases c3 : m = 3
        · subst c3; exact q3.trans f3.symm
        · have h1 := hB m (List.mem_range.mpr (by omega))
          rw [Bool.or_eq_true, Bool.and_eq_true] at h1
          have h2 : I 355 m = if m < 400 then 0 else -1 := by
            rcases h1 with ⟨h1, h2⟩ | h1
            · have := Nat.le_of_ble_eq_true h1
              have := Nat.le_of_ble_eq_true h2
              omega
            · exact of_decide_eq_true h1
          rw [h2]
          by_cases c4 : m < 400
          · rw [if_pos c4, s000_v (by omega)]
            rfl
          · rw [if_neg c4, s000_m (by omega)]
            decide
  have hO := okR_0 (fun _ => (0 : Int))
  have hK := okK_same hO.1 (same_eqS hO.1 hE)
  have hD := okD_eqS hO.1 (okR_D hO 0 (Int.le_refl 0)) hE
  have z0 : (I 355 0).toInt = 0 := (hE 0 (by decide) (by decide)).symm.trans (s000_v (by decide))
  have z4 : (I 355 4).toInt = 0 := (hE 4 (by decide) (by decide)).symm.trans (s000_v (by decide))
  have z5 : (I 355 5).toInt = 0 := (hE 5 (by decide) (by decide)).symm.trans (s000_v (by decide))
  have z6 : (I 355 6).toInt = 0 := (hE 6 (by decide) (by decide)).symm.trans (s000_v (by decide))
  have z7 : (I 355 7).toInt = 0 := (hE 7 (by decide) (by decide)).symm.trans (s000_v (by decide))
  have z8 : (I 355 8).toInt = 0 := (hE 8 (by decide) (by decide)).symm.trans (s000_v (by decide))
  refine ⟨⟨⟨e0_1.trans e353_2.symm, fun i i0 i1 => ?_⟩, ⟨e49_1.trans z0.symm, e49_2.trans z6.symm, e49_11.trans z8.symm, fun p p0 p1 => ?_, fun p p0 p1 => ?_, fun p p0 p1 => ?_, fun p p0 p1 => ?_⟩, ⟨e5_0.trans z5.symm, e5_3.trans z4.symm, e5_6.trans z7.symm, e5_12.trans f1.symm, e5_13.trans f2.symm, e5_14.trans f3.symm, fun g g0 g1 => ?_, fun p p0 p1 => ?_, fun p p0 p1 => ?_, fun p p0 p1 => ?_⟩, ⟨e130_2.trans e353_15.symm, Int.le_of_eq e130_1.symm, ?_, fun i i0 i1 => ?_⟩, e0_9.trans e353_17.symm, fun hq => ?_⟩, ⟨⟨Int.le_of_eq e353_2.symm, ?_, fun i i0 i1 => ?_⟩, hK, hD, ⟨Int.le_of_eq e353_15.symm, ?_, fun i i0 i1 => ?_⟩, Or.inl e353_17, fun hq => ?_⟩⟩
  · exact absurd (show i < (I 353 2).toInt from i1) (by omega)
  · exact absurd (show p < (I 355 6).toInt from p1) (by omega)
  · exact absurd (show p < (I 355 8).toInt from p1) (by omega)
  · exact absurd (show p < (I 355 4).toInt from p1) (by omega)
  · exact absurd (show p < (I 355 7).toInt from p1) (by omega)
  · obtain ⟨m, rfl⟩ : ∃ m : Nat, g = m := ⟨g.toNat, by omega⟩
    show (I (5 + 13 + (m : Int).toNat) 0).toInt = (m : Int)
    rw [Int.toNat_natCast]
    have hm : m < 6 := by omega
    match m, hm with
    | 0, _ => exact hv 18 0 0 (by decide) (by decide)
    | 1, _ => exact hv 19 0 1 (by decide) (by decide)
    | 2, _ => exact hv 20 0 2 (by decide) (by decide)
    | 3, _ => exact hv 21 0 3 (by decide) (by decide)
    | 4, _ => exact hv 22 0 4 (by decide) (by decide)
    | 5, _ => exact hv 23 0 5 (by decide) (by decide)
    | n + 6, h => exact absurd h (by omega)
  · exact absurd (show p < (I 355 5).toInt from p1) (by omega)
  · exact absurd (show p < (I 355 4).toInt from p1) (by omega)
  · exact absurd (show p < (I 355 7).toInt from p1) (by omega)
  · show (I 130 1).toInt < 8
    omega
  · exact absurd (show i < (I 353 15).toInt from i1) (by omega)
  · exact absurd (show (I 353 17).toInt = 1 from hq) (by omega)
  · show (I 353 2).toInt ≤ 900
    omega
  · exact absurd (show i < (I 353 2).toInt from i1) (by omega)
  · show (I 353 15).toInt ≤ 8
    omega
  · exact absurd (show i < (I 353 15).toInt from i1) (by omega)
  · exact absurd (show (I 353 17).toInt = 1 from hq) (by omega)
/-! the law from its first instruction -/
def hz (pc : Nat) (L S : List Value) (M M' : zM) (u : Nat) : Prop := ∃ n d, zx zR zT n d 385 pc L S M = some (.inl (some (.int 1)), M', u)
section
variable {pc l a b c w u : Nat} {L S : List Value} {M M' M1 : zM}
theorem hz_go (k : Nat) {pc' : Nat} {L' S' : List Value} (h : zgo k 385 pc L S M = some (pc', L', S', M)) (g : hz pc' L' S' M M' u) : hz pc L S M M' u := by
  obtain ⟨n, d, e⟩ := g
  exact ⟨n + k, d, (zx_go k _ _ _ _ _ h n d).trans e⟩
theorem hz_new {f : Nat} (hf : zfet (zT 385) pc = some (.new f, l, a, b, c, w)) (ha : a < 50) (hl : M.1.length < 1000000) (g : hz (pc + 3) L (.ref M.1.length :: S) (znewI M a) M' u) : hz pc L S M M' ((zfs a).length + 1 + u) := by
  obtain ⟨n, d, e⟩ := g
  refine ⟨n + 1, d, ?_⟩
  rw [zx_fin hf rfl]
  simp only [zfin]
  rw [if_pos ha, if_pos hl, e]
  rfl
theorem hz_nl {f : ArrayType} (hf : zfet (zT 385) pc = some (.newarray f, l, a, b, c, w)) (ha : a ≠ 0) (hl : M.1.length < 1000000) (g : hz (pc + 2) L (.ref M.1.length :: S) (znewL M 1) M' u) : hz pc L (.int (Int32.ofInt 1) :: S) M M' (2 + u) := by
  obtain ⟨n, d, e⟩ := g
  refine ⟨n + 1, d, ?_⟩
  rw [zx_fin hf rfl]
  simp only [zfin]
  have e1 : (Int32.ofInt 1).toNatClampNeg = 1 := by decide
  rw [if_neg (by rw [e1]; intro h; rcases h with h | h | h; exact absurd h (by decide); omega; omega), if_neg ha, e1, e]
  rfl
theorem hz_call {f u1 : Nat} {v : Option Value} {as S' L0 : List Value} (hf : zfet (zT 385) pc = some (.invokespecial f, l, a, b, c, w)) (ha : a < 9000) (harg : zarg M (zR a) b S = some (as, S')) (hL : as ++ List.replicate (zRl (zR a) - as.length) (.float 0) = L0) (hw : ∃ n d, zx zR zT n d a 0 L0 [] M = some (.inl v, M1, u1)) (g : hz (pc + 3) L (v.toList ++ S') M1 M' u) : hz pc L S M M' (u1 + u) := by
  obtain ⟨n1, d1, h1⟩ := hw
  obtain ⟨n2, d2, h2⟩ := g
  refine ⟨n1 + n2 + 1, d1 + d2 + 1, ?_⟩
  rw [zx_fin hf (by simp only [zstep]; rw [if_neg (by omega)])]
  simp only [zfin]
  unfold zinv
  rw [if_pos ha]
  simp only [harg, hL]
  rw [zx_mono _ _ _ _ _ _ _ _ h1 (n1 + n2) (d1 + d2) (by omega) (by omega)]
  simp only
  rw [zx_mono _ _ _ _ _ _ _ _ h2 (n1 + n2) (d1 + d2 + 1) (by omega) (by omega)]
  rfl
end
theorem len353 : (Hc.take 353).length = 353 := by decide +kernel
theorem len363 : (Hc.take 363).length = 363 := by decide +kernel
theorem at353 : (Hc.take 353 ++ [(110, 24, zfs 10)])[353]? = some (110, 24, zfs 10) := by decide +kernel
theorem all363 : Hc.take 363 ++ [(1, 1, [])] = Hc := by decide +kernel
theorem zgoal : zGoal := by
  intro L xs hL
  obtain ⟨I1, I2, h98, h174, hct⟩ := ctor_ok
  obtain ⟨gc, gt⟩ := ct_ok hct
  have hJ : jm (fun r j => (I2 r j.toNat).toInt) = I2 := by
    funext r j
    show jI ((I2 r ((j : Int)).toNat).toInt) = I2 r j
    rw [Int.toNat_natCast, jI_of]
  generalize hJ0 : (fun (r : Nat) (j : Int) => (I2 r j.toNat).toInt) = J0 at *
  obtain ⟨J', lg', u, ⟨n, d, hrun⟩, hu⟩ := lw_loop (N := L) (xs := xs) hL L 0 J0 (zclr (fun _ _ => 0) 363 0) (.float 0) (.float 0) (by omega) (Nat.zero_le _) gc gt
  rw [hJ] at hrun
  have hz0 : hz 0 ([.ref 1000000] ++ List.replicate 6 (.float 0)) [] (zM0 L xs) (Hc, jm J', (lg', L, xs)) (13 + (7820 + (25 + (10647 + (2 + u))))) := by
    refine hz_new (M := zM0 L xs) (a := 9) rfl (by decide) (show (0 : Nat) < 1000000 by decide) ?_
    refine hz_go 1 (pc' := 4) (L' := [.ref 1000000, .float 0, .float 0, .float 0, .float 0, .float 0, .float 0]) (S' := [.ref 0, .ref 0]) rfl ?_
    refine hz_call (a := 98) (b := 0) (as := [.ref 0]) (S' := [.ref 0]) (v := none) (M1 := (Hc.take 353, I1, (fun _ _ => 0, L, xs))) rfl (by decide) rfl rfl ⟨4000, 20, h98 _⟩ ?_
    refine hz_go 1 (pc' := 8) (L' := [.ref 1000000, .ref 0, .float 0, .float 0, .float 0, .float 0, .float 0]) (S' := []) rfl ?_
    refine hz_new (a := 10) rfl (by decide) (by show (Hc.take 353).length < 1000000; rw [len353]; decide) ?_
    show hz 11 _ (.ref (Hc.take 353).length :: []) (Hc.take 353 ++ [(110, 24, zfs 10)], zclr I1 (Hc.take 353).length 0, (fun _ _ => 0, L, xs)) _ _
    rw [len353]
    refine hz_go 1 (pc' := 12) (L' := [.ref 1000000, .ref 0, .float 0, .float 0, .float 0, .float 0, .float 0]) (S' := [.ref 353, .ref 353]) rfl ?_
    have hrc : zrecv (Hc.take 353 ++ [(110, 24, zfs 10)], zclr I1 353 0, ((fun _ _ => 0, L, xs) : zW)) (zRc (zR 174)) 353 = true := by
      show zrecv (Hc.take 353 ++ [(110, 24, zfs 10)], zclr I1 353 0, ((fun _ _ => 0, L, xs) : zW)) 10 353 = true
      unfold zrecv
      rw [if_pos (by decide)]
      simp only [at353]
      decide
    refine hz_call (a := 174) (b := 0) (as := [.ref 353]) (S' := [.ref 353]) (v := none) (M1 := (Hc.take 363, I2, (fun _ _ => 0, L, xs))) rfl (by decide) (zargI_ok rfl hrc) rfl ⟨9000, 20, h174 _⟩ ?_
    refine hz_go 2 (pc' := 17) (L' := [.ref 1000000, .ref 0, .ref 353, .float 0, .float 0, .float 0, .float 0]) (S' := [.int (Int32.ofInt 1)]) rfl ?_
    refine hz_nl rfl (by decide) (by show (Hc.take 363).length < 1000000; rw [len363]; decide) ?_
    show hz 19 _ (.ref (Hc.take 363).length :: []) (Hc.take 363 ++ [(1, 1, [])], I2, (zclr (fun _ _ => 0) (Hc.take 363).length 0, L, xs)) _ _
    rw [len363, all363]
    refine hz_go 3 (pc' := 23) (L' := [.ref 1000000, .ref 0, .ref 353, .ref 363, .int (jI ((0 : Nat) : Int)), .float 0, .float 0]) (S' := []) rfl ?_
    exact ⟨n, d, hrun⟩
  obtain ⟨n0, d0, h0⟩ := hz0
  obtain ⟨n1, h1⟩ := zdep _ _ _ _ _ _ _ _ (by decide) (by decide) h0
  have hr : zrk 385 = 17 := by decide
  exact ⟨n1, zrk 385, _, _, h1, by omega, by omega⟩
