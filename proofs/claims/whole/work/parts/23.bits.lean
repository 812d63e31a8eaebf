/-! ===== Int32 by its bits: bt x i ===== -/
def bt (x : Int32) (i : Nat) : Bool := x.toBitVec.getLsbD i
theorem b_ext {x y : Int32} (h : ∀ i, i < 32 → bt x i = bt y i) : x = y := Int32.toBitVec_inj.mp (BitVec.eq_of_getLsbD_eq (fun i hi => h i hi))
theorem b_or (x y : Int32) (i : Nat) : bt (x ||| y) i = (bt x i || bt y i) := by unfold bt; rw [Int32.toBitVec_or, BitVec.getLsbD_or]
theorem b_and (x y : Int32) (i : Nat) : bt (x &&& y) i = (bt x i && bt y i) := by unfold bt; rw [Int32.toBitVec_and, BitVec.getLsbD_and]
theorem b_xor (x y : Int32) (i : Nat) : bt (x ^^^ y) i = (bt x i ^^ bt y i) := by unfold bt; rw [Int32.toBitVec_xor, BitVec.getLsbD_xor]
theorem b_big {x : Int32} {i : Nat} (h : 32 ≤ i) : bt x i = false := BitVec.getLsbD_of_ge _ _ h
theorem b_255 (i : Nat) : bt 255 i = decide (i < 8) := by
  rcases Nat.lt_or_ge i 32 with h | h
  · exact (by decide +kernel : ∀ i, i < 32 → bt 255 i = decide (i < 8)) i h
  · rw [b_big h, decide_eq_false (by omega)]
theorem b_65535 (i : Nat) : bt 65535 i = decide (i < 16) := by
  rcases Nat.lt_or_ge i 32 with h | h
  · exact (by decide +kernel : ∀ i, i < 32 → bt 65535 i = decide (i < 16)) i h
  · rw [b_big h, decide_eq_false (by omega)]
theorem b_m1 : ∀ i, i < 32 → bt (-1) i = true := by decide +kernel
theorem b_0 (i : Nat) : bt 0 i = false := BitVec.getLsbD_zero
theorem s_l : ∀ n, n < 32 → ((nI n &&& 31).toBitVec.smod 32).toNat = n := by decide +kernel
theorem s_u : ∀ n, n < 32 → (((nI n).toUInt32 &&& Int32.toUInt32 31).toBitVec % 32).toNat = n := by decide +kernel
theorem b_shl (n : Nat) (hn : n < 32) (x : Int32) {i : Nat} (hi : i < 32) : bt (x <<< (nI n &&& 31)) i = (decide (n ≤ i) && bt x (i - n)) := by
  unfold bt
  rw [Int32.toBitVec_shiftLeft]
  show (x.toBitVec <<< ((nI n &&& 31).toBitVec.smod 32).toNat).getLsbD i = _
  rw [s_l n hn, BitVec.getLsbD_shiftLeft]
  rcases Nat.lt_or_ge i n with h | h
  · simp [h, Nat.not_le.mpr h]
  · simp [hi, h, Nat.not_lt.mpr h]
theorem b_ushr (n : Nat) (hn : n < 32) (x : Int32) (i : Nat) : bt ((x.toUInt32 >>> ((nI n).toUInt32 &&& Int32.toUInt32 31)).toInt32) i = bt x (n + i) := by
  show (x.toUInt32 >>> ((nI n).toUInt32 &&& Int32.toUInt32 31)).toBitVec.getLsbD i = x.toUInt32.toBitVec.getLsbD (n + i)
  rw [UInt32.toBitVec_shiftRight]
  show (x.toUInt32.toBitVec >>> (((nI n).toUInt32 &&& Int32.toUInt32 31).toBitVec % 32).toNat).getLsbD i = _
  rw [s_u n hn, BitVec.getLsbD_ushiftRight]
theorem b_sshr (n : Nat) (hn : n < 32) (x : Int32) {i : Nat} (hi : i < 32) : bt (x >>> (nI n &&& 31)) i = if n + i < 32 then bt x (n + i) else bt x 31 := by
  unfold bt
  rw [Int32.toBitVec_shiftRight]
  show (x.toBitVec.sshiftRight ((nI n &&& 31).toBitVec.smod 32).toNat).getLsbD i = _
  rw [s_l n hn, BitVec.getLsbD_sshiftRight, BitVec.msb_eq_getLsbD_last]
  simp [hi]
theorem b_shl8 (x : Int32) {i : Nat} (hi : i < 32) : bt (x <<< ((8 : Int32) &&& 31)) i = (decide (8 ≤ i) && bt x (i - 8)) := b_shl 8 (by omega) x hi
theorem b_shl16 (x : Int32) {i : Nat} (hi : i < 32) : bt (x <<< ((16 : Int32) &&& 31)) i = (decide (16 ≤ i) && bt x (i - 16)) := b_shl 16 (by omega) x hi
theorem b_shl24 (x : Int32) {i : Nat} (hi : i < 32) : bt (x <<< ((24 : Int32) &&& 31)) i = (decide (24 ≤ i) && bt x (i - 24)) := b_shl 24 (by omega) x hi
theorem b_sshr8 (x : Int32) {i : Nat} (hi : i < 32) : bt (x >>> ((8 : Int32) &&& 31)) i = if 8 + i < 32 then bt x (8 + i) else bt x 31 := b_sshr 8 (by omega) x hi
/-! ===== masks (own rows) ===== -/
theorem jI_n {k : Int} (h : 0 ≤ k) : jI k = nI k.toNat := by
  have e : k = ((k.toNat : Nat) : Int) := (Int.toNat_of_nonneg h).symm
  rw [e]
  exact (jI_nat k.toNat).symm
theorem b_1 (i : Nat) : bt 1 i = decide (i = 0) := by
  by_cases h : i < 32
  · exact (by decide +kernel : ∀ i, i < 32 → bt 1 i = decide (i = 0)) i h
  · rw [b_big (by omega), decide_eq_false (by omega)]
theorem b_b2 (b : Bool) (i : Nat) : bt (b2 b) i = (b && decide (i = 0)) := by
  cases b
  · exact b_0 i
  · exact b_1 i
theorem jb_u {x : Int32} {k : Int} (h0 : 0 ≤ k) (h1 : k < 32) : (jushr x (jI k)) &&& 1 = b2 (bt x k.toNat) := by
  refine b_ext (fun i hi => ?_)
  rw [b_and, b_1, b_b2, jI_n h0]
  unfold jushr
  rw [b_ushr k.toNat (by omega)]
  by_cases e : i = 0
  · subst e; simp
  · simp [e]
theorem jb_s {x : Int32} {k : Int} (h0 : 0 ≤ k) (h1 : k < 32) : (x >>> (jI k &&& 31)) &&& 1 = b2 (bt x k.toNat) := by
  refine b_ext (fun i hi => ?_)
  rw [b_and, b_1, b_b2, jI_n h0, b_sshr k.toNat (by omega) x hi]
  by_cases e : i = 0
  · subst e
    rw [if_pos (by omega)]
    simp
  · simp [e]
theorem b_one {k : Int} (h0 : 0 ≤ k) (h1 : k < 32) {i : Nat} (hi : i < 32) : bt ((1 : Int32) <<< (jI k &&& 31)) i = decide (i = k.toNat) := by
  rw [jI_n h0, b_shl k.toNat (by omega) 1 hi, b_1]
  by_cases e : i = k.toNat
  · subst e; simp
  · by_cases e2 : k.toNat ≤ i
    · rw [decide_eq_true e2, decide_eq_false (by omega), decide_eq_false e]; rfl
    · rw [decide_eq_false e2, decide_eq_false e]; rfl
/-- the mask of p on the first n places -/
def mskN (p : Nat → Bool) : Nat → Int32
  | 0 => 0
  | n + 1 => mskN p n ||| (if p n = true then (1 : Int32) <<< (jI n &&& 31) else 0)
theorem b_msk (p : Nat → Bool) : ∀ (n : Nat), n ≤ 32 → ∀ i, i < 32 → bt (mskN p n) i = (decide (i < n) && p i) := by
  intro n
  induction n with
  | zero => intro _ i hi; rw [show mskN p 0 = 0 from rfl, b_0]; simp
  | succ n ih =>
    intro hn i hi
    unfold mskN
    rw [b_or, ih (by omega) i hi]
    by_cases hp : p n = true
    · rw [if_pos hp, b_one (by omega) (by omega) hi]
      by_cases e : i = n
      · subst e; simp [hp]
      · have e2 : decide (i = (n : Int).toNat) = false := decide_eq_false (by omega)
        rw [e2, Bool.or_false]
        by_cases q : i < n
        · rw [decide_eq_true q, decide_eq_true (by omega)]
        · rw [decide_eq_false q, decide_eq_false (by omega)]
    · rw [if_neg hp, b_0, Bool.or_false]
      by_cases e : i = n
      · subst e
        rw [Bool.not_eq_true] at hp
        simp [hp]
      · by_cases q : i < n
        · rw [decide_eq_true q, decide_eq_true (by omega)]
        · rw [decide_eq_false q, decide_eq_false (by omega)]
