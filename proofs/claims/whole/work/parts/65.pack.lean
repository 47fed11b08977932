/-! ===== PACKED STATES: fields of a number ===== -/
def fd (s f b : Nat) : Nat := (s >>> f) % 2 ^ b
def wt (s f b v : Nat) : Nat := (s &&& (9223372036854775807 ^^^ ((2 ^ b - 1) <<< f))) ||| (v <<< f)
theorem fd_lt (s f b : Nat) : fd s f b < 2 ^ b := Nat.mod_lt _ (Nat.two_pow_pos b)
theorem fd_bit (s f b i : Nat) : (fd s f b).testBit i = (decide (i < b) && s.testBit (f + i)) := by
  unfold fd
  rw [Nat.testBit_mod_two_pow, Nat.testBit_shiftRight]
theorem m63_bit (i : Nat) : (9223372036854775807 : Nat).testBit i = decide (i < 63) := by
  rw [show (9223372036854775807 : Nat) = 2 ^ 63 - 1 from rfl, Nat.testBit_two_pow_sub_one]
theorem wt_bit {s f b v i : Nat} : (wt s f b v).testBit i = ((s.testBit i && (decide (i < 63) ^^ (decide (f ≤ i) && decide (i - f < b)))) || (decide (f ≤ i) && v.testBit (i - f))) := by
  unfold wt
  rw [Nat.testBit_or, Nat.testBit_and, Nat.testBit_xor, m63_bit, Nat.testBit_shiftLeft, Nat.testBit_two_pow_sub_one, Nat.testBit_shiftLeft]
theorem fd_same {s f b v : Nat} (hf : f + b ≤ 63) (hv : v < 2 ^ b) : fd (wt s f b v) f b = v := by
  apply Nat.eq_of_testBit_eq
  intro i
  rw [fd_bit, wt_bit]
  by_cases h : i < b
  · have h1 : f + i - f = i := by omega
    simp [h, h1, show f + i < 63 by omega]
  · have : v.testBit i = false := Nat.testBit_lt_two_pow (Nat.lt_of_lt_of_le hv (Nat.pow_le_pow_right (by decide) (by omega)))
    simp [h, this]
theorem fd_ne {s f b v f' b' : Nat} (hf : f' + b' ≤ 63) (hv : v < 2 ^ b) (h : f' + b' ≤ f ∨ f + b ≤ f') : fd (wt s f b v) f' b' = fd s f' b' := by
  apply Nat.eq_of_testBit_eq
  intro i
  rw [fd_bit, fd_bit, wt_bit]
  by_cases hi : i < b'
  · rcases h with h | h
    · simp [hi, show ¬ f ≤ f' + i by omega, show f' + i < 63 by omega]
    · have h1 : ¬ (f' + i - f < b) := by omega
      have : v.testBit (f' + i - f) = false := Nat.testBit_lt_two_pow (Nat.lt_of_lt_of_le hv (Nat.pow_le_pow_right (by decide) (by omega)))
      simp [hi, h1, this, show f' + i < 63 by omega]
  · simp [hi]
theorem wt_lt {s f b v n : Nat} (hs : s < 2 ^ n) (hv : v < 2 ^ b) (h : f + b ≤ n) : wt s f b v < 2 ^ n := by
  refine Nat.lt_pow_two_of_testBit _ fun i hi => ?_
  rw [wt_bit, Nat.testBit_lt_two_pow (Nat.lt_of_lt_of_le hs (Nat.pow_le_pow_right (by decide) hi))]
  have : v.testBit (i - f) = false := Nat.testBit_lt_two_pow (Nat.lt_of_lt_of_le hv (Nat.pow_le_pow_right (by decide) (by omega)))
  simp [this]
theorem nj_not {b : Nat} (k : Nat) (hk : k < 63) : (Int64.ofInt (lXor (b : Int) (-1))).toBitVec.getLsbD k = !b.testBit k := by
  unfold lXor
  rw [Int64.ofInt_toInt, Int64.toBitVec_xor, BitVec.getLsbD_xor, Int64.toBitVec_ofInt, BitVec.ofInt_natCast, BitVec.getLsbD_ofNat]
  have : ∀ k : Nat, k < 63 → (Int64.ofInt (-1)).toBitVec.getLsbD k = true := by decide +kernel
  rw [this k hk, decide_eq_true (by omega), Bool.true_and, Bool.xor_true]
theorem nj_andn {a b : Nat} (ha : a < 9223372036854775808) : lAnd (a : Int) (lXor (b : Int) (-1)) = ((a &&& (9223372036854775807 ^^^ b) : Nat) : Int) := by
  have h0 : (Int64.ofInt (a : Int) &&& Int64.ofInt (lXor (b : Int) (-1))).toBitVec.toNat = a &&& (Int64.ofInt (lXor (b : Int) (-1))).toBitVec.toNat := by
    rw [Int64.toBitVec_and, BitVec.toNat_and, nj_o ha]
  have h1 : a &&& (Int64.ofInt (lXor (b : Int) (-1))).toBitVec.toNat = a &&& (9223372036854775807 ^^^ b) := by
    apply Nat.eq_of_testBit_eq
    intro k
    rw [Nat.testBit_and, Nat.testBit_and, Nat.testBit_xor, m63_bit]
    by_cases hk : k < 63
    · have := nj_not (b := b) k hk
      rw [show (Int64.ofInt (lXor (b : Int) (-1))).toBitVec.toNat.testBit k = !b.testBit k from this]
      simp [hk]
    · rw [Nat.testBit_lt_two_pow (Nat.lt_of_lt_of_le ha (show 2 ^ 63 ≤ 2 ^ k from Nat.pow_le_pow_right (by decide) (by omega)))]; simp
  unfold lAnd
  refine nj_i (x := (Int64.ofInt (a : Int) &&& Int64.ofInt (lXor (b : Int) (-1))).toBitVec) (h0.trans h1) (Nat.lt_of_le_of_lt Nat.and_le_left ha)
theorem nu_andb {a m : Nat} (hm : m < 2147483648) : iAnd (a : Int) (m : Int) = ((a &&& m : Nat) : Int) := by
  unfold iAnd
  have h0 : (Int32.ofInt (a : Int)).toBitVec.toNat = a % 4294967296 := by
    rw [Int32.toBitVec_ofInt, BitVec.ofInt_natCast, BitVec.toNat_ofNat]
  have e : (a % 4294967296) &&& m = a &&& m := by
    apply Nat.eq_of_testBit_eq
    intro k
    rw [Nat.testBit_and, Nat.testBit_and, show (4294967296 : Nat) = 2 ^ 32 from rfl, Nat.testBit_mod_two_pow]
    by_cases hk : k < 32
    · simp [hk]
    · rw [Nat.testBit_lt_two_pow (Nat.lt_of_lt_of_le hm (show 2 ^ 31 ≤ 2 ^ k from Nat.pow_le_pow_right (by decide) (by omega)))]; simp
  refine nu_i (x := (Int32.ofInt (a : Int) &&& Int32.ofInt (m : Int)).toBitVec) ?_ (Nat.lt_of_le_of_lt Nat.and_le_right hm)
  rw [Int32.toBitVec_and, BitVec.toNat_and, nu_o hm, h0, e]
/-- a number below 2^b and its field -/
theorem and_fd {s f b : Nat} : (s >>> f) &&& (2 ^ b - 1) = fd s f b := Nat.and_two_pow_sub_one_eq_mod _ _
theorem mo_field_v {s f b : Nat} {M : MM} (hs : s < 9223372036854775808) (hf : f < 63) (hb : b < 31) : mo_field (s : Int) (f : Int) (b : Int) M = some (rI (fd s f b : Nat), M) := by
  unfold mo_field
  rw [nj_shr hs (by omega), nu_one hb, show ((2 ^ b : Nat) : Int) - 1 = ((2 ^ b - 1 : Nat) : Int) by have := Nat.two_pow_pos b; omega]
  have h2 : 2 ^ b ≤ 2 ^ 30 := Nat.pow_le_pow_right (by decide) (by omega)
  rw [nu_andb (by omega), and_fd]
theorem nj_one {k : Nat} (hk : k < 62) : lShl 1 (k : Int) = ((2 ^ k : Nat) : Int) := by
  have := nj_shl (a := 1) (k := k) (by omega) (by rw [Nat.one_shiftLeft]; exact Nat.lt_of_lt_of_le (Nat.pow_lt_pow_right (by decide) hk) (by decide))
  rw [Nat.one_shiftLeft] at this
  exact this
theorem sh_lt {v f b : Nat} (hv : v < 2 ^ b) : v <<< f < 2 ^ (f + b) := by
  rw [Nat.shiftLeft_eq, Nat.pow_add, Nat.mul_comm]
  exact Nat.mul_lt_mul_of_pos_left hv (Nat.two_pow_pos f)
theorem mo_with_v {s f b v : Nat} {M : MM} (hs : s < 9223372036854775808) (hf : f + b ≤ 61) (hb : b < 31) (hv : v < 2 ^ b) : mo_with (s : Int) (f : Int) (b : Int) (v : Int) M = some (rJ (wt s f b v : Nat), M) := by
  unfold mo_with
  have hp : 2 ^ (f + b) ≤ 2 ^ 61 := Nat.pow_le_pow_right (by decide) hf
  have hb2 : 2 ^ b ≤ 2 ^ 30 := Nat.pow_le_pow_right (by decide) (by omega)
  have hb0 := Nat.two_pow_pos b
  have h1 := sh_lt (v := 2 ^ b - 1) (f := f) (b := b) (by omega)
  have h2 := sh_lt (v := v) (f := f) (b := b) hv
  rw [nj_one (by omega), show ((2 ^ b : Nat) : Int) - 1 = ((2 ^ b - 1 : Nat) : Int) by omega, nj_shl (by omega) (by omega), nj_andn hs, nw (by omega), nj_shl (by omega) (by omega), nj_or (Nat.lt_of_le_of_lt Nat.and_le_left hs) (by omega)]
  rfl
