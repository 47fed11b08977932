/-! ===== NUMBERS: what the machine does with small ones; sets as numbers ===== -/
theorem nu_i {x : BitVec 32} {n : Nat} (h : x.toNat = n) (hn : n < 2147483648) : x.toInt = (n : Int) := by
  rw [BitVec.toInt_eq_toNat_of_lt (by omega), h]
theorem nu_o {a : Nat} (ha : a < 2147483648) : (Int32.ofInt (a : Int)).toBitVec.toNat = a := by
  rw [Int32.toBitVec_ofInt, BitVec.ofInt_natCast, BitVec.toNat_ofNat, Nat.mod_eq_of_lt (by omega)]
theorem nu_and {a b : Nat} (ha : a < 2147483648) (hb : b < 2147483648) : iAnd (a : Int) (b : Int) = ((a &&& b : Nat) : Int) := by
  unfold iAnd
  refine nu_i (x := (Int32.ofInt (a : Int) &&& Int32.ofInt (b : Int)).toBitVec) ?_ (Nat.lt_of_le_of_lt Nat.and_le_left ha)
  rw [Int32.toBitVec_and, BitVec.toNat_and, nu_o ha, nu_o hb]
theorem nu_or {a b : Nat} (ha : a < 2147483648) (hb : b < 2147483648) : iOr (a : Int) (b : Int) = ((a ||| b : Nat) : Int) := by
  unfold iOr
  refine nu_i (x := (Int32.ofInt (a : Int) ||| Int32.ofInt (b : Int)).toBitVec) ?_ (Nat.or_lt_two_pow (n := 31) ha hb)
  rw [Int32.toBitVec_or, BitVec.toNat_or, nu_o ha, nu_o hb]
theorem nu_31 {k : Nat} (hk : k < 32) : ((Int32.ofInt (k : Int)) &&& 31).toBitVec.smod 32 = BitVec.ofNat 32 k := by
  have : ∀ k : Nat, k < 32 → ((Int32.ofInt (k : Int)) &&& 31).toBitVec.smod 32 = BitVec.ofNat 32 k := by decide +kernel
  exact this k hk
theorem nu_shl {a k : Nat} (hk : k < 31) (ha : a <<< k < 2147483648) : iShl (a : Int) (k : Int) = ((a <<< k : Nat) : Int) := by
  unfold iShl
  refine nu_i (x := (Int32.ofInt (a : Int) <<< (Int32.ofInt (k : Int) &&& 31)).toBitVec) ?_ ha
  have hle : a ≤ a <<< k := by rw [Nat.shiftLeft_eq]; exact Nat.le_mul_of_pos_right _ (Nat.two_pow_pos k)
  rw [Int32.toBitVec_shiftLeft, nu_31 (by omega), BitVec.shiftLeft_eq', BitVec.toNat_shiftLeft, nu_o (by omega), BitVec.toNat_ofNat, Nat.mod_eq_of_lt (show k < 2 ^ 32 by omega), Nat.mod_eq_of_lt (by omega)]
theorem nu_ushr {a k : Nat} (ha : a < 2147483648) (hk : k < 32) : iUshr (a : Int) (k : Int) = ((a >>> k : Nat) : Int) := by
  unfold iUshr
  have h1 : ∀ k : Nat, k < 32 → ((Int32.ofInt (k : Int)).toUInt32 &&& Int32.toUInt32 31) = UInt32.ofNat k := by decide +kernel
  rw [h1 k hk]
  refine nu_i (x := ((Int32.ofInt (a : Int)).toUInt32 >>> UInt32.ofNat k).toBitVec) ?_ (Nat.lt_of_le_of_lt (by rw [Nat.shiftRight_eq_div_pow]; exact Nat.div_le_self _ _) ha)
  rw [UInt32.toBitVec_shiftRight]
  have h2 : ∀ k : Nat, k < 32 → (UInt32.ofNat k).toBitVec % 32 = BitVec.ofNat 32 k := by decide +kernel
  rw [h2 k hk, BitVec.ushiftRight_eq', BitVec.toNat_ushiftRight, BitVec.toNat_ofNat, Nat.mod_eq_of_lt (show k < 2 ^ 32 by omega)]
  rw [show (Int32.ofInt (a : Int)).toUInt32.toBitVec.toNat = a from nu_o ha]
theorem nu_shr {a k : Nat} (ha : a < 2147483648) (hk : k < 32) : iShr (a : Int) (k : Int) = ((a >>> k : Nat) : Int) := by
  unfold iShr
  refine nu_i (x := (Int32.ofInt (a : Int) >>> (Int32.ofInt (k : Int) &&& 31)).toBitVec) ?_ (Nat.lt_of_le_of_lt (by rw [Nat.shiftRight_eq_div_pow]; exact Nat.div_le_self _ _) ha)
  rw [Int32.toBitVec_shiftRight, nu_31 hk, BitVec.sshiftRight_eq', BitVec.toNat_ofNat, Nat.mod_eq_of_lt (show k < 2 ^ 32 by omega), BitVec.sshiftRight_eq_of_msb_false, BitVec.toNat_ushiftRight, nu_o ha]
  rw [BitVec.msb_eq_decide, nu_o ha]
  exact decide_eq_false (by omega)
/-- all but b's bits -/
theorem nu_not {b : Nat} (k : Nat) (hk : k < 31) : (Int32.ofInt (iXor (b : Int) (-1))).toBitVec.getLsbD k = !b.testBit k := by
  unfold iXor
  rw [Int32.ofInt_toInt, Int32.toBitVec_xor, BitVec.getLsbD_xor, Int32.toBitVec_ofInt, BitVec.ofInt_natCast, BitVec.getLsbD_ofNat]
  have : ∀ k : Nat, k < 31 → (Int32.ofInt (-1)).toBitVec.getLsbD k = true := by decide +kernel
  rw [this k hk, decide_eq_true (by omega), Bool.true_and, Bool.xor_true]
theorem nu_andn {a b : Nat} (ha : a < 2147483648) (hb : b < 2147483648) : ∃ c : Nat, iAnd (a : Int) (iXor (b : Int) (-1)) = (c : Int) ∧ c ≤ a ∧ ∀ k, c.testBit k = (a.testBit k && !b.testBit k) := by
  have h0 : (Int32.ofInt (a : Int) &&& Int32.ofInt (iXor (b : Int) (-1))).toBitVec.toNat = a &&& (Int32.ofInt (iXor (b : Int) (-1))).toBitVec.toNat := by
    rw [Int32.toBitVec_and, BitVec.toNat_and, nu_o ha]
  refine ⟨a &&& (Int32.ofInt (iXor (b : Int) (-1))).toBitVec.toNat, nu_i h0 (Nat.lt_of_le_of_lt Nat.and_le_left ha), Nat.and_le_left, fun k => ?_⟩
  rw [Nat.testBit_and]
  by_cases hk : k < 31
  · rw [← nu_not (b := b) k hk]; rfl
  · have : a.testBit k = false := Nat.testBit_lt_two_pow (Nat.lt_of_lt_of_le ha (show 2 ^ 31 ≤ 2 ^ k from Nat.pow_le_pow_right (by decide) (by omega)))
    rw [this, Bool.false_and, Bool.false_and]

-- longs
theorem nj_i {x : BitVec 64} {n : Nat} (h : x.toNat = n) (hn : n < 9223372036854775808) : x.toInt = (n : Int) := by
  rw [BitVec.toInt_eq_toNat_of_lt (by omega), h]
theorem nj_o {a : Nat} (ha : a < 9223372036854775808) : (Int64.ofInt (a : Int)).toBitVec.toNat = a := by
  rw [Int64.toBitVec_ofInt, BitVec.ofInt_natCast, BitVec.toNat_ofNat, Nat.mod_eq_of_lt (by omega)]
theorem nj_and {a b : Nat} (ha : a < 9223372036854775808) (hb : b < 9223372036854775808) : lAnd (a : Int) (b : Int) = ((a &&& b : Nat) : Int) := by
  unfold lAnd
  refine nj_i (x := (Int64.ofInt (a : Int) &&& Int64.ofInt (b : Int)).toBitVec) ?_ (Nat.lt_of_le_of_lt Nat.and_le_left ha)
  rw [Int64.toBitVec_and, BitVec.toNat_and, nj_o ha, nj_o hb]
theorem nj_or {a b : Nat} (ha : a < 9223372036854775808) (hb : b < 9223372036854775808) : lOr (a : Int) (b : Int) = ((a ||| b : Nat) : Int) := by
  unfold lOr
  refine nj_i (x := (Int64.ofInt (a : Int) ||| Int64.ofInt (b : Int)).toBitVec) ?_ (Nat.or_lt_two_pow (n := 63) ha hb)
  rw [Int64.toBitVec_or, BitVec.toNat_or, nj_o ha, nj_o hb]
theorem nj_63 {k : Nat} (hk : k < 64) : (((Int32.ofInt (k : Int)).toInt64) &&& 63).toBitVec.smod 64 = BitVec.ofNat 64 k := by
  have : ∀ k : Nat, k < 64 → (((Int32.ofInt (k : Int)).toInt64) &&& 63).toBitVec.smod 64 = BitVec.ofNat 64 k := by decide +kernel
  exact this k hk
theorem nj_shl {a k : Nat} (hk : k < 63) (ha : a <<< k < 9223372036854775808) : lShl (a : Int) (k : Int) = ((a <<< k : Nat) : Int) := by
  unfold lShl
  refine nj_i (x := (Int64.ofInt (a : Int) <<< (((Int32.ofInt (k : Int)).toInt64) &&& 63)).toBitVec) ?_ ha
  have hle : a ≤ a <<< k := by rw [Nat.shiftLeft_eq]; exact Nat.le_mul_of_pos_right _ (Nat.two_pow_pos k)
  rw [Int64.toBitVec_shiftLeft, nj_63 (by omega), BitVec.shiftLeft_eq', BitVec.toNat_shiftLeft, nj_o (by omega), BitVec.toNat_ofNat, Nat.mod_eq_of_lt (show k < 2 ^ 64 by omega), Nat.mod_eq_of_lt (by omega)]
theorem nj_shr {a k : Nat} (ha : a < 9223372036854775808) (hk : k < 64) : lShr (a : Int) (k : Int) = ((a >>> k : Nat) : Int) := by
  unfold lShr
  refine nj_i (x := (Int64.ofInt (a : Int) >>> (((Int32.ofInt (k : Int)).toInt64) &&& 63)).toBitVec) ?_ (Nat.lt_of_le_of_lt (by rw [Nat.shiftRight_eq_div_pow]; exact Nat.div_le_self _ _) ha)
  rw [Int64.toBitVec_shiftRight, nj_63 hk, BitVec.sshiftRight_eq', BitVec.toNat_ofNat, Nat.mod_eq_of_lt (show k < 2 ^ 64 by omega), BitVec.sshiftRight_eq_of_msb_false, BitVec.toNat_ushiftRight, nj_o ha]
  rw [BitVec.msb_eq_decide, nj_o ha]
  exact decide_eq_false (by omega)
theorem nj_ushr {a k : Nat} (ha : a < 9223372036854775808) (hk : k < 64) : lUshr (a : Int) (k : Int) = ((a >>> k : Nat) : Int) := by
  unfold lUshr
  have h1 : ∀ k : Nat, k < 64 → (((Int32.ofInt (k : Int)).toInt64).toUInt64 &&& Int64.toUInt64 63) = UInt64.ofNat k := by decide +kernel
  rw [h1 k hk]
  refine nj_i (x := ((Int64.ofInt (a : Int)).toUInt64 >>> UInt64.ofNat k).toBitVec) ?_ (Nat.lt_of_le_of_lt (by rw [Nat.shiftRight_eq_div_pow]; exact Nat.div_le_self _ _) ha)
  rw [UInt64.toBitVec_shiftRight]
  have h2 : ∀ k : Nat, k < 64 → (UInt64.ofNat k).toBitVec % 64 = BitVec.ofNat 64 k := by decide +kernel
  rw [h2 k hk, BitVec.ushiftRight_eq', BitVec.toNat_ushiftRight, BitVec.toNat_ofNat, Nat.mod_eq_of_lt (show k < 2 ^ 64 by omega)]
  rw [show (Int64.ofInt (a : Int)).toUInt64.toBitVec.toNat = a from nj_o ha]
-- comparisons of small ones
abbrev I32 (z : Int) : Prop := -2147483648 ≤ z ∧ z < 2147483648
theorem nw {z : Int} (h : I32 z) : w32 z = z := Int32.toInt_ofInt_of_le h.1 (by have := h.2; omega)
section NumRows
variable {a b : Int}
theorem cq_eq (ha : I32 a) (hb : I32 b) : cmpB .eq a b = decide (a = b) := by show decide (w32 a = w32 b) = _; rw [nw ha, nw hb]
theorem cq_ne (ha : I32 a) (hb : I32 b) : cmpB .ne a b = decide (¬ a = b) := by show decide (¬ w32 a = w32 b) = _; rw [nw ha, nw hb]
theorem cq_lt (ha : I32 a) (hb : I32 b) : cmpB .lt a b = decide (a < b) := by show decide (w32 a < w32 b) = _; rw [nw ha, nw hb]
theorem cq_ge (ha : I32 a) (hb : I32 b) : cmpB .ge a b = decide (b ≤ a) := by show decide (w32 b ≤ w32 a) = _; rw [nw ha, nw hb]
theorem cq_gt (ha : I32 a) (hb : I32 b) : cmpB .gt a b = decide (b < a) := by show decide (w32 b < w32 a) = _; rw [nw ha, nw hb]
theorem cq_le (ha : I32 a) (hb : I32 b) : cmpB .le a b = decide (a ≤ b) := by show decide (w32 a ≤ w32 b) = _; rw [nw ha, nw hb]
end NumRows
theorem inB_t {i : Int} {n : Nat} (h0 : 0 ≤ i) (h1 : i < n) : inB i n = true := by
  unfold inB
  rw [decide_eq_true h0, decide_eq_true h1]; rfl
theorem inB_n {i n : Nat} (h : i < n) : inB (i : Int) n = true := inB_t (Int.natCast_nonneg i) (Int.ofNat_lt.mpr h)
-- sets as numbers
def bset : Nat → (Nat → Bool) → Nat
  | 0, _ => 0
  | n + 1, f => bset n f ||| (bif f n then 2 ^ n else 0)
theorem bset_bit (f : Nat → Bool) (k : Nat) : ∀ n, (bset n f).testBit k = (decide (k < n) && f k)
  | 0 => by
    show (0 : Nat).testBit k = _
    rw [Nat.zero_testBit, decide_eq_false (Nat.not_lt_zero k), Bool.false_and]
  | n + 1 => by
    show (bset n f ||| (bif f n then 2 ^ n else 0)).testBit k = _
    rw [Nat.testBit_or, bset_bit f k n]
    by_cases h : k = n
    · subst h
      rw [decide_eq_false (Nat.lt_irrefl k), decide_eq_true (Nat.lt_succ_self k), Bool.false_and, Bool.false_or, Bool.true_and]
      cases f k with
      | true => exact Nat.testBit_two_pow_self
      | false => exact Nat.zero_testBit k
    · have e : (bif f n then 2 ^ n else 0).testBit k = false := by
        cases f n with
        | true => exact Nat.testBit_two_pow_of_ne (Ne.symm h)
        | false => exact Nat.zero_testBit k
      rw [e, Bool.or_false]
      by_cases hk : k < n
      · rw [decide_eq_true hk, decide_eq_true (Nat.lt_succ_of_lt hk)]
      · rw [decide_eq_false hk, decide_eq_false (by omega)]
theorem bset_lt (f : Nat → Bool) (n : Nat) : bset n f < 2 ^ n := Nat.lt_pow_two_of_testBit _ fun k hk => by rw [bset_bit, decide_eq_false (by omega), Bool.false_and]
theorem bset_eq {n x : Nat} {f : Nat → Bool} (h : ∀ k, x.testBit k = (decide (k < n) && f k)) : x = bset n f := Nat.eq_of_testBit_eq fun k => by rw [h, bset_bit]
