theorem iB_val (x : Int32) : x.toInt8.toInt32.toInt = if x.toBitVec.toNat % 256 < 128 then ((x.toBitVec.toNat % 256 : Nat) : Int) else ((x.toBitVec.toNat % 256 : Nat) : Int) - 256 := by
  rw [Int8.toInt_toInt32]
  show (x.toInt8.toBitVec).toInt = _
  rw [Int32.toBitVec_toInt8, BitVec.toInt_eq_toNat_cond, BitVec.signExtend_eq_setWidth_of_le _ (by decide), BitVec.toNat_setWidth]
  split <;> split <;> omega
-- a byte of an int, without a sign and with one
theorem by4_bit (v : Int32) (s : Nat) (hs : s ≤ 24) (i : Nat) (hi : i < 8) : ((v.toBitVec >>> s).getLsbD i) = ((v.toBitVec.sshiftRight s).getLsbD i) := by
  rw [BitVec.getLsbD_ushiftRight, BitVec.getLsbD_sshiftRight, decide_eq_false (by omega), if_pos (by omega)]
  simp
theorem mod8_eq {x y : BitVec 32} (h : ∀ i, i < 8 → x.getLsbD i = y.getLsbD i) : x.toNat % 256 = y.toNat % 256 := by
  apply Nat.eq_of_testBit_eq
  intro i
  rw [show (256 : Nat) = 2 ^ 8 from rfl, Nat.testBit_mod_two_pow, Nat.testBit_mod_two_pow]
  by_cases hi : i < 8
  · rw [decide_eq_true hi, Bool.true_and, Bool.true_and]
    exact h i hi
  · rw [decide_eq_false hi, Bool.false_and, Bool.false_and]
theorem by4_sg (v : Int) (j : Nat) (hj : j < 4) : 0 ≤ by4 v j ∧ by4 v j < 256 ∧ nB (iB (iShr v (24 - 8 * (j : Int)))) = if by4 v j < 128 then by4 v j else by4 v j - 256 := by
  have hs : 24 - 8 * (j : Int) = ((24 - 8 * j : Nat) : Int) := by omega
  unfold by4
  rw [hs]
  generalize hk : 24 - 8 * j = k
  have hk24 : k ≤ 24 := by omega
  have u1 : ∀ k : Nat, k < 32 → ((Int32.ofInt (k : Int)).toUInt32 &&& Int32.toUInt32 31) = UInt32.ofNat k := by decide +kernel
  have u2 : ∀ k : Nat, k < 32 → (UInt32.ofNat k).toBitVec % 32 = BitVec.ofNat 32 k := by decide +kernel
  have eU : ((Int32.ofInt (iUshr v (k : Int)))).toBitVec = (Int32.ofInt v).toBitVec >>> k := by
    unfold iUshr
    rw [Int32.ofInt_toInt, u1 k (by omega)]
    show ((Int32.ofInt v).toUInt32 >>> UInt32.ofNat k).toBitVec = _
    rw [UInt32.toBitVec_shiftRight, u2 k (by omega), BitVec.ushiftRight_eq', BitVec.toNat_ofNat, Nat.mod_eq_of_lt (by omega)]
    rfl
  have eS : (Int32.ofInt (iShr v (k : Int))).toBitVec = ((Int32.ofInt v).toBitVec).sshiftRight k := by
    unfold iShr
    rw [Int32.ofInt_toInt, Int32.toBitVec_shiftRight, nu_31 (by omega), BitVec.sshiftRight_eq', BitVec.toNat_ofNat, Nat.mod_eq_of_lt (by omega)]
  have eA : iAnd (iUshr v (k : Int)) 255 = ((((Int32.ofInt v).toBitVec >>> k).toNat % 256 : Nat) : Int) := by
    unfold iAnd
    refine nu_i (x := (Int32.ofInt (iUshr v (k : Int)) &&& Int32.ofInt 255).toBitVec) ?_ (by omega)
    rw [Int32.toBitVec_and, eU, BitVec.toNat_and]
    show _ &&& 255 = _
    exact Nat.and_two_pow_sub_one_eq_mod _ 8
  have eM : ((Int32.ofInt v).toBitVec >>> k).toNat % 256 = (((Int32.ofInt v).toBitVec).sshiftRight k).toNat % 256 := mod8_eq fun i hi => by4_bit (Int32.ofInt v) k hk24 i hi
  have eB : nB (iB (iShr v (k : Int))) = if ((((Int32.ofInt v).toBitVec).sshiftRight k).toNat % 256) < 128 then ((((((Int32.ofInt v).toBitVec).sshiftRight k).toNat % 256 : Nat)) : Int) else ((((((Int32.ofInt v).toBitVec).sshiftRight k).toNat % 256 : Nat)) : Int) - 256 := by
    have e1 : iB (iShr v (k : Int)) = _ := iB_val (Int32.ofInt (iShr v (k : Int)))
    rw [eS] at e1
    have e2 : nB (iB (iShr v (k : Int))) = iB (iShr v (k : Int)) := by
      rw [nB_b]
      show (Int32.ofInt ((Int32.ofInt (iShr v (k : Int))).toInt8.toInt32.toInt)).toInt8.toInt32.toInt = _
      rw [Int32.ofInt_toInt, Int8.toInt8_toInt32]
      rfl
    rw [e2, e1]
  rw [eB, eA, eM]
  refine ⟨by omega, by omega, ?_⟩
  split <;> split <;> omega
